-- a contract out of a walk, also for classes of the JDK of which other methods are the machine's own
theorem qm_MetF {l : Launch} {y : MethodName} {ws ws' : List Cond} {rm : Room} {Pc : Array Value → State → Prop} {Qc : Array Value → State → Outcome → State → Prop} {mc ms : Nat} {free : Addr → Prop} {cc : ByteArray} {maxL : Nat} {ret : Option FieldType}
    (hy : plainFor y = true) (hw : ws = Cond.code y cc maxL ret :: ws')
    (body : ∀ p e s m args below meth c s₁, BodyLoose p l y (headSpec ws rm) cc maxL ret e s m args below meth c s₁ → c.maxLocals = maxL → Pc args s →
      W p l e (headSpec ws rm).room s m args below meth c s.heap [] 0 0 (MQ below Qc args s mc ms free) (entryFrame m args maxL)) : Met l y ws rm Pc Qc mc ms free := by
  refine MetFree.of_bodySF (code := cc) (maxLocals := maxL) (ret := ret) hy ?_ ?_
  · intro args s m h hn
    obtain ⟨meth, c, h1, h2, h3, h4, h5, h6, -, -⟩ := Cond.code_spec hn (atoms_spec (ws := ws) h _ (by rw [hw]; exact List.mem_cons_self))
    exact ⟨meth, c, h1, h2, h3, h4, h5, h6⟩
  · intro p e s m args below meth c s₁ B hml hP _
    have hh0 : s₁.heap = s.heap := by rw [B.state]; rfl
    obtain ⟨t, a1, o, b1, b2, b3⟩ := body p e s m args below meth c s₁ B hml hP s₁ hh0 (Stand.of_body B)
    exact ⟨t, o, a1, b1, b2, ⟨b3.1, b3.2⟩⟩
theorem qm_ofWpF {l : Launch} {E : qm_E} {d : Nat} {y : MethodName} {cc : ByteArray} {nL : Nat} {ret : Option FieldType} {As : List Value} {σ : qm_M} {r : Option Value × qm_M} (hy : plainFor y = true) (hA : (lg_sl As).length ≤ nL) (hrt : qm_rt ret r.1)
    (k : qm_Wp l E d y.cls cc nL 0 (lv_args 0 As) [] σ r) : qm_Ct l E d y cc nL ret As σ r := by
  refine qm_MetF (cc := cc) (maxL := nL) (ret := ret) hy rfl ?_
  intro p e s m args below meth c s₁ B hml hv
  obtain ⟨rfl, hH, hK, hZ⟩ := hv
  have hts0 := atoms_spec (ws := Cond.code y cc nL ret :: qm_ws) B.pre
  have hown : s.vm.findClass y.cls = some m.cls := findClass_of_methodNamed B.named
  have hl := lv_entry As (n := nL) hA
  rw [lg_entry_eq]
  have hr := B.returns
  have hlk : meth.locks = false := B.notSynchronized
  refine k p e (qm_rm d) s m As.toArray below meth c 0 0 _ ⟨B.exec, B.bytes, hml, hown, fun w hw => hts0 w (List.mem_cons_of_mem _ hw), hK, hZ, ⟨Nat.le_refl _, Nat.le_refl _⟩, ⟨Nat.le_refl _, Nat.le_refl _⟩⟩ ?_ s.heap [] _ hH va_S.rf hl
  intro H locs ls pc' hH' hS hd
  have hq : ∀ t : State, t.heap = H → s.WarmedH t.vm → qm_Q E r As.toArray s (.returned r.1) t := by
    intro t ht hW
    refine ⟨rfl, ⟨by rw [ht]; exact hH', hK.warm hW, ?_⟩, hS.F ht⟩
    rw [ht]
    exact (hZ.moved hW.alike).kept hS.2.1
  obtain ⟨v, τ⟩ := r
  cases v with
  | none => exact W.vret B.exec B.bytes (hr.trans hrt) hq hS.2.2 hd hlk
  | some w =>
    cases w with
    | int x =>
      rcases hrt with h | ⟨h, h2⟩
      · exact W.iret B.exec B.bytes (hr.trans h) hq hS.2.2 hd hlk
      · exact W.zret B.exec B.bytes (hr.trans h) (by rcases h2 with rfl | rfl <;> rfl) hq hS.2.2 hd hlk
    | long x => exact W.lret B.exec B.bytes (hr.trans hrt) hq hS.2.2 hd hlk
    | _ => exact hrt.elim
-- loops, checks, binds
def qm_b (b : Bool) : Int32 := if b then 1 else 0
def qm_loop {S R : Type} (body : S → Option (S ⊕ R)) : Nat → S → Option R
  | 0, _ => none
  | n + 1, s => match body s with
    | none => none
    | some (.inl s') => qm_loop body n s'
    | some (.inr r) => some r
def qm_T {S R ρ : Type} (P : S → ρ → Prop) (T1 : R → ρ → Prop) : S ⊕ R → ρ → Prop
  | .inl s, r => P s r
  | .inr x, r => T1 x r
theorem qm_loop_T {S R ρ : Type} {P : S → ρ → Prop} {T1 : R → ρ → Prop} {body : S → Option (S ⊕ R)} (hb : ∀ (s : S) (x : S ⊕ R), body s = some x → ∀ r, qm_T P T1 x r → P s r) : ∀ {n : Nat} {s : S} {y : R}, qm_loop body n s = some y → ∀ {r : ρ}, T1 y r → P s r
  | 0, s, y, h, r, _ => by cases h
  | n + 1, s, y, h, r, hT => by
    unfold qm_loop at h
    cases hx : body s with
    | none => rw [hx] at h; cases h
    | some x =>
      rw [hx] at h
      cases x with
      | inl s' => exact hb s _ hx r (qm_loop_T hb (n := n) (s := s') h hT)
      | inr x' => cases h; exact hb s _ hx r hT
theorem qm_bind {α β : Type} {o : Option α} {f : α → Option β} {y : β} (h : o.bind f = some y) : ∃ a, o = some a ∧ f a = some y := by
  cases o with
  | none => cases h
  | some a => exact ⟨a, rfl, h⟩
theorem qm_chk {α : Type} {c : Prop} [Decidable c] {o : Option α} {y : α} (h : (if c then o else none) = some y) : c ∧ o = some y := by
  by_cases hc : c
  · rw [if_pos hc] at h; exact ⟨hc, h⟩
  · rw [if_neg hc] at h; cases h
theorem qm_rtz (b : Bool) : qm_rt (some .boolean) (some (.int (qm_b b))) := Or.inr ⟨rfl, by cases b <;> simp [qm_b]⟩
section QME
variable {l : Launch} {E : qm_E} {d : Nat} {own : String} {cc : ByteArray} {nL : Nat} {pc : Nat} {lv : List (Nat × Value)} {st : List Value} {σ : qm_M} {r : Option Value × qm_M}
theorem qr_eqi {x y : Int32} (h : x = y) (k : qm_Wp l E d own cc nL pc lv (.int y :: st) σ r) : qm_Wp l E d own cc nL pc lv (.int x :: st) σ r := h ▸ k
theorem qr_eqj {x y : Int64} (h : x = y) (k : qm_Wp l E d own cc nL pc lv (.long y :: st) σ r) : qm_Wp l E d own cc nL pc lv (.long x :: st) σ r := h ▸ k
theorem qr_eqm {τ : qm_M} (h : σ = τ) (k : qm_Wp l E d own cc nL pc lv st τ r) : qm_Wp l E d own cc nL pc lv st σ r := h ▸ k
theorem qr_call1 {st0 st1 st2 : List Value} {σ1 : qm_M} (hs : st2 = st1) (k : qm_Wp l E d own cc nL (pc + 3) lv st2 σ1 r → qm_Wp l E d own cc nL pc lv st0 σ r) (kk : qm_Wp l E d own cc nL (pc + 3) lv st1 σ1 r) : qm_Wp l E d own cc nL pc lv st0 σ r := k (hs ▸ kk)
end QME
theorem qm_k_arr {t : Nat} (h : qm_kind t = 2) : qm_kind (t + 1) = 9 := (show ∀ t, t < 218 → qm_kind t = 2 → qm_kind (t + 1) = 9 by decide +kernel) t (qm_kind_big (by omega)) h
theorem qm_k_str {a : Nat} {i : Int32} (h : qm_kind a = 9) (hi : vp_in i 13) : qm_kind (a + 1 + i.toNatClampNeg) = 1 := (show ∀ a, a < 218 → qm_kind a = 9 → ∀ j, j < 13 → qm_kind (a + 1 + j) = 1 by decide +kernel) a (qm_kind_big (by omega)) h _ (Nat.not_le.mp fun q => hi (Or.inr q))
theorem qm_k_tree {i : Int32} (hi : vp_in i 5) : qm_kind (32 * (i.toNatClampNeg + 1)) = 2 := (show ∀ j, j < 5 → qm_kind (32 * (j + 1)) = 2 by decide +kernel) _ (Nat.not_le.mp fun q => hi (Or.inr q))
theorem dJ_bitCount_0 : decode prog_10_method_49_code 0 = .ok (.iload_n 0, 1) := by decide +kernel
theorem dJ_bitCount_1 : decode prog_10_method_49_code 1 = .ok (.iload_n 0, 1) := by decide +kernel
theorem dJ_bitCount_2 : decode prog_10_method_49_code 2 = .ok (.iconst 1, 1) := by decide +kernel
theorem dJ_bitCount_3 : decode prog_10_method_49_code 3 = .ok (.iushr, 1) := by decide +kernel
theorem dJ_bitCount_4 : decode prog_10_method_49_code 4 = .ok (.ldc_w 265, 3) := by decide +kernel
theorem dJ_bitCount_7 : decode prog_10_method_49_code 7 = .ok (.iand, 1) := by decide +kernel
theorem dJ_bitCount_8 : decode prog_10_method_49_code 8 = .ok (.isub, 1) := by decide +kernel
theorem dJ_bitCount_9 : decode prog_10_method_49_code 9 = .ok (.istore_n 0, 1) := by decide +kernel
theorem dJ_bitCount_10 : decode prog_10_method_49_code 10 = .ok (.iload_n 0, 1) := by decide +kernel
theorem dJ_bitCount_11 : decode prog_10_method_49_code 11 = .ok (.ldc_w 266, 3) := by decide +kernel
theorem dJ_bitCount_14 : decode prog_10_method_49_code 14 = .ok (.iand, 1) := by decide +kernel
theorem dJ_bitCount_15 : decode prog_10_method_49_code 15 = .ok (.iload_n 0, 1) := by decide +kernel
theorem dJ_bitCount_16 : decode prog_10_method_49_code 16 = .ok (.iconst 2, 1) := by decide +kernel
theorem dJ_bitCount_17 : decode prog_10_method_49_code 17 = .ok (.iushr, 1) := by decide +kernel
theorem dJ_bitCount_18 : decode prog_10_method_49_code 18 = .ok (.ldc_w 266, 3) := by decide +kernel
theorem dJ_bitCount_21 : decode prog_10_method_49_code 21 = .ok (.iand, 1) := by decide +kernel
theorem dJ_bitCount_22 : decode prog_10_method_49_code 22 = .ok (.iadd, 1) := by decide +kernel
theorem dJ_bitCount_23 : decode prog_10_method_49_code 23 = .ok (.istore_n 0, 1) := by decide +kernel
theorem dJ_bitCount_24 : decode prog_10_method_49_code 24 = .ok (.iload_n 0, 1) := by decide +kernel
theorem dJ_bitCount_25 : decode prog_10_method_49_code 25 = .ok (.iload_n 0, 1) := by decide +kernel
theorem dJ_bitCount_26 : decode prog_10_method_49_code 26 = .ok (.iconst 4, 1) := by decide +kernel
theorem dJ_bitCount_27 : decode prog_10_method_49_code 27 = .ok (.iushr, 1) := by decide +kernel
theorem dJ_bitCount_28 : decode prog_10_method_49_code 28 = .ok (.iadd, 1) := by decide +kernel
theorem dJ_bitCount_29 : decode prog_10_method_49_code 29 = .ok (.ldc_w 267, 3) := by decide +kernel
theorem dJ_bitCount_32 : decode prog_10_method_49_code 32 = .ok (.iand, 1) := by decide +kernel
theorem dJ_bitCount_33 : decode prog_10_method_49_code 33 = .ok (.istore_n 0, 1) := by decide +kernel
theorem dJ_bitCount_34 : decode prog_10_method_49_code 34 = .ok (.iload_n 0, 1) := by decide +kernel
theorem dJ_bitCount_35 : decode prog_10_method_49_code 35 = .ok (.iload_n 0, 1) := by decide +kernel
theorem dJ_bitCount_36 : decode prog_10_method_49_code 36 = .ok (.bipush 8, 2) := by decide +kernel
theorem dJ_bitCount_38 : decode prog_10_method_49_code 38 = .ok (.iushr, 1) := by decide +kernel
theorem dJ_bitCount_39 : decode prog_10_method_49_code 39 = .ok (.iadd, 1) := by decide +kernel
theorem dJ_bitCount_40 : decode prog_10_method_49_code 40 = .ok (.istore_n 0, 1) := by decide +kernel
theorem dJ_bitCount_41 : decode prog_10_method_49_code 41 = .ok (.iload_n 0, 1) := by decide +kernel
theorem dJ_bitCount_42 : decode prog_10_method_49_code 42 = .ok (.iload_n 0, 1) := by decide +kernel
theorem dJ_bitCount_43 : decode prog_10_method_49_code 43 = .ok (.bipush 16, 2) := by decide +kernel
theorem dJ_bitCount_45 : decode prog_10_method_49_code 45 = .ok (.iushr, 1) := by decide +kernel
theorem dJ_bitCount_46 : decode prog_10_method_49_code 46 = .ok (.iadd, 1) := by decide +kernel
theorem dJ_bitCount_47 : decode prog_10_method_49_code 47 = .ok (.istore_n 0, 1) := by decide +kernel
theorem dJ_bitCount_48 : decode prog_10_method_49_code 48 = .ok (.iload_n 0, 1) := by decide +kernel
theorem dJ_bitCount_49 : decode prog_10_method_49_code 49 = .ok (.bipush 63, 2) := by decide +kernel
theorem dJ_bitCount_51 : decode prog_10_method_49_code 51 = .ok (.iand, 1) := by decide +kernel
theorem dJ_bitCount_52 : decode prog_10_method_49_code 52 = .ok (.ireturn, 1) := by decide +kernel
def yJ_bitCount : MethodName := ⟨"java/lang/Integer", "bitCount", "(I)I"⟩
theorem dJ_max_0 : decode prog_11_method_65_code 0 = .ok (.iload_n 0, 1) := by decide +kernel
theorem dJ_max_1 : decode prog_11_method_65_code 1 = .ok (.iload_n 1, 1) := by decide +kernel
theorem dJ_max_2 : decode prog_11_method_65_code 2 = .ok (.if_icmp .lt 7, 3) := by decide +kernel
theorem dJ_max_5 : decode prog_11_method_65_code 5 = .ok (.iload_n 0, 1) := by decide +kernel
theorem dJ_max_6 : decode prog_11_method_65_code 6 = .ok (.goto 4, 3) := by decide +kernel
theorem dJ_max_9 : decode prog_11_method_65_code 9 = .ok (.iload_n 1, 1) := by decide +kernel
theorem dJ_max_10 : decode prog_11_method_65_code 10 = .ok (.ireturn, 1) := by decide +kernel
def yJ_max : MethodName := ⟨"java/lang/Math", "max", "(II)I"⟩
theorem dJl_max_0 : decode prog_11_method_66_code 0 = .ok (.lload_n 0, 1) := by decide +kernel
theorem dJl_max_1 : decode prog_11_method_66_code 1 = .ok (.lload_n 2, 1) := by decide +kernel
theorem dJl_max_2 : decode prog_11_method_66_code 2 = .ok (.lcmp, 1) := by decide +kernel
theorem dJl_max_3 : decode prog_11_method_66_code 3 = .ok (.ifCond .lt 7, 3) := by decide +kernel
theorem dJl_max_6 : decode prog_11_method_66_code 6 = .ok (.lload_n 0, 1) := by decide +kernel
theorem dJl_max_7 : decode prog_11_method_66_code 7 = .ok (.goto 4, 3) := by decide +kernel
theorem dJl_max_10 : decode prog_11_method_66_code 10 = .ok (.lload_n 2, 1) := by decide +kernel
theorem dJl_max_11 : decode prog_11_method_66_code 11 = .ok (.lreturn, 1) := by decide +kernel
def yJl_max : MethodName := ⟨"java/lang/Math", "max", "(JJ)J"⟩
theorem dJ_min_0 : decode prog_11_method_69_code 0 = .ok (.iload_n 0, 1) := by decide +kernel
theorem dJ_min_1 : decode prog_11_method_69_code 1 = .ok (.iload_n 1, 1) := by decide +kernel
theorem dJ_min_2 : decode prog_11_method_69_code 2 = .ok (.if_icmp .gt 7, 3) := by decide +kernel
theorem dJ_min_5 : decode prog_11_method_69_code 5 = .ok (.iload_n 0, 1) := by decide +kernel
theorem dJ_min_6 : decode prog_11_method_69_code 6 = .ok (.goto 4, 3) := by decide +kernel
theorem dJ_min_9 : decode prog_11_method_69_code 9 = .ok (.iload_n 1, 1) := by decide +kernel
theorem dJ_min_10 : decode prog_11_method_69_code 10 = .ok (.ireturn, 1) := by decide +kernel
def yJ_min : MethodName := ⟨"java/lang/Math", "min", "(II)I"⟩
