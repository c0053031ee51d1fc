-- THE MAKERS: a growing world, entries by offset
def qc_W (E : qm_E) (n : Nat) (ξ : Nat → va_E) (H : Heap) : Prop := H.size = E.2.2.1 + n ∧ ∀ o, o < n → va_at E.1 vwCl (E.2.2.1 + o, ξ o) H
theorem qc_W.cong {E : qm_E} {n : Nat} {ξ ξ' : Nat → va_E} {H : Heap} (h : qc_W E n ξ H) (hx : ∀ o, o < n → ξ o = ξ' o) : qc_W E n ξ' H := ⟨h.1, fun o ho => by rw [← hx o ho]; exact h.2 o ho⟩
theorem qc_W.push {E : qm_E} {n : Nat} {ξ : Nat → va_E} {H H1 : Heap} {e : va_E} (h : qc_W E n ξ H) (hz : H1.size = H.size + 1) (ho : ∀ q, q < H.size → H1[q]? = H[q]?) (hn : va_at E.1 vwCl (E.2.2.1 + n, e) H1) : qc_W E (n + 1) (va_up ξ n e) H1 := by
  refine ⟨by rw [hz, h.1]; rfl, fun o ho' => ?_⟩
  unfold va_up
  by_cases he : o = n
  · rw [if_pos he, he]; exact hn
  · rw [if_neg he]
    exact va_at.kept (h.2 o (by omega)) (ho _ (by rw [h.1]; show E.2.2.1 + o < _; omega))
theorem qc_W.set {E : qm_E} {n o0 : Nat} {ξ : Nat → va_E} {H H1 : Heap} {e : va_E} (h : qc_W E n ξ H) (hz : H1.size = H.size) (oq : ∀ q, q ≠ E.2.2.1 + o0 → H1[q]? = H[q]?) (hn : va_at E.1 vwCl (E.2.2.1 + o0, e) H1) : qc_W E n (va_up ξ o0 e) H1 := by
  refine ⟨by rw [hz]; exact h.1, fun o ho' => ?_⟩
  unfold va_up
  by_cases he : o = o0
  · rw [if_pos he, he]; exact hn
  · rw [if_neg he]
    exact va_at.kept (h.2 o ho') (oq _ (by show E.2.2.1 + o ≠ _; omega))
def qc_K (E : qm_E) (U : State) : Prop := qm_K E U ∧ va_AO RX2 U ∧ va_AO RX3 U
theorem qc_K.warm {E : qm_E} {s U : State} (h : qc_K E s) (hW : s.WarmedH U.vm) : qc_K E U := ⟨h.1.warm hW, va_AO.moved hW.alike h.2.1, va_AO.moved hW.alike h.2.2⟩
theorem qc_K.call {E : qm_E} {U : State} (h : qc_K E U) (g : JFrame) (mk : MethodId) (a : Array Value) : qc_K E (U.calling g mk a) := ⟨h.1.call g mk a, va_AO.moved (u := U) (U := U.calling g mk a) (Vm.Alike.refl U.vm) h.2.1, va_AO.moved (u := U) (U := U.calling g mk a) (Vm.Alike.refl U.vm) h.2.2⟩
def qc_Cx (E : qm_E) (R : Room) (d : Nat) (own : String) (cc : ByteArray) (nL : Nat) (p : Program) (s : State) (m : MethodId) (args : Array Value) (c : Code) (meth : Method) (mc ms : Nat) : Prop :=
  p.tables.exec = Jvm.exec ∧ c.code = cc ∧ c.maxLocals = nL ∧ s.vm.findClass own = some m.cls ∧ (∀ w ∈ qm_ws, w.before args s = true) ∧ qc_K E s ∧ (d ≤ R.frames ∧ 40 * d ≤ R.locals) ∧ (mc ≤ R.cells ∧ ms ≤ R.slots) ∧ meth.name = "<init>"
/-- from pc with the world (n, ξ), kc cells and ks slots made so far, the maker comes to its return with the world t.1 t.2 and mc cells, ms slots made -/
def qc_Wp (l : Launch) (E : qm_E) (d : Nat) (own : String) (cc : ByteArray) (nL mc ms : Nat) (t : Nat × (Nat → va_E)) (pc : Nat) (lv : List (Nat × Value)) (st : List Value) (n : Nat) (ξ : Nat → va_E) (kc ks : Nat) : Prop :=
  ∀ (p : Program) (e : Env) (R : Room) (s : State) (m : MethodId) (args : Array Value) (below : List Frame) (meth : Method) (c : Code) (Q : State → Prop), qc_Cx E R d own cc nL p s m args c meth mc ms →
    (∀ (H : Heap) (locs : List Loc) (ls : Array Slot) (pc' : Nat), qc_W E t.1 t.2 H → va_S (qm_A E) s.heap H locs → decode cc pc' = .ok (.return_, 1) → W p l e R s m args below meth c H locs mc ms Q (F0 m pc' ls [])) →
    ∀ (H : Heap) (locs : List Loc) (ls : Array Slot), qc_W E n ξ H → va_S (qm_A E) s.heap H locs → lv_has ls nL lv → W p l e R s m args below meth c H locs kc ks Q (F0 m pc ls st)
def qc_rm (d mc ms : Nat) : Room := { frames := d, cells := mc, slots := ms, locals := 40 * d }
def qc_V (E : qm_E) (n : Nat) (ξ : Nat → va_E) (U : State) : Prop := qc_W E n ξ U.heap ∧ qc_K E U
def qc_Q (E : qm_E) (t : Nat × (Nat → va_E)) : Array Value → State → Outcome → State → Prop := fun _ st oc u => oc = .returned none ∧ qc_V E t.1 t.2 u ∧ va_F (qm_A E) st u
def qc_Ct (l : Launch) (E : qm_E) (d : Nat) (y : MethodName) (cc : ByteArray) (nL : Nat) (a n : Nat) (ξ : Nat → va_E) (mc ms : Nat) (t : Nat × (Nat → va_E)) : Prop :=
  Met l y (.code y cc nL none :: qm_ws) (qc_rm d mc ms) (va_Pc [.ref a] (qc_V E n ξ)) (qc_Q E t) mc ms (qm_A E)
theorem qc_ofWp {l : Launch} {E : qm_E} {d : Nat} {y : MethodName} {cc : ByteArray} {nL : Nat} {a n mc ms : Nat} {ξ : Nat → va_E} {t : Nat × (Nat → va_E)} (hy : plainName y.cls = true) (hA : 1 ≤ nL) (hyn : y.name = "<init>")
    (k : qc_Wp l E d y.cls cc nL mc ms t 0 [(0, .ref a)] [] n ξ 0 0) : qc_Ct l E d y cc nL a n ξ mc ms t := by
  refine Met.ofW (cc := cc) (maxL := nL) (ret := none) hy rfl ?_
  intro p e s m args below meth c s₁ B hml hv
  obtain ⟨rfl, hW0, hK⟩ := hv
  have hts0 := atoms_spec (ws := Cond.code y cc nL none :: qm_ws) B.pre
  have hown : s.vm.findClass y.cls = some m.cls := findClass_of_methodNamed B.named
  have hl := lv_entry [.ref a] (n := nL) hA
  rw [lg_entry_eq]
  have hr := B.returns
  have hlk : meth.locks = false := B.notSynchronized
  have hin : meth.name = "<init>" := (name_of_methodNamed B.named B.method).1.trans hyn
  refine k p e (qc_rm d mc ms) s m _ below meth c _ ⟨B.exec, B.bytes, hml, hown, fun w hw => hts0 w (List.mem_cons_of_mem _ hw), hK, ⟨Nat.le_refl _, Nat.le_refl _⟩, ⟨Nat.le_refl _, Nat.le_refl _⟩, hin⟩ ?_ s.heap [] _ hW0 va_S.rf hl
  intro H locs ls pc' hH' hS hd
  have hq : ∀ u : State, u.heap = H → s.WarmedH u.vm → qc_Q E t [Value.ref a].toArray s (.returned none) u := by
    intro u hu hW
    exact ⟨rfl, ⟨by rw [hu]; exact hH', hK.warm hW⟩, hS.F hu⟩
  exact W.vret B.exec B.bytes hr hq hS.2.2 hd hlk
section QCR
variable {l : Launch} {E : qm_E} {d : Nat} {own : String} {cc : ByteArray} {nL mc ms : Nat} {t : Nat × (Nat → va_E)} {pc : Nat} {lv : List (Nat × Value)} {st : List Value} {n : Nat} {ξ : Nat → va_E} {kc ks : Nat}
theorem qc_aload_n {j : Fin 4} {i x : Nat} (hd : decode cc pc = .ok (.aload_n j, 1)) (hi : (j : Nat) = i) (q : Nat) (hq : lv[q]? = some (i, .ref x)) (k : qc_Wp l E d own cc nL mc ms t (pc + 1) lv (.ref x :: st) n ξ kc ks) : qc_Wp l E d own cc nL mc ms t pc lv st n ξ kc ks := fun p e R s m args below meth c Q C F H locs ls hH hS hl => lv_aload_n C.1 C.2.1 hd hi (lv_at hl q hq) (k p e R s m args below meth c Q C F H locs ls hH hS hl)
theorem qc_iload_n {j : Fin 4} {i : Nat} {x : Int32} (hd : decode cc pc = .ok (.iload_n j, 1)) (hi : (j : Nat) = i) (q : Nat) (hq : lv[q]? = some (i, .int x)) (k : qc_Wp l E d own cc nL mc ms t (pc + 1) lv (.int x :: st) n ξ kc ks) : qc_Wp l E d own cc nL mc ms t pc lv st n ξ kc ks := fun p e R s m args below meth c Q C F H locs ls hH hS hl => lv_iload_n C.1 C.2.1 hd hi (lv_at hl q hq) (k p e R s m args below meth c Q C F H locs ls hH hS hl)
theorem qc_istore_n {j : Fin 4} {i : Nat} {x : Int32} {lv' : List (Nat × Value)} (hd : decode cc pc = .ok (.istore_n j, 1)) (hi : (j : Nat) = i) (hn : i < nL) (hf : (i, Value.int x) :: lv.filter (fun q => !(q.1 == i) && !(q.1 + 1 == i && q.2.category == 2)) = lv') (k : qc_Wp l E d own cc nL mc ms t (pc + 1) lv' st n ξ kc ks) : qc_Wp l E d own cc nL mc ms t pc lv (.int x :: st) n ξ kc ks := fun p e R s m args below meth c Q C F H locs ls hH hS hl => lv_istore_n C.1 C.2.1 hd hi hl hn hf (fun ls1 hl1 => k p e R s m args below meth c Q C F H locs ls1 hH hS hl1)
theorem qc_iinc {i q : Nat} {z : Int} {x v : Int32} {lv' : List (Nat × Value)} (hd : decode cc pc = .ok (.iinc i z, 3)) (hq : lv[q]? = some (i, .int x)) (hv : x + Int32.ofInt z = v) (hn : i < nL) (hf : (i, Value.int v) :: lv.filter (fun q => !(q.1 == i) && !(q.1 + 1 == i && q.2.category == 2)) = lv') (k : qc_Wp l E d own cc nL mc ms t (pc + 3) lv' st n ξ kc ks) : qc_Wp l E d own cc nL mc ms t pc lv st n ξ kc ks := fun p e R s m args below meth c Q C F H locs ls hH hS hl => lv_iinc C.1 C.2.1 hd hl hq hv hn hf (fun ls1 hl1 => k p e R s m args below meth c Q C F H locs ls1 hH hS hl1)
theorem qc_iconst {z : Int} {v : Int32} (hd : decode cc pc = .ok (.iconst z, 1)) (hv : Int32.ofInt z = v) (k : qc_Wp l E d own cc nL mc ms t (pc + 1) lv (.int v :: st) n ξ kc ks) : qc_Wp l E d own cc nL mc ms t pc lv st n ξ kc ks := fun p e R s m args below meth c Q C F H locs ls hH hS hl => lv_iconst C.1 C.2.1 hd hv (k p e R s m args below meth c Q C F H locs ls hH hS hl)
theorem qc_bipush {z : Int} {v : Int32} (hd : decode cc pc = .ok (.bipush z, 2)) (hv : (Int8.ofInt z).toInt32 = v) (k : qc_Wp l E d own cc nL mc ms t (pc + 2) lv (.int v :: st) n ξ kc ks) : qc_Wp l E d own cc nL mc ms t pc lv st n ξ kc ks := fun p e R s m args below meth c Q C F H locs ls hH hS hl => lv_bipush C.1 C.2.1 hd hv (k p e R s m args below meth c Q C F H locs ls hH hS hl)
theorem qc_sipush {z : Int} {v : Int32} (hd : decode cc pc = .ok (.sipush z, 3)) (hv : (Int16.ofInt z).toInt32 = v) (k : qc_Wp l E d own cc nL mc ms t (pc + 3) lv (.int v :: st) n ξ kc ks) : qc_Wp l E d own cc nL mc ms t pc lv st n ξ kc ks := fun p e R s m args below meth c Q C F H locs ls hH hS hl => lv_sipush C.1 C.2.1 hd hv (k p e R s m args below meth c Q C F H locs ls hH hS hl)
theorem qc_ldc2 {index : Nat} {v : Int64} (hw : Cond.constantLong own index v ∈ qm_ws) (hd : decode cc pc = .ok (.ldc2_w index, 3)) (k : qc_Wp l E d own cc nL mc ms t (pc + 3) lv (.long v :: st) n ξ kc ks) : qc_Wp l E d own cc nL mc ms t pc lv st n ξ kc ks := fun p e R s m args below meth c Q C F H locs ls hH hS hl => lv_ldc2 C.1 C.2.1 C.2.2.2.1 (C.2.2.2.2.1 _ hw) hd (k p e R s m args below meth c Q C F H locs ls hH hS hl)
theorem qc_dup {a : Value} (hd : decode cc pc = .ok (.dup, 1)) (hc : a.category = 1) (k : qc_Wp l E d own cc nL mc ms t (pc + 1) lv (a :: a :: st) n ξ kc ks) : qc_Wp l E d own cc nL mc ms t pc lv (a :: st) n ξ kc ks := fun p e R s m args below meth c Q C F H locs ls hH hS hl => lv_dup C.1 C.2.1 hd hc (k p e R s m args below meth c Q C F H locs ls hH hS hl)
theorem qc_goto {off : Int} {tgt : Nat} (hd : decode cc pc = .ok (.goto off, 3)) (ht : (pc : Int) + off = (tgt : Int)) (k : qc_Wp l E d own cc nL mc ms t tgt lv st n ξ kc ks) : qc_Wp l E d own cc nL mc ms t pc lv st n ξ kc ks := fun p e R s m args below meth c Q C F H locs ls hH hS hl => lv_goto C.1 C.2.1 hd ht (k p e R s m args below meth c Q C F H locs ls hH hS hl)
theorem qc_icmp_gt {x y : Int32} {off : Int} {tgt : Nat} (hd : decode cc pc = .ok (.if_icmp .gt off, 3)) (ht : (pc : Int) + off = (tgt : Int)) (kt : y < x → qc_Wp l E d own cc nL mc ms t tgt lv st n ξ kc ks) (kf : ¬ y < x → qc_Wp l E d own cc nL mc ms t (pc + 3) lv st n ξ kc ks) : qc_Wp l E d own cc nL mc ms t pc lv (.int y :: .int x :: st) n ξ kc ks := fun p e R s m args below meth c Q C F H locs ls hH hS hl => lv_icmp_gt C.1 C.2.1 hd ht (fun h => kt h p e R s m args below meth c Q C F H locs ls hH hS hl) (fun h => kf h p e R s m args below meth c Q C F H locs ls hH hS hl)
theorem qc_icmp_ge {x y : Int32} {off : Int} {tgt : Nat} (hd : decode cc pc = .ok (.if_icmp .ge off, 3)) (ht : (pc : Int) + off = (tgt : Int)) (kt : y ≤ x → qc_Wp l E d own cc nL mc ms t tgt lv st n ξ kc ks) (kf : ¬ y ≤ x → qc_Wp l E d own cc nL mc ms t (pc + 3) lv st n ξ kc ks) : qc_Wp l E d own cc nL mc ms t pc lv (.int y :: .int x :: st) n ξ kc ks := fun p e R s m args below meth c Q C F H locs ls hH hS hl => lv_icmp_ge C.1 C.2.1 hd ht (fun h => kt h p e R s m args below meth c Q C F H locs ls hH hS hl) (fun h => kf h p e R s m args below meth c Q C F H locs ls hH hS hl)
theorem qc_ret (hd : decode cc pc = .ok (.return_, 1)) (ht : t = (n, ξ)) (hc : kc = mc) (hs : ks = ms) : qc_Wp l E d own cc nL mc ms t pc lv [] n ξ kc ks := by
  subst hc hs ht
  exact fun p e R s m args below meth c Q C F H locs ls hH hS hl => F H locs ls pc hH hS hd
theorem qc_sub {lv' : List (Nat × Value)} (ks' : List Nat) (hk : lv_pick lv ks' = lv') (k : qc_Wp l E d own cc nL mc ms t pc lv' st n ξ kc ks) : qc_Wp l E d own cc nL mc ms t pc lv st n ξ kc ks := fun p e R s m args below meth c Q C F H locs ls hH hS hl => k p e R s m args below meth c Q C F H locs ls hH hS (lv_sub hl ks' hk)
theorem qc_eqw {ξ' : Nat → va_E} (h : ∀ o, o < n → ξ o = ξ' o) (k : qc_Wp l E d own cc nL mc ms t pc lv st n ξ' kc ks) : qc_Wp l E d own cc nL mc ms t pc lv st n ξ kc ks := fun p e R s m args below meth c Q C F H locs ls hH hS hl => k p e R s m args below meth c Q C F H locs ls (hH.cong h) hS hl
theorem qc_obj {idx a : Nat} (hw : Cond.methodLink own idx Lib.objectInit ∈ qm_ws) (hd : decode cc pc = .ok (.invokespecial idx, 3)) (hdd : 1 ≤ d) (hcat : (st.map fun v => v.category).sum ≤ 8) (k : qc_Wp l E d own cc nL mc ms t (pc + 3) lv st n ξ kc ks) : qc_Wp l E d own cc nL mc ms t pc lv (.ref a :: st) n ξ kc ks := by
  intro p e R s m args below meth c Q C F H locs ls hH hS hl
  have hR := C.2.2.2.2.2.2.1
  have hk := k p e R s m args below meth c Q C F H locs ls hH hS hl
  have hro := lv_room (m := m) (pc := pc) (ls := ls) (rest := .ref a :: st) hcat
  exact W.objInit C.1 C.2.1 C.2.2.2.1 (C.2.2.2.2.1 _ hw) (C.2.2.2.2.1 _ qw_17) (C.2.2.2.2.1 _ qw_18) rfl (by rw [C.2.2.1]; exact hl.1) rfl hd (by omega) (by omega) hk
theorem qc_get {o c k idx : Nat} {v : Value} {fs : List Value} {Cn : String} {T : u_T} {N : Nat} (ho : o < n) (hξ : ξ o = .inr (c, fs)) (hcl : vwCl[c]? = some (Cn, T, N)) (hin : ∀ w ∈ u_ws Cn T N, w ∈ qm_ws) (hk : k < N) (hv : fs[k]? = some v) (hw : Cond.fieldLink own idx (T k).1 (T k).2.1 (T k).2.2.1 ∈ qm_ws) (hd : decode cc pc = .ok (.getfield idx, 3)) (kk : qc_Wp l E d own cc nL mc ms t (pc + 3) lv (v :: st) n ξ kc ks) : qc_Wp l E d own cc nL mc ms t pc lv (.ref (E.2.2.1 + o) :: st) n ξ kc ks := by
  intro p e R s m args below meth c0 Q C F H locs ls hH hS hl
  have hat := hH.2 o ho
  rw [hξ] at hat
  have hP : va_P E.1 vwCl [(E.2.2.1 + o, .inr (c, fs))] H := fun j q hq => by
    match j, hq with
    | 0, hq => cases hq; exact hat
    | j + 1, hq => simp at hq
  exact va_get C.1 C.2.1 C.2.2.2.2.1 hin C.2.2.2.1 C.2.2.2.2.2.1.1.1 hP 0 rfl hcl k hk (C.2.2.2.2.1 _ hw) (fun _ h => h) hv hd (kk p e R s m args below meth c0 Q C F H locs ls hH hS hl)
theorem qc_put {o c k idx : Nat} {v : Value} {fs : List Value} {Cn : String} {T : u_T} {N : Nat} {ty : FieldType} {ty0 : Nat → FieldType} (ho : o < n) (hξ : ξ o = .inr (c, fs)) (hcl : vwCl[c]? = some (Cn, T, N)) (hin : ∀ w ∈ u_ws Cn T N, w ∈ qm_ws) (hty : ∀ k, k < N → parseFieldDescriptor (T k).2.2.1 = some (ty0 k)) (hnm : ∀ a, a < N → ∀ b, b < N → a ≠ b → (T a).2.1 ≠ (T b).2.1) (hk : k < N) (hlen : k < fs.length) (hdecl : (T k).2.2.2 = true → (T k).1 = own) (hpd : parseFieldDescriptor (T k).2.2.1 = some ty) (hn : narrow ty v = v) (hfit : fits ty v = true) (hw : Cond.fieldLink own idx (T k).1 (T k).2.1 (T k).2.2.1 ∈ qm_ws) (hd : decode cc pc = .ok (.putfield idx, 3)) (kk : qc_Wp l E d own cc nL mc ms t (pc + 3) lv st n (va_up ξ o (.inr (c, fs.set k v))) kc ks) : qc_Wp l E d own cc nL mc ms t pc lv (v :: .ref (E.2.2.1 + o) :: st) n ξ kc ks := by
  intro p e R s m args below meth c0 Q C F H locs ls hH hS hl
  have hat := hH.2 o ho
  rw [hξ] at hat
  obtain ⟨r0, hr0, cell, q1, q2, q3, q4⟩ := hat
  have hr : r0 = (Cn, T, N) := Option.some.inj (hr0.symm.trans hcl)
  subst hr
  have hts := C.2.2.2.2.1
  have hK := C.2.2.2.2.2.1.1.1
  have hap := va_apart (own := own) hts hin ty0 hty hnm hK hcl
  obtain ⟨hSl, hfc, kC, hkC, hkind⟩ := hK.1 c _ hcl
  obtain ⟨cf, kf, fi, f, hi, hsl⟩ := hSl k hk
  have hlay := hts _ (hin _ (u_in_lay hk))
  have hst := (u_facts hfc hkC (u_lays hts hin hk) hi).1
  have hA : qm_A E (E.2.2.1 + o) := Nat.le_add_right _ _
  have fin : ∀ (H' : Heap), H'[E.2.2.1 + o]? = some (cell.setSlot f.slot v) → H'.size = H.size → (∀ q, q ≠ E.2.2.1 + o → H'[q]? = H[q]?) → W p l e R s m args below meth c0 H' (locs ++ [⟨E.2.2.1 + o, f.slot⟩]) kc ks Q (F0 m (pc + 3) ls st) := by
    intro H' e1 e2 e3
    rw [hsl] at e1 ⊢
    refine kk p e R s m args below meth c0 Q C F H' _ ls (hH.set e2 e3 ?_) (hS.put e2 e3 hA) hl
    exact ⟨_, hcl, t_OB.to (V := updV (vp_V fs) k v) ⟨_, e1, q2, q3, t_set q4 hap hk v⟩ (fun j _ => vp_updV_set hlen v j)⟩
  by_cases hfin : (T k).2.2.2 = true
  · unfold u_lay at hlay
    rw [if_pos hfin] at hlay
    have hcf : m.cls = cf := by
      obtain ⟨_, _, c', _, _, _, -, -, hf', -, -, -, hown2, -⟩ := Cond.laysFinal_spec hlay
      have e1 : c' = cf := by have := hi.symm.trans hf'; simp at this; exact this.1.symm
      rw [hdecl hfin] at hown2
      rw [← e1]; exact Option.some.inj (C.2.2.2.1.symm.trans hown2)
    have h6 := u_fits hfc hkC hkind (Or.inr hlay) hi hpd hn hfit
    exact W.putFinK C.1 C.2.1 C.2.2.2.1 (hts _ hw) hi hst hcf C.2.2.2.2.2.2.2.2 (by rw [q2]; exact h6) q1 q3 (by rw [hsl]; exact k2_hasslot (q4 k hk)) rfl rfl hd fin
  · unfold u_lay at hlay
    rw [if_neg hfin] at hlay
    have h6 := u_store hfc hkC hkind hlay hi hpd hn hfit
    exact W.putK C.1 C.2.1 (f := f) ⟨C.2.2.2.1, hts _ hw, ⟨_, _, _, hi⟩, hst⟩ (by rw [q2]; exact h6) q1 q3 (by rw [hsl]; exact k2_hasslot (q4 k hk)) rfl rfl hd fin
theorem qc_Sgrow {s : State} {H H1 : Heap} {locs : List Loc} (hS : va_S (qm_A E) s.heap H locs) (z1 : H1.size = H.size + 1) (o1 : ∀ q, q < H.size → H1[q]? = H[q]?) : va_S (qm_A E) s.heap H1 locs := ⟨Nat.le_trans hS.1 (by omega), fun x h1 h2 => (o1 x (Nat.lt_of_lt_of_le h1 hS.1)).trans (hS.2.1 x h1 h2), hS.2.2⟩
theorem qc_new {c idx : Nat} {fs : List Value} {Cn : String} {T : u_T} {N : Nat} {ty0 : Nat → FieldType} (hcl : vwCl[c]? = some (Cn, T, N)) (hin : ∀ w ∈ u_ws Cn T N, w ∈ qm_ws) (hty : ∀ k, k < N → parseFieldDescriptor (T k).2.2.1 = some (ty0 k)) (hfs : ∀ j, j < N → defaultValue (ty0 j) = vp_V fs j) (hw : Cond.classLink own idx Cn ∈ qm_ws) (hw2 : Cond.instantiable Cn N ∈ qm_ws) (hw3 : Cond.initialized Cn ∈ qm_ws) (hc1 : kc + 1 ≤ mc) (hs1 : ks + N ≤ ms) (hd : decode cc pc = .ok (.new idx, 3)) (kk : qc_Wp l E d own cc nL mc ms t (pc + 3) lv (.ref (E.2.2.1 + n) :: st) (n + 1) (va_up ξ n (.inr (c, fs))) (kc + 1) (ks + N)) : qc_Wp l E d own cc nL mc ms t pc lv st n ξ kc ks := by
  intro p e R s m args below meth c0 Q C F H locs ls hH hS hl
  have hts := C.2.2.2.2.1
  have hKn := C.2.2.2.2.2.1.1.1.1 c _ hcl
  have hR := C.2.2.2.2.2.2.2.1
  refine W.newcK C.1 C.2.1 C.2.2.2.1 (hts _ hw) (hts _ hw2) (hts _ hw3) rfl hd (by omega) (by omega) hKn.2.1 hH.1 fun H1 kC hkC e1 z1 o1 => ?_
  rw [← hH.1] at z1 o1
  exact kk p e R s m args below meth c0 Q C F H1 locs ls (hH.push z1 o1 ⟨_, hcl, (u_born ty0 hts hin hKn hkC e1 hty).to hfs⟩) (qc_Sgrow hS z1 o1) hl
theorem qc_newi {i : Int32} {N : Nat} (hi : ¬ i < 0) (hN : i.toNatClampNeg = N) (hb : N ≤ 1000000) (hc1 : kc + 1 ≤ mc) (hs1 : ks + N ≤ ms) (hd : decode cc pc = .ok (.newarray .int, 2)) (kk : qc_Wp l E d own cc nL mc ms t (pc + 2) lv (.ref (E.2.2.1 + n) :: st) (n + 1) (va_up ξ n (.inl (E.2.1 0, N, .inl (fun _ => 0)))) (kc + 1) (ks + N)) : qc_Wp l E d own cc nL mc ms t pc lv (.int i :: st) n ξ kc ks := by
  intro p e R s m args below meth c0 Q C F H locs ls hH hS hl
  have hR := C.2.2.2.2.2.2.2.1
  refine va_newaK (atype := .int) C.1 C.2.1 (C.2.2.2.2.1 _ qw_200) rfl hd rfl hi hN (by show N * 4 ≤ _; omega) (by omega) (by omega) hH.1 fun H1 cA e1 z1 o1 hAr hNm => ?_
  rw [← hH.1] at z1 o1
  have hc := (C.2.2.2.2.2.1.1.1.2 0 _ rfl).2
  have : cA = E.2.1 0 := Option.some.inj (hNm.symm.trans hc)
  subst this
  exact kk p e R s m args below meth c0 Q C F H1 locs ls (hH.push z1 o1 e1) (qc_Sgrow hS z1 o1) hl
theorem qc_newl {i : Int32} {N : Nat} (hi : ¬ i < 0) (hN : i.toNatClampNeg = N) (hb : N ≤ 1000000) (hc1 : kc + 1 ≤ mc) (hs1 : ks + N ≤ ms) (hd : decode cc pc = .ok (.newarray .long, 2)) (kk : qc_Wp l E d own cc nL mc ms t (pc + 2) lv (.ref (E.2.2.1 + n) :: st) (n + 1) (va_up ξ n (.inl (E.2.1 1, N, .inr (.inl (fun _ => 0))))) (kc + 1) (ks + N)) : qc_Wp l E d own cc nL mc ms t pc lv (.int i :: st) n ξ kc ks := by
  intro p e R s m args below meth c0 Q C F H locs ls hH hS hl
  have hR := C.2.2.2.2.2.2.2.1
  refine va_newaK (atype := .long) C.1 C.2.1 (C.2.2.2.2.1 _ qw_676) rfl hd rfl hi hN (by show N * 8 ≤ _; omega) (by omega) (by omega) hH.1 fun H1 cA e1 z1 o1 hAr hNm => ?_
  rw [← hH.1] at z1 o1
  have hc := (C.2.2.2.2.2.1.1.1.2 1 _ rfl).2
  have : cA = E.2.1 1 := Option.some.inj (hNm.symm.trans hc)
  subst this
  exact kk p e R s m args below meth c0 Q C F H1 locs ls (hH.push z1 o1 e1) (qc_Sgrow hS z1 o1) hl
theorem qc_newr {i : Int32} {N idx ty : Nat} {Cn : String} (hov : ∀ s, qc_K E s → va_AO Cn s) (hty : (qm_tys E)[ty]? = some (E.2.1 ty, .object Cn)) (hw : Cond.classLink own idx Cn ∈ qm_ws) (hi : ¬ i < 0) (hN : i.toNatClampNeg = N) (hb : N ≤ 1000000) (hc1 : kc + 1 ≤ mc) (hs1 : ks + N ≤ ms) (hd : decode cc pc = .ok (.anewarray idx, 3)) (kk : qc_Wp l E d own cc nL mc ms t (pc + 3) lv (.ref (E.2.2.1 + n) :: st) (n + 1) (va_up ξ n (.inl (E.2.1 ty, N, .inr (.inr (.inr (.inr (fun _ => none))))))) (kc + 1) (ks + N)) : qc_Wp l E d own cc nL mc ms t pc lv (.int i :: st) n ξ kc ks := by
  intro p e R s m args below meth c0 Q C F H locs ls hH hS hl
  have hR := C.2.2.2.2.2.2.2.1
  subst hN
  refine W.anew C.1 C.2.1 C.2.2.2.1 (C.2.2.2.2.1 _ hw) (va_AO.use (hov s C.2.2.2.2.2.1)) rfl hd rfl hi (by omega) (by omega) (by omega) fun cA kA comp f1 f2 f3 f4 => ?_
  generalize hH1 : H.push ({ cls := cA, slots := Array.replicate i.toNatClampNeg .null, vm := .none } : Cell) = H1
  have z1 : H1.size = H.size + 1 := by rw [← hH1, Array.size_push]
  have e1 : H1[H.size]? = some (arrV cA i.toNatClampNeg (fun _ => .null)) := by rw [← hH1, Array.getElem?_push_size, ← arrV_new]
  have o1 : ∀ q : Nat, q < H.size → H1[q]? = H[q]? := fun q hq => by rw [← hH1, Array.getElem?_push, if_neg (Nat.ne_of_lt hq)]
  obtain ⟨kA2, comp2, k1, k2, k3, k4⟩ := (C.2.2.2.2.2.1.1.1.2 ty _ hty).2
  have : cA = E.2.1 ty := Option.some.inj (f1.symm.trans k4)
  subst this
  rw [hH.1] at e1
  have hr : W p l e R s m args below meth c0 H1 locs (kc + 1) (ks + i.toNatClampNeg) Q (F0 m (pc + 3) ls (.ref (E.2.2.1 + n) :: st)) := kk p e R s m args below meth c0 Q C F H1 locs ls (hH.push z1 o1 e1) (qc_Sgrow hS z1 o1) hl
  rw [← hH.1] at hr
  exact hr
theorem qc_aast {o v ty c N : Nat} {i : Int32} {fs : List Value} {f : Nat → Option Nat} {Cn : String} {T : u_T} {M : Nat} (ho : o < n) (hv : v < n) (hξ : ξ o = .inl (E.2.1 ty, N, .inr (.inr (.inr (.inr f))))) (hξv : ξ v = .inr (c, fs)) (hcl : vwCl[c]? = some (Cn, T, M)) (hty : (qm_tys E)[ty]? = some (E.2.1 ty, .object Cn)) (hi : vp_in i N) (hd : decode cc pc = .ok (.aastore, 1)) (kk : qc_Wp l E d own cc nL mc ms t (pc + 1) lv st n (va_up ξ o (.inl (E.2.1 ty, N, .inr (.inr (.inr (.inr (va_up f i.toNatClampNeg (some (E.2.2.1 + v))))))))) kc ks) : qc_Wp l E d own cc nL mc ms t pc lv (.ref (E.2.2.1 + v) :: .int i :: .ref (E.2.2.1 + o) :: st) n ξ kc ks := by
  intro p e R s m args below meth c0 Q C F H locs ls hH hS hl
  have hK := C.2.2.2.2.2.1.1.1
  have hlt : i.toNatClampNeg < N := Nat.not_le.mp fun q => hi (Or.inr q)
  have h0 : ¬ i < 0 := fun q => hi (Or.inl q)
  have hat := hH.2 v hv
  rw [hξv] at hat
  obtain ⟨r', hr', cellV, g1, g2, g3, -⟩ := hat
  have hcls := (hK.1 c _ hcl).2
  obtain ⟨kA, comp, k1, k2, k3, -⟩ := (hK.2 ty _ hty).2
  have hcomp : comp = E.1.1 c := Option.some.inj (k3.symm.trans hcls.1)
  subst hcomp
  obtain ⟨kC, hkC, -⟩ := hcls.2
  have hao := hH.2 o ho
  rw [hξ] at hao
  have hao : H[E.2.2.1 + o]? = some (arrV (E.2.1 ty) N (fun j => va_rf (f j))) := hao
  refine W.aast C.1 C.2.1 hao (fun q h => by cases h) (fun h => by cases h) k1 k2 rfl hkC ⟨h0, by rw [arrV_size]; exact hlt⟩ g1 (fun q h => by rw [g3] at h; cases h) (by rw [g2]; exact hkC) (by rw [g2]; exact va_assign hcls) rfl rfl hd fun H1 e1 z oq => ?_
  refine kk p e R s m args below meth c0 Q C F H1 _ ls (hH.set z oq ?_) (hS.put z oq (Nat.le_add_right _ _)) hl
  show H1[E.2.2.1 + o]? = some (arrV (E.2.1 ty) N (fun j => va_rf (va_up f i.toNatClampNeg (some (E.2.2.1 + v)) j)))
  rw [e1, arrV_store]
  congr 2
  funext q
  by_cases hq : q = i.toNatClampNeg
  · subst hq; simp [updV, va_up, va_rf]
  · simp [updV, va_up, hq]
theorem qc_last {o N : Nat} {i : Int32} {x : Int64} {f : Nat → Int64} (ho : o < n) (hξ : ξ o = .inl (E.2.1 1, N, .inr (.inl f))) (hi : vp_in i N) (hd : decode cc pc = .ok (.lastore, 1)) (kk : qc_Wp l E d own cc nL mc ms t (pc + 1) lv st n (va_up ξ o (.inl (E.2.1 1, N, .inr (.inl (vp_updL f i.toNatClampNeg x))))) kc ks) : qc_Wp l E d own cc nL mc ms t pc lv (.long x :: .int i :: .ref (E.2.2.1 + o) :: st) n ξ kc ks := by
  intro p e R s m args below meth c0 Q C F H locs ls hH hS hl
  have hat := hH.2 o ho
  rw [hξ] at hat
  refine W.last C.1 C.2.1 hat ((C.2.2.2.2.2.1.1.1.2 1 _ rfl).1 N (fun j => .long (f j))) (fun q => by cases q) (by show ¬ (i < 0 ∨ (arrV _ _ _).slots.size ≤ _); rw [arrV_size]; exact hi) rfl rfl hd fun H1 e1 z oq => ?_
  refine kk p _ R s m args below meth c0 Q C F H1 _ ls (hH.set z oq ?_) (hS.put z oq (Nat.le_add_right _ _)) hl
  show H1[_]? = some (vp_cell _ _)
  rw [e1, vp_cell_l, vp_cell_l, arrV_store]
  congr 2
  funext q
  by_cases hq : q = i.toNatClampNeg
  · subst hq; simp [updV, vp_updL]
  · simp [updV, vp_updL, hq]
theorem qc_blind {E : qm_E} {n : Nat} {ξ : Nat → va_E} {As : List Value} : FrameBlind (va_Pc As (qc_V E n ξ)) := fun a U g mk h => ⟨h.1, h.2.1, h.2.2.call g mk a⟩
theorem qc_back {p : Program} {e : Env} {R : Room} {s : State} {m : MethodId} {args : Array Value} {below : List Frame} {meth : Method} {c : Code} {H : Heap} {locs : List Loc} {ls : Array Slot} {cells slots mc1 ms1 : Nat} {Q : State → Prop} {a : Array Value} {st0 : List Value} {u : Nat × (Nat → va_E)} (hr : va_Run p l e R s m args below meth c H locs cells slots mc1 ms1 (F0 m pc ls st0) st (qc_Q E u a) (qm_A E)) (hS : va_S (qm_A E) s.heap H locs)
    (kk : ∀ (H1 : Heap) (locs1 : List Loc), qc_W E u.1 u.2 H1 → va_S (qm_A E) s.heap H1 locs1 → W p l e R s m args below meth c H1 locs1 (cells + mc1) (slots + ms1) Q (F0 m (pc + 3) ls st)) : W p l e R s m args below meth c H locs cells slots Q (F0 m pc ls st0) := by
  intro T hT X
  obtain ⟨v, st₀, t', T', L, h0, X', hL, e1, e2, ⟨hv, hW, hF⟩, stp⟩ := hr T hT X
  cases hv
  obtain ⟨hz, hk⟩ := hF
  rw [h0] at hz hk
  obtain ⟨t2, a1, b1⟩ := kk T'.heap (locs ++ L) (by rw [e1]; exact hW.1) ⟨Nat.le_trans hS.1 (by rw [e1]; exact hz), fun q h1 h2 => by rw [e1, hk q (Nat.lt_of_lt_of_le h1 hS.1) h2]; exact hS.2.1 q h1 h2, fun q hq => by
      rcases List.mem_append.mp hq with h | h
      · exact hS.2.2 q h
      · exact hL q h⟩ T' rfl X'
  exact ⟨t2, stp t2 a1, b1⟩
theorem qc_gd {y : MethodName} {cc1 : ByteArray} {nL1 : Nat} (hc : Cond.code y cc1 nL1 none ∈ qm_ws) : GoodIn qm_ws (Cond.code y cc1 nL1 none :: qm_ws) := fun w hw => by
  rcases List.mem_cons.mp hw with rfl | h
  · exact qm_good _ hc
  · exact qm_good _ h
theorem qc_call {d1 : Nat} {y : MethodName} {cc1 : ByteArray} {nL1 a idx mc1 ms1 : Nat} {u : Nat × (Nat → va_E)} (hM : qc_Ct l E d1 y cc1 nL1 a n ξ mc1 ms1 u) (hc : Cond.code y cc1 nL1 none ∈ qm_ws) (hi : Cond.initialized y.cls ∈ qm_ws) (hl : Cond.methodLink own idx y ∈ qm_ws) (hs : Cond.instanceMethod y ∈ qm_ws) (hyn : y.name = "<init>") (hdd : y.cls ≠ "java/lang/invoke/MethodHandle" ∧ y.cls ≠ "java/lang/invoke/VarHandle" ∧ (parseMethodDescriptor y.desc).map (fun d => d.parameters.length) = some 0) (hn : nL1 ≤ 21) (hd1 : d1 + 1 ≤ d) (hmc : kc + mc1 ≤ mc) (hms : ks + ms1 ≤ ms) (hcat : (st.map fun v => v.category).sum ≤ 8) (hd : decode cc pc = .ok (.invokespecial idx, 3))
    (kk : qc_Wp l E d own cc nL mc ms t (pc + 3) lv st u.1 u.2 (kc + mc1) (ks + ms1)) : qc_Wp l E d own cc nL mc ms t pc lv (.ref a :: st) n ξ kc ks := by
  intro p e R s m args below meth c0 Q C F H locs ls hH hS hlv
  have hR := C.2.2.2.2.2.2.1
  have hR2 := C.2.2.2.2.2.2.2.1
  have hts := C.2.2.2.2.1
  refine qc_back (va_runI (As := []) (rest := st) (n := 0) (b := a) ⟨C.1, C.2.1, C.2.2.1, C.2.2.2.1, hts⟩ hM ⟨callB_of 0 hts (qc_gd hc) rfl rfl rfl (hts _ hi) (hts _ hl) hdd ⟨?_, ?_⟩, hyn, hts _ hs⟩ ⟨qc_blind, fun U hU hW => ⟨rfl, by rw [hU]; exact hH, C.2.2.2.2.2.1.warm hW⟩⟩ rfl rfl hlv.1 rfl (lv_room (rest := .ref a :: st) hcat) hd ⟨by omega, by omega⟩) hS (fun H1 locs1 h1 h2 => kk p e R s m args below meth c0 Q C F H1 locs1 ls h1 h2 hlv)
  · show d1 + 1 ≤ R.frames
    omega
  · show 8 + (nL1 + 11) + 40 * d1 ≤ R.locals
    omega
theorem qc_callN {d1 : Nat} {y : MethodName} {cc1 : ByteArray} {nL1 a idx mc1 ms1 : Nat} {host : String} {u : Nat × (Nat → va_E)} (hM : qc_Ct l E d1 y cc1 nL1 a n ξ mc1 ms1 u) (hc : Cond.code y cc1 nL1 none ∈ qm_ws) (hi : Cond.initialized y.cls ∈ qm_ws) (hl : (own, idx, y, host) ∈ qm_nest) (hs : Cond.instanceMethod y ∈ qm_ws) (hyn : y.name = "<init>") (hdd : y.cls ≠ "java/lang/invoke/MethodHandle" ∧ y.cls ≠ "java/lang/invoke/VarHandle" ∧ (parseMethodDescriptor y.desc).map (fun d => d.parameters.length) = some 0) (hn : nL1 ≤ 21) (hd1 : d1 + 1 ≤ d) (hmc : kc + mc1 ≤ mc) (hms : ks + ms1 ≤ ms) (hcat : (st.map fun v => v.category).sum ≤ 8) (hd : decode cc pc = .ok (.invokespecial idx, 3))
    (kk : qc_Wp l E d own cc nL mc ms t (pc + 3) lv st u.1 u.2 (kc + mc1) (ks + ms1)) : qc_Wp l E d own cc nL mc ms t pc lv (.ref a :: st) n ξ kc ks := by
  intro p e R s m args below meth c0 Q C F H locs ls hH hS hlv
  have hR := C.2.2.2.2.2.2.1
  have hR2 := C.2.2.2.2.2.2.2.1
  have hts := C.2.2.2.2.1
  refine qc_back (va_runIN (As := []) (rest := st) (n := 0) (b := a) ⟨C.1, C.2.1, C.2.2.1, C.2.2.2.1, hts⟩ hM ⟨va_cnB 0 hts (qc_gd hc) rfl rfl rfl (C.2.2.2.2.2.1.1.2 _ hl) (hts _ hi) hdd ⟨?_, ?_⟩, hyn, hts _ hs⟩ ⟨qc_blind, fun U hU hW => ⟨rfl, by rw [hU]; exact hH, C.2.2.2.2.2.1.warm hW⟩⟩ rfl rfl hlv.1 rfl (lv_room (rest := .ref a :: st) hcat) hd ⟨by omega, by omega⟩) hS (fun H1 locs1 h1 h2 => kk p e R s m args below meth c0 Q C F H1 locs1 ls h1 h2 hlv)
  · show d1 + 1 ≤ R.frames
    omega
  · show 8 + (nL1 + 11) + 40 * d1 ≤ R.locals
    omega
end QCR
