-- what a state knows of classes, nest calls and static arrays; the judgement; contracts
def qm_sn (i : Nat) : String := (["LEAST_SET", "MOST_SET", "LEAST_SETTING", "MOST_SETTING"] : List String).getD i ""
def qm_sv (i j : Nat) : Int32 := (([[1, 0, 0], [16, 7, 1], [0, 1, 0, 0], [99999, 999, 50, 1]] : List (List Int32)).getD i []).getD j 0
def qm_sz (i : Nat) : Nat := ([3, 3, 4, 4] : List Nat).getD i 0
abbrev qm_tys (E : qm_E) : List (ClassId × FieldType) := [(E.2.1 0, .int), (E.2.1 1, .long), (E.2.1 2, .object RX2), (E.2.1 3, .object RX3)]
def qm_nest : List (String × Nat × MethodName × String) := [("HungStreams$Tree", 17, ⟨"HungStreams$Stream", "<init>", "()V"⟩, "HungStreams"), ("HungStreams$Tree", 50, ⟨"HungStreams", "within", "(III)Z"⟩, "HungStreams"), ("HungStreams$Tree", 54, ⟨"HungStreams", "has", "(II)Z"⟩, "HungStreams"), ("HungStreams$Tree", 128, ⟨"HungStreams", "cut", "(JJ)J"⟩, "HungStreams"), ("HungStreams$Frames", 43, ⟨"HungStreams", "has", "(II)Z"⟩, "HungStreams"), ("HungStreams$Frames", 139, ⟨"HungStreams", "cut", "(JJ)J"⟩, "HungStreams"), ("HungStreams$Shares", 22, ⟨"HungStreams", "has", "(II)Z"⟩, "HungStreams"), ("HungStreams$Shares", 49, ⟨"HungStreams", "cut", "(JJ)J"⟩, "HungStreams"), ("HungStreams$TypedText", 69, ⟨"HungStreams", "within", "(III)Z"⟩, "HungStreams"), ("HungStreams$TypedText", 58, ⟨"HungStreams", "has", "(II)Z"⟩, "HungStreams")]
def qm_nw (q : String × Nat × MethodName × String) : Cond := .methodLinkNest q.1 q.2.1 q.2.2.1 q.2.2.2
def qm_K (E : qm_E) (U : State) : Prop := va_K E.1 vwCl (qm_tys E) U ∧ ∀ q ∈ qm_nest, va_Nw (qm_nw q) U
def qm_Z (E : qm_E) (U : State) (H : Heap) : Prop := (∀ i, i < 4 → va_Z "HungStreams" (qm_sn i) "[I" (.ref (E.2.2.2.1 i)) (qm_A E) U H ∧ va_T .int (E.2.2.2.1 i) (qm_sz i) (fun j => .int (qm_sv i j)) (qm_A E) U H) ∧ va_X (E.2.2.2.1 4) E.2.2.2.2.1 E.2.2.2.2.2 U H ∧ E.2.2.2.1 4 < E.2.2.1
def qm_W (E : qm_E) (σ : qm_M) (U : State) : Prop := qm_H E σ U.heap ∧ qm_K E U ∧ qm_Z E U U.heap
theorem qm_K.warm {E : qm_E} {s U : State} (h : qm_K E s) (hW : s.WarmedH U.vm) : qm_K E U := ⟨va_K.moved hW.alike h.1, fun q hq => va_Nw.warmM hW (h.2 q hq)⟩
theorem qm_K.call {E : qm_E} {U : State} (h : qm_K E U) (g : JFrame) (mk : MethodId) (a : Array Value) : qm_K E (U.calling g mk a) := ⟨va_K.moved (u := U) (U := U.calling g mk a) (Vm.Alike.refl U.vm) h.1, fun q hq => va_Nw.same (u := U) (U := U.calling g mk a) rfl rfl (h.2 q hq)⟩
theorem qm_X.moved {b L : Nat} {xs : Nat → Int32} {u U : State} {H : Heap} (hvm : u.vm.Alike U.vm) (h : va_X b L xs u H) : va_X b L xs U H := by
  obtain ⟨scr, h1, h2, h3⟩ := h
  exact ⟨scr, h1, State.isArrayOf_alike hvm h2, h3⟩
theorem qm_X.kept {b L : Nat} {xs : Nat → Int32} {U : State} {H H1 : Heap} (h : va_X b L xs U H) (hb : H1[b]? = H[b]?) : va_X b L xs U H1 := by
  obtain ⟨scr, h1, h2⟩ := h
  exact ⟨scr, by rw [hb]; exact h1, h2⟩
theorem qm_X.lt {b L : Nat} {xs : Nat → Int32} {U : State} {H : Heap} (h : va_X b L xs U H) : b < H.size := by
  obtain ⟨scr, h1, -⟩ := h
  exact (Array.getElem?_eq_some_iff.mp h1).1
theorem qm_Z.moved {E : qm_E} {u U : State} {H : Heap} (hvm : u.vm.Alike U.vm) (h : qm_Z E u H) : qm_Z E U H := ⟨fun i hi => ⟨va_Z.moved hvm (h.1 i hi).1, va_T.moved hvm (h.1 i hi).2⟩, qm_X.moved hvm h.2.1, h.2.2⟩
theorem qm_Z.kept {E : qm_E} {U : State} {H H1 : Heap} (h : qm_Z E U H) (hq : ∀ a : Nat, a < H.size → ¬ qm_A E a → H1[a]? = H[a]?) : qm_Z E U H1 := ⟨fun i hi => ⟨va_Z.kept (h.1 i hi).1 hq, va_T.kept (h.1 i hi).2 hq⟩, qm_X.kept h.2.1 (hq _ (qm_X.lt h.2.1) (Nat.not_le.mpr h.2.2)), h.2.2⟩
/-- what holds throughout a method's body -/
def qm_Cx (E : qm_E) (R : Room) (d : Nat) (own : String) (cc : ByteArray) (nL : Nat) (p : Program) (s : State) (m : MethodId) (args : Array Value) (c : Code) (cells slots : Nat) : Prop :=
  p.tables.exec = Jvm.exec ∧ c.code = cc ∧ c.maxLocals = nL ∧ s.vm.findClass own = some m.cls ∧ (∀ w ∈ qm_ws, w.before args s = true) ∧ qm_K E s ∧ qm_Z E s s.heap ∧ (d ≤ R.frames ∧ 40 * d ≤ R.locals) ∧ (cells ≤ R.cells ∧ slots ≤ R.slots)
def qm_rd (cc : ByteArray) (pc : Nat) (v : Option Value) : Prop := match v with
  | none => decode cc pc = .ok (.return_, 1)
  | some (.int _) => decode cc pc = .ok (.ireturn, 1)
  | some (.long _) => decode cc pc = .ok (.lreturn, 1)
  | _ => False
/-- from pc, with these locals, this stack and this memory, the method comes to a return with r.1, memory r.2 -/
def qm_Wp (l : Launch) (E : qm_E) (d : Nat) (own : String) (cc : ByteArray) (nL : Nat) (pc : Nat) (lv : List (Nat × Value)) (st : List Value) (σ : qm_M) (r : Option Value × qm_M) : Prop :=
  ∀ (p : Program) (e : Env) (R : Room) (s : State) (m : MethodId) (args : Array Value) (below : List Frame) (meth : Method) (c : Code) (cells slots : Nat) (Q : State → Prop), qm_Cx E R d own cc nL p s m args c cells slots →
    (∀ (H : Heap) (locs : List Loc) (ls : Array Slot) (pc' : Nat), qm_H E r.2 H → va_S (qm_A E) s.heap H locs → qm_rd cc pc' r.1 → W p l e R s m args below meth c H locs cells slots Q (F0 m pc' ls r.1.toList)) →
    ∀ (H : Heap) (locs : List Loc) (ls : Array Slot), qm_H E σ H → va_S (qm_A E) s.heap H locs → lv_has ls nL lv → W p l e R s m args below meth c H locs cells slots Q (F0 m pc ls st)
def qm_rm (d : Nat) : Room := { frames := d, cells := 0, slots := 0, locals := 40 * d }
def qm_Q (E : qm_E) (r : Option Value × qm_M) : Array Value → State → Outcome → State → Prop := fun _ st o t => o = .returned r.1 ∧ qm_W E r.2 t ∧ va_F (qm_A E) st t
/-- a method's contract: with these arguments and this memory it answers r.1 and leaves memory r.2 -/
def qm_Ct (l : Launch) (E : qm_E) (d : Nat) (y : MethodName) (cc : ByteArray) (nL : Nat) (ret : Option FieldType) (As : List Value) (σ : qm_M) (r : Option Value × qm_M) : Prop :=
  Met l y (.code y cc nL ret :: qm_ws) (qm_rm d) (va_Pc As (qm_W E σ)) (qm_Q E r) 0 0 (qm_A E)
def qm_rt (ret : Option FieldType) (v : Option Value) : Prop := match v with
  | none => ret = none
  | some (.int x) => ret = some .int ∨ (ret = some .boolean ∧ (x = 0 ∨ x = 1))
  | some (.long _) => ret = some .long
  | _ => False
theorem qm_ofWp {l : Launch} {E : qm_E} {d : Nat} {y : MethodName} {cc : ByteArray} {nL : Nat} {ret : Option FieldType} {As : List Value} {σ : qm_M} {r : Option Value × qm_M} (hy : plainName y.cls = true) (hA : (lg_sl As).length ≤ nL) (hrt : qm_rt ret r.1)
    (k : qm_Wp l E d y.cls cc nL 0 (lv_args 0 As) [] σ r) : qm_Ct l E d y cc nL ret As σ r := by
  refine Met.ofW (cc := cc) (maxL := nL) (ret := ret) hy rfl ?_
  intro p e s m args below meth c s₁ B hml hv
  obtain ⟨rfl, hH, hK, hZ⟩ := hv
  have hts0 := atoms_spec (ws := Cond.code y cc nL ret :: qm_ws) B.pre
  have hown : s.vm.findClass y.cls = some m.cls := findClass_of_methodNamed B.named
  have hl := lv_entry As (n := nL) hA
  rw [lg_entry_eq]
  have hr := B.returns
  have hlk : meth.locks = false := B.notSynchronized
  refine k p e (qm_rm d) s m As.toArray below meth c 0 0 _ ⟨B.exec, B.bytes, hml, hown, fun w hw => hts0 w (List.mem_cons_of_mem _ hw), hK, hZ, ⟨Nat.le_refl _, Nat.le_refl _⟩, ⟨Nat.le_refl _, Nat.le_refl _⟩⟩ ?_ s.heap [] _ hH va_S.rf hl
  intro H locs ls pc' hH' hS hd
  have hq : ∀ t : State, t.heap = H → s.WarmedH t.vm → qm_Q E r As.toArray s (.returned r.1) t := by
    intro t ht hW
    refine ⟨rfl, ⟨by rw [ht]; exact hH', hK.warm hW, ?_⟩, hS.F ht⟩
    rw [ht]
    exact (hZ.moved hW.alike).kept hS.2.1
  obtain ⟨v, τ⟩ := r
  cases v with
  | none => exact W.vret B.exec B.bytes (hr.trans hrt) hq hS.2.2 hd hlk
  | some w =>
    cases w with
    | int x =>
      rcases hrt with h | ⟨h, h2⟩
      · exact W.iret B.exec B.bytes (hr.trans h) hq hS.2.2 hd hlk
      · exact W.zret B.exec B.bytes (hr.trans h) (by rcases h2 with rfl | rfl <;> rfl) hq hS.2.2 hd hlk
    | long x => exact W.lret B.exec B.bytes (hr.trans hrt) hq hS.2.2 hd hlk
    | _ => exact hrt.elim
