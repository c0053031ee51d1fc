/-! THE CLAIM OUT OF ONE WALK OF THE LAW'S BODY. Your part is whole_start (and what it stands on); all else here is the same for every law, but numbers. -/
def R_law : String := "HungStreamsLaw"
def lw_P (b : Addr) (xs : List Int32) (args : Array Value) (s : State) : Prop := args = #[.ref b] ∧ s.IntsAt b xs ∧ xs.length ≤ 2560 ∧ (Jvm.Cond.and given_1 narrow_1).before args s = true
def lw_Q (_ : Array Value) (s : State) (o : Outcome) (t : State) : Prop := o = .returned (some (.int 1)) ∧ Framed s o t [] 600000 7302250
def lw_Z (below : List Frame) (a : Array Value) (s : State) : State → Prop := fun t => ∃ o, t.status = .running ∧ Ended t below o ∧ lw_Q a s o t
/-- the law's own end, with 1 on the stack, nothing written that was there before, its room as the claim has it -/
theorem lw_ret {p : Program} {l : Launch} {e : Env} {s : State} {m : MethodId} {below : List Frame} {meth : Method} {c : Code} {b : Nat} (hx : p.tables.exec = Jvm.exec) (hb : c.code = code) (hr : meth.sig.returnType = ret) (hlocks : meth.locks = false) {pc : Nat} {H : Heap} {ls : Array Slot} (hdg : decode code pc = .ok (.ireturn, 1)) : W p l e room_1 s m #[Value.ref b] below meth c H [] 600000 7302250 (lw_Z below #[Value.ref b] s) (F0 m pc ls [.int 1]) := by
  intro T hT X
  obtain ⟨fs, hret, hrun, hended, hW, hframe⟩ := X.leave (v := some (.int 1)) (hlocks := hlocks) (fun h => by rw [hr] at h; cases h)
  have hmeth' : T.vm.method? m = some meth := X.method'
  refine ⟨T.setFrames fs, ?_, .returned (some (.int 1)), hrun, hended, rfl, ⟨_, rfl⟩, hW, hframe⟩
  jvm_step X.here [X.here.top, hx, hb, hdg, hmeth', hr, ret, narrow_b1]
  (try refine ⟨rfl, ?_⟩); (try refine ⟨rfl, ?_⟩)
  first | (intro acts; rw [hret _ acts rfl rfl rfl]) | rw [hret _ _ rfl rfl rfl]
  exact Steps.refl _
/-- what holds at the law's entry: the machine, the code, the tables' words (any of lw_tbl by 'hts w (by decide +kernel)'), the script of L ints xs at the cell b, what the Statement gives of the start (any of its parts by flat_of_before) -/
def lw_At (p : Program) (s : State) (m : MethodId) (meth : Method) (c : Code) (b L : Nat) (xs : Nat → Int32) : Prop :=
  p.tables.exec = Jvm.exec ∧ c.code = code ∧ meth.sig.returnType = ret ∧ c.maxLocals = 4 ∧ s.vm.findClass R_law = some m.cls ∧ (∀ w ∈ lw_tbl, w.before #[Value.ref b] s = true) ∧ va_X b L xs s s.heap ∧ b < s.heap.size ∧ meth.locks = false ∧ (Jvm.Cond.and given_1 narrow_1).before #[Value.ref b] s = true
/-- what the law's first state gives: an E, all its knowledge -/
theorem qs_env {s : State} {b L : Nat} {xs : Nat → Int32} (hts : ∀ w ∈ lw_tbl, w.before #[Value.ref b] s = true) (hX : va_X b L xs s s.heap) (hbl : b < s.heap.size) (hgv : (Jvm.Cond.and given_1 narrow_1).before #[Value.ref b] s = true) : ∃ E : qm_E, E.2.2.1 = s.heap.size ∧ E.2.2.2.1 4 = b ∧ E.2.2.2.2.1 = L ∧ E.2.2.2.2.2 = xs ∧ qc_K E s ∧ qm_Z E s s.heap := by
  have hq : ∀ w ∈ qm_ws, w.before #[Value.ref b] s = true := fun w hw => hts w (List.mem_filter.mp hw).1
  obtain ⟨c0, i0, k0⟩ := u_known (C := RX2) (T := TX2) (N := 14) (n := 14) hq qm_in0 (hq _ qw_27)
  obtain ⟨c1, i1, k1⟩ := u_known (C := RX3) (T := TX3) (N := 10) (n := 10) hq qm_in1 (hq _ qw_20)
  obtain ⟨c2, i2, k2⟩ := u_known (C := RX4) (T := TX4) (N := 2) (n := 2) hq qm_in2 (hq _ qw_202)
  obtain ⟨c3, i3, k3⟩ := u_known (C := RX5) (T := TX5) (N := 10) (n := 10) hq qm_in3 (hq _ qw_159)
  obtain ⟨c4, i4, k4⟩ := u_known (C := RX6) (T := TX6) (N := 9) (n := 9) hq qm_in4 (hq _ qw_12)
  obtain ⟨c5, i5, k5⟩ := u_known (C := RX7) (T := TX7) (N := 17) (n := 17) hq qm_in5 (hq _ qw_615)
  obtain ⟨aI, kI, mI, fI1, fI2, fI3⟩ := Cond.arrayClass_spec (hq _ qw_200)
  obtain ⟨aJ, kJ, mJ, fJ1, fJ2, fJ3⟩ := Cond.arrayClass_spec (hq _ qw_676)
  have hoS := hts (.arrayOver (.object "HungStreams$Stream")) (List.mem_append_right _ (List.mem_append_left _ (List.mem_of_getElem? (i := 26) rfl)))
  have hoT := hts (.arrayOver (.object "HungStreams$Tree")) (List.mem_append_right _ (List.mem_append_left _ (List.mem_of_getElem? (i := 157) rfl)))
  obtain ⟨mS, aS, kS, fS1, -, fS2, fS3, fS4⟩ := Cond.arrayOver_spec hoS
  obtain ⟨mT, aT, kT, fT1, -, fT2, fT3, fT4⟩ := Cond.arrayOver_spec hoT
  have hs := flat_of_before _ hgv
  have hA : ∀ a : Nat, a < s.heap.size → ¬ (fun q : Nat => s.heap.size ≤ q) a := fun a h => Nat.not_le.mpr h
  obtain ⟨t0, ev0, T0⟩ := va_Tof (tm := .static "HungStreams" "LEAST_SET" "[I") (ty := .int) (N := 3) (f := fun j => .int (qm_sv 0 j)) (A := fun q : Nat => s.heap.size ≤ q) (by decide) (hs (Cond.arrayOf (.static "HungStreams" "LEAST_SET" "[I") .int) (by decide +kernel)) (va_eqt (hs (Cond.eq (.length (.static "HungStreams" "LEAST_SET" "[I")) (.int 3)) (by decide +kernel))) (fun j hj => by
    match j, hj with
    | 0, _ => exact va_eqt (hs (Cond.eq (.elem (.static "HungStreams" "LEAST_SET" "[I") (.int 0)) (.int 1)) (by decide +kernel))
    | 1, _ => exact va_eqt (hs (Cond.eq (.elem (.static "HungStreams" "LEAST_SET" "[I") (.int 1)) (.int 0)) (by decide +kernel))
    | 2, _ => exact va_eqt (hs (Cond.eq (.elem (.static "HungStreams" "LEAST_SET" "[I") (.int 2)) (.int 0)) (by decide +kernel))
    | j + 3, hj => exact absurd hj (by omega)) hA
  have Z0 := va_Zref (A := fun q : Nat => s.heap.size ≤ q) (hts (.laysStatic "HungStreams" "LEAST_SET" "[I") (List.mem_append_right _ (List.mem_append_right _ (List.mem_append_left _ (List.mem_of_getElem? (i := 86) rfl))))) (hq _ qw_1) ev0 hA
  obtain ⟨t1, ev1, T1⟩ := va_Tof (tm := .static "HungStreams" "MOST_SET" "[I") (ty := .int) (N := 3) (f := fun j => .int (qm_sv 1 j)) (A := fun q : Nat => s.heap.size ≤ q) (by decide) (hs (Cond.arrayOf (.static "HungStreams" "MOST_SET" "[I") .int) (by decide +kernel)) (va_eqt (hs (Cond.eq (.length (.static "HungStreams" "MOST_SET" "[I")) (.int 3)) (by decide +kernel))) (fun j hj => by
    match j, hj with
    | 0, _ => exact va_eqt (hs (Cond.eq (.elem (.static "HungStreams" "MOST_SET" "[I") (.int 0)) (.int 16)) (by decide +kernel))
    | 1, _ => exact va_eqt (hs (Cond.eq (.elem (.static "HungStreams" "MOST_SET" "[I") (.int 1)) (.int 7)) (by decide +kernel))
    | 2, _ => exact va_eqt (hs (Cond.eq (.elem (.static "HungStreams" "MOST_SET" "[I") (.int 2)) (.int 1)) (by decide +kernel))
    | j + 3, hj => exact absurd hj (by omega)) hA
  have Z1 := va_Zref (A := fun q : Nat => s.heap.size ≤ q) (hts (.laysStatic "HungStreams" "MOST_SET" "[I") (List.mem_append_right _ (List.mem_append_right _ (List.mem_append_left _ (List.mem_of_getElem? (i := 88) rfl))))) (hq _ qw_1) ev1 hA
  obtain ⟨t2, ev2, T2⟩ := va_Tof (tm := .static "HungStreams" "LEAST_SETTING" "[I") (ty := .int) (N := 4) (f := fun j => .int (qm_sv 2 j)) (A := fun q : Nat => s.heap.size ≤ q) (by decide) (hs (Cond.arrayOf (.static "HungStreams" "LEAST_SETTING" "[I") .int) (by decide +kernel)) (va_eqt (hs (Cond.eq (.length (.static "HungStreams" "LEAST_SETTING" "[I")) (.int 4)) (by decide +kernel))) (fun j hj => by
    match j, hj with
    | 0, _ => exact va_eqt (hs (Cond.eq (.elem (.static "HungStreams" "LEAST_SETTING" "[I") (.int 0)) (.int 0)) (by decide +kernel))
    | 1, _ => exact va_eqt (hs (Cond.eq (.elem (.static "HungStreams" "LEAST_SETTING" "[I") (.int 1)) (.int 1)) (by decide +kernel))
    | 2, _ => exact va_eqt (hs (Cond.eq (.elem (.static "HungStreams" "LEAST_SETTING" "[I") (.int 2)) (.int 0)) (by decide +kernel))
    | 3, _ => exact va_eqt (hs (Cond.eq (.elem (.static "HungStreams" "LEAST_SETTING" "[I") (.int 3)) (.int 0)) (by decide +kernel))
    | j + 4, hj => exact absurd hj (by omega)) hA
  have Z2 := va_Zref (A := fun q : Nat => s.heap.size ≤ q) (hts (.laysStatic "HungStreams" "LEAST_SETTING" "[I") (List.mem_append_right _ (List.mem_append_right _ (List.mem_append_left _ (List.mem_of_getElem? (i := 181) rfl))))) (hq _ qw_1) ev2 hA
  obtain ⟨t3, ev3, T3⟩ := va_Tof (tm := .static "HungStreams" "MOST_SETTING" "[I") (ty := .int) (N := 4) (f := fun j => .int (qm_sv 3 j)) (A := fun q : Nat => s.heap.size ≤ q) (by decide) (hs (Cond.arrayOf (.static "HungStreams" "MOST_SETTING" "[I") .int) (by decide +kernel)) (va_eqt (hs (Cond.eq (.length (.static "HungStreams" "MOST_SETTING" "[I")) (.int 4)) (by decide +kernel))) (fun j hj => by
    match j, hj with
    | 0, _ => exact va_eqt (hs (Cond.eq (.elem (.static "HungStreams" "MOST_SETTING" "[I") (.int 0)) (.int 99999)) (by decide +kernel))
    | 1, _ => exact va_eqt (hs (Cond.eq (.elem (.static "HungStreams" "MOST_SETTING" "[I") (.int 1)) (.int 999)) (by decide +kernel))
    | 2, _ => exact va_eqt (hs (Cond.eq (.elem (.static "HungStreams" "MOST_SETTING" "[I") (.int 2)) (.int 50)) (by decide +kernel))
    | 3, _ => exact va_eqt (hs (Cond.eq (.elem (.static "HungStreams" "MOST_SETTING" "[I") (.int 3)) (.int 1)) (by decide +kernel))
    | j + 4, hj => exact absurd hj (by omega)) hA
  have Z3 := va_Zref (A := fun q : Nat => s.heap.size ≤ q) (hts (.laysStatic "HungStreams" "MOST_SETTING" "[I") (List.mem_append_right _ (List.mem_append_right _ (List.mem_append_left _ (List.mem_of_getElem? (i := 183) rfl))))) (hq _ qw_1) ev3 hA
  refine ⟨((fun k => if k = 0 then c0 else if k = 1 then c1 else if k = 2 then c2 else if k = 3 then c3 else if k = 4 then c4 else c5, fun k => if k = 0 then i0 else if k = 1 then i1 else if k = 2 then i2 else if k = 3 then i3 else if k = 4 then i4 else i5), fun k => if k = 0 then aI else if k = 1 then aJ else if k = 2 then aS else aT, s.heap.size, fun i => if i = 0 then t0 else if i = 1 then t1 else if i = 2 then t2 else if i = 3 then t3 else b, L, xs), rfl, rfl, rfl, rfl, ⟨⟨⟨fun k q hk => ?_, fun k q hk => ?_⟩, ?_⟩, hoS, hoT⟩, ⟨fun i hi => ?_, hX, hbl⟩⟩
  · match k, hk with
    | 0, hk => cases hk; exact k0
    | 1, hk => cases hk; exact k1
    | 2, hk => cases hk; exact k2
    | 3, hk => cases hk; exact k3
    | 4, hk => cases hk; exact k4
    | 5, hk => cases hk; exact k5
    | k + 6, hk => simp at hk
  · match k, hk with
    | 0, hk => cases hk; exact ⟨fun N z => ⟨(fun k h => by cases h), kI, fI2, mI, fI3⟩, fI1⟩
    | 1, hk => cases hk; exact ⟨fun N z => ⟨(fun k h => by cases h), kJ, fJ2, mJ, fJ3⟩, fJ1⟩
    | 2, hk => cases hk; exact ⟨fun N z => ⟨(fun k h => by cases h), kS, fS2, mS, fS3⟩, kS, mS, fS2, fS3, fS1, fS4⟩
    | 3, hk => cases hk; exact ⟨fun N z => ⟨(fun k h => by cases h), kT, fT2, mT, fT3⟩, kT, mT, fT2, fT3, fT1, fT4⟩
    | k + 4, hk => simp at hk
  · exact List.forall_mem_cons.mpr ⟨va_Nw.of rfl (hts _ (List.mem_append_right _ (List.mem_append_left _ (List.mem_of_getElem? (i := 28) rfl)))), List.forall_mem_cons.mpr ⟨va_Nw.of rfl (hts _ (List.mem_append_right _ (List.mem_append_right _ (List.mem_append_left _ (List.mem_of_getElem? (i := 19) rfl))))), List.forall_mem_cons.mpr ⟨va_Nw.of rfl (hts _ (List.mem_append_right _ (List.mem_append_right _ (List.mem_append_left _ (List.mem_of_getElem? (i := 20) rfl))))), List.forall_mem_cons.mpr ⟨va_Nw.of rfl (hts _ (List.mem_append_right _ (List.mem_append_right _ (List.mem_append_left _ (List.mem_of_getElem? (i := 109) rfl))))), List.forall_mem_cons.mpr ⟨va_Nw.of rfl (hts _ (List.mem_append_right _ (List.mem_append_right _ (List.mem_append_left _ (List.mem_of_getElem? (i := 201) rfl))))), List.forall_mem_cons.mpr ⟨va_Nw.of rfl (hts _ (List.mem_append_right _ (List.mem_append_right _ (List.mem_append_left _ (List.mem_of_getElem? (i := 231) rfl))))), List.forall_mem_cons.mpr ⟨va_Nw.of rfl (hts _ (List.mem_append_right _ (List.mem_append_right _ (List.mem_append_right _ (List.mem_append_left _ (List.mem_of_getElem? (i := 21) rfl)))))), List.forall_mem_cons.mpr ⟨va_Nw.of rfl (hts _ (List.mem_append_right _ (List.mem_append_right _ (List.mem_append_right _ (List.mem_append_left _ (List.mem_of_getElem? (i := 26) rfl)))))), List.forall_mem_cons.mpr ⟨va_Nw.of rfl (hts _ (List.mem_append_right _ (List.mem_append_right _ (List.mem_append_right _ (List.mem_append_left _ (List.mem_of_getElem? (i := 71) rfl)))))), List.forall_mem_cons.mpr ⟨va_Nw.of rfl (hts _ (List.mem_append_right _ (List.mem_append_right _ (List.mem_append_right _ (List.mem_append_left _ (List.mem_of_getElem? (i := 80) rfl)))))), (fun _ h => absurd h List.not_mem_nil)⟩⟩⟩⟩⟩⟩⟩⟩⟩⟩
  · match i, hi with
    | 0, _ => exact ⟨Z0, T0⟩
    | 1, _ => exact ⟨Z1, T1⟩
    | 2, _ => exact ⟨Z2, T2⟩
    | 3, _ => exact ⟨Z3, T3⟩
    | i + 4, hi => exact absurd hi (by omega)
set_option maxRecDepth 100000 in
set_option maxHeartbeats 4000000 in
theorem whole_open {p : Program} {e : Env} {s : State} {m : MethodId} {below : List Frame} {meth : Method} {c : Code} (l : Launch) {b L : Nat} {xs : Nat → Int32} (C0 : lw_At p s m meth c b L xs) (hp : ∀ E : qm_E, E.2.2.2.2.1 = L → E.2.2.2.2.2 = xs → ∃ σ', lp_L_law_18 E qm_0 0 = some (true, σ')) : W p l e room_1 s m #[Value.ref b] below meth c s.heap [] 0 0 (lw_Z below #[Value.ref b] s) (entryFrame m ([Value.ref b] : List Value).toArray 4) := by
  obtain ⟨hx, hb, hr, hml, hown, hts, hX, hbl, hlocks, hgv⟩ := id C0
  obtain ⟨E, hE1, hE2, hE3, hE4, hK, hZ⟩ := qs_env hts hX hbl hgv
  obtain ⟨σ', hp⟩ := hp E hE3 hE4
  have hq : ∀ w ∈ qm_ws, w.before #[Value.ref b] s = true := fun w hw => hts w (List.mem_filter.mp hw).1
  have hl := lv_entry ([.ref b]) (n := 4) (Nat.le_of_ble_eq_true rfl)
  rw [lg_entry_eq]
  generalize (lg_sl ([.ref b]) ++ List.replicate (4 - (lg_sl ([.ref b])).length) Slot.unset).toArray = ls at hl ⊢
  have hl : lv_has ls 4 [(0, .ref b)] := hl
  have hW0 : qc_W E 0 (fun _ => .inr (0, [])) s.heap := ⟨by rw [hE1]; rfl, fun o h => absurd h (by omega)⟩
  have hS0 : va_S (qm_A E) s.heap s.heap [] := va_S.rf
  have hK4 := hK.1.1.1 4 _ rfl
  have hK5 := hK.1.1.1 5 _ rfl
  have hown : s.vm.findClass "HungStreamsLaw" = some m.cls := hown
  refine W.newcK (n := 9) hx hb hown (hq _ qw_11) (hq _ qw_12) (hq _ qw_1) rfl dL_law_0 (by show 0 + 1 ≤ 600000; omega) (by show 0 + 9 ≤ 7302250; omega) hK4.2.1 hW0.1 fun H1 kC hkC e1 z1 o1 => ?_
  rw [← hW0.1] at z1 o1
  have hW1 : qc_W E 1 (qh_a E) H1 := hW0.push z1 o1 ⟨_, rfl, (u_born tyX6 hq qm_in4 hK4 hkC e1 tyX6_ok).to qd_X6⟩
  have hS1 := qc_Sgrow hS0 z1 o1
  refine lv_dup hx hb dL_law_3 rfl ?_
  refine qc_back (va_runI (As := []) (rest := [.ref (E.2.2.1 + 0)]) (n := 0) (b := E.2.2.1 + 0) ⟨hx, hb, hml, hown, hq⟩ (cc_X6 (l := l) (E := E)) ⟨callB_of 0 hq (qc_gd qw_15) rfl rfl rfl (hq _ qw_1) (hq _ qw_13) yi_X6 ⟨by show 5 + 1 ≤ 2048; omega, by show 8 + (2 + 11) + 40 * 5 ≤ 84000; omega⟩, rfl, hq _ qw_14⟩ ⟨qc_blind, fun U hU hW => ⟨rfl, by rw [hU]; exact hW1, hK.warm hW⟩⟩ rfl rfl hl.1 rfl (lv_room (Nat.le_of_ble_eq_true rfl)) dL_law_4 ⟨by show 0 + 1 + 99 ≤ 600000; omega, by show 0 + 9 + 1536 ≤ 7302250; omega⟩) hS1 (fun H2 locs2 hW2 hS2 => ?_)
  have hW2 : qc_W E 100 (qh_w E) H2 := hW2
  refine lv_astore_n (lv' := [(1, .ref (E.2.2.1 + 0)), (0, .ref b)]) hx hb dL_law_7 rfl hl (by decide) rfl (fun ls hl => ?_)
  refine W.newcK (n := 17) hx hb hown (hq _ qw_614) (hq _ qw_615) (hq _ qw_6) rfl dL_law_8 (by show 0 + 1 + 99 + 1 ≤ 600000; omega) (by show 0 + 9 + 1536 + 17 ≤ 7302250; omega) hK5.2.1 hW2.1 fun H3 kC hkC e1 z1 o1 => ?_
  rw [← hW2.1] at z1 o1
  have hW3 : qc_W E 101 (va_up (qh_w E) 100 (.inr (5, qe_X7))) H3 := hW2.push z1 o1 ⟨_, rfl, (u_born tyX7 hq qm_in5 hK5 hkC e1 tyX7_ok).to qd_X7⟩
  have hS3 := qc_Sgrow hS2 z1 o1
  refine lv_dup hx hb dL_law_11 rfl ?_
  refine qc_back (va_runI (As := []) (rest := [.ref (E.2.2.1 + 100)]) (n := 0) (b := E.2.2.1 + 100) ⟨hx, hb, hml, hown, hq⟩ (cc_X7 (l := l) (E := E) (o := 100) (n := 101) (by decide) qc_us) ⟨callB_of 0 hq (qc_gd qw_618) rfl rfl rfl (hq _ qw_6) (hq _ qw_616) yi_X7 ⟨by show 1 + 1 ≤ 2048; omega, by show 8 + (1 + 11) + 40 * 1 ≤ 84000; omega⟩, rfl, hq _ qw_617⟩ ⟨qc_blind, fun U hU hW => ⟨rfl, by rw [hU]; exact hW3, hK.warm hW⟩⟩ rfl rfl hl.1 rfl (lv_room (Nat.le_of_ble_eq_true rfl)) dL_law_12 ⟨by show 0 + 1 + 99 + 1 + 7 ≤ 600000; omega, by show 0 + 9 + 1536 + 17 + 1449 ≤ 7302250; omega⟩) hS3 (fun H4 locs4 hW4 hS4 => ?_)
  have hH4 : qm_H E qm_0 H4 := qf_fin hW4
  refine lv_astore_n (lv' := [(2, .ref (E.2.2.1 + 100)), (1, .ref (E.2.2.1 + 0)), (0, .ref b)]) hx hb dL_law_15 rfl hl (by decide) rfl (fun ls hl => ?_)
  refine lv_iconst (v := 0) hx hb dL_law_16 (by decide) ?_
  refine lv_istore_n (lv' := [(3, .int 0), (2, .ref (E.2.2.1 + 100)), (1, .ref (E.2.2.1 + 0)), (0, .ref b)]) hx hb dL_law_17 rfl hl (by decide) rfl (fun ls hl => ?_)
  have hl : lv_has ls 4 [(0, .ref (qm_a E 222)), (1, .ref (qm_a E 200)), (2, .ref (qm_a E 210)), (3, .int 0)] := by
    have h222 : qm_a E 222 = b := hE2
    rw [h222]
    exact lv_sub hl [3, 2, 1, 0] rfl
  refine wl_L_law_18 (l := l) (E := E) qm_0 0 hp rfl p e room_1 s m #[Value.ref b] below meth c _ _ _ ⟨hx, hb, hml, hown, hq, hK.1, hZ, ⟨by show kd_L_law ≤ 2048; decide, by show 40 * kd_L_law ≤ 84000; decide⟩, ⟨by show 0 + 1 + 99 + 1 + 7 ≤ 600000; omega, by show 0 + 9 + 1536 + 17 + 1449 ≤ 7302250; omega⟩⟩ ?_ H4 locs4 ls hH4 hS4 hl
  intro H5 locs5 ls5 pc5 hH5 hS5 hrd
  refine va_forget (fun q hq => by have h := hS5.2.2 q hq; unfold qm_A at h; rw [hE1] at h; exact h) ?_
  refine W.widen (k := 600000) (n := 7302250) (by show 0 + 1 + 99 + 1 + 7 ≤ 600000; omega) (by show 0 + 9 + 1536 + 17 + 1449 ≤ 7302250; omega) ?_
  exact lw_ret hx hb hr hlocks hrd
