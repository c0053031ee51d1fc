-- java/lang/Math.max (II)I
abbrev kd_J_max : Nat := 1
theorem yd_J_max : (yJ_max).cls ≠ "java/lang/invoke/MethodHandle" ∧ (yJ_max).cls ≠ "java/lang/invoke/VarHandle" ∧ (parseMethodDescriptor (yJ_max).desc).map (fun d => d.parameters.length) = some 2 := by decide +kernel
def fn_J_max (σ : qm_M) (v0 : Int32) (v1 : Int32) : Option (Int32) :=
  if v0 < v1 then some v1 else some v0
set_option maxRecDepth 20000 in
theorem wf_J_max {l : Launch} {E : qm_E} (σ : qm_M) (v0 : Int32) (v1 : Int32) {x : Int32} (h : fn_J_max σ v0 v1 = some x) {r : Option Value × qm_M} (hT : (fun x r => (some (.int x), σ) = r) x r) : qm_Wp l E kd_J_max "java/lang/Math" prog_11_method_65_code 2 0 [(0, .int v0), (1, .int v1)] [] σ r := by
  unfold fn_J_max at h
  refine qr_iload_n dJ_max_0 rfl 0 rfl ?_
  refine qr_iload_n dJ_max_1 rfl 1 rfl ?_
  refine qr_icmp_lt (tgt := 9) dJ_max_2 (by decide) (fun c1 => ?_) (fun c1 => ?_)
  · rw [if_pos c1] at h
    refine qr_iload_n dJ_max_9 rfl 1 rfl ?_
    obtain rfl := Option.some.inj h
    cases hT
    exact qr_iret dJ_max_10
  · rw [if_neg c1] at h
    refine qr_iload_n dJ_max_5 rfl 0 rfl ?_
    refine qr_goto (tgt := 10) dJ_max_6 (by decide) ?_
    obtain rfl := Option.some.inj h
    cases hT
    exact qr_iret dJ_max_10
theorem ct_J_max {l : Launch} {E : qm_E} (σ : qm_M) (v0 : Int32) (v1 : Int32) {x : Int32} (h : fn_J_max σ v0 v1 = some x) : qm_Ct l E kd_J_max yJ_max prog_11_method_65_code 2 (some .int) [.int v0, .int v1] σ (some (.int x), σ) := qm_ofWpF (by decide +kernel) (Nat.le_of_ble_eq_true rfl) (Or.inl rfl) (wf_J_max σ v0 v1  h rfl)
-- HungStreams$Stream.waitOnce ()V
abbrev kd_X2_waitOnce : Nat := 2
theorem yd_X2_waitOnce : (yX2_waitOnce).cls ≠ "java/lang/invoke/MethodHandle" ∧ (yX2_waitOnce).cls ≠ "java/lang/invoke/VarHandle" ∧ (parseMethodDescriptor (yX2_waitOnce).desc).map (fun d => d.parameters.length) = some 0 := by decide +kernel
def fn_X2_waitOnce (σ : qm_M) (v0 : Nat) : Option (qm_M) :=
  (some (qm_si σ v0 9 ((σ.1 v0 9) + 1))).bind (fun σ1 => (fn_J_max σ1 (σ1.1 v0 10) (σ1.1 v0 9)).bind (fun r2 => (some (qm_si σ1 v0 10 r2)).bind (fun σ3 => some σ3)))
set_option maxRecDepth 20000 in
theorem wf_X2_waitOnce {l : Launch} {E : qm_E} (σ : qm_M) (v0 : Nat) (hk0 : qm_kind v0 = 1) {x : qm_M} (h : fn_X2_waitOnce σ v0 = some x) {r : Option Value × qm_M} (hT : (fun x r => (none, x) = r) x r) : qm_Wp l E kd_X2_waitOnce "HungStreams$Stream" cX2_waitOnce 1 0 [(0, .ref (qm_a E v0))] [] σ r := by
  unfold fn_X2_waitOnce at h
  refine qr_aload_n dX2_waitOnce_0 rfl 0 rfl ?_
  refine qr_dup dX2_waitOnce_1 rfl ?_
  refine qr_get0 (k := 9) (v := .int (σ.1 v0 9)) hk0 (by decide) rfl qw_63 dX2_waitOnce_2 ?_
  refine qr_iconst (v := 1) dX2_waitOnce_5 (by decide) ?_
  refine qr_iadd dX2_waitOnce_6 ?_
  obtain ⟨σ1, eσ1, h⟩ := qm_bind h
  refine qr_put0_9 hk0 qw_63 dX2_waitOnce_7 (qr_eqm (Option.some.inj eσ1) ?_)
  refine qr_aload_n dX2_waitOnce_10 rfl 0 rfl ?_
  refine qr_aload_n dX2_waitOnce_11 rfl 0 rfl ?_
  refine qr_get0 (k := 10) (v := .int (σ1.1 v0 10)) hk0 (by decide) rfl qw_65 dX2_waitOnce_12 ?_
  refine qr_aload_n dX2_waitOnce_15 rfl 0 rfl ?_
  refine qr_get0 (k := 9) (v := .int (σ1.1 v0 9)) hk0 (by decide) rfl qw_63 dX2_waitOnce_16 ?_
  obtain ⟨r2, er2, h⟩ := qm_bind h
  refine qr_call1 (st1 := [.int r2, .ref (qm_a E v0)]) rfl (qr_callS (As := [.int (σ1.1 v0 10), .int (σ1.1 v0 9)]) (st := [.ref (qm_a E v0)]) (ct_J_max (l := l) (E := E) σ1 (σ1.1 v0 10) (σ1.1 v0 9) er2) qw_481 qw_7 qw_479 qw_480 yd_J_max (by decide) (by decide) rfl (Nat.le_of_ble_eq_true rfl) dX2_waitOnce_19) ?_
  obtain ⟨σ3, eσ3, h⟩ := qm_bind h
  refine qr_put0_10 hk0 qw_65 dX2_waitOnce_22 (qr_eqm (Option.some.inj eσ3) ?_)
  obtain rfl := Option.some.inj h
  cases hT
  exact qr_vret dX2_waitOnce_25
theorem ct_X2_waitOnce {l : Launch} {E : qm_E} (σ : qm_M) (v0 : Nat) (hk0 : qm_kind v0 = 1) {x : qm_M} (h : fn_X2_waitOnce σ v0 = some x) : qm_Ct l E kd_X2_waitOnce yX2_waitOnce cX2_waitOnce 1 none [.ref (qm_a E v0)] σ (none, x) := qm_ofWp rfl (Nat.le_of_ble_eq_true rfl) (rfl) (wf_X2_waitOnce σ v0 hk0 h rfl)
-- HungStreams$Frames.countWaits (LHungStreams$Tree;II)V
abbrev kd_X0_countWaits : Nat := 3
theorem yd_X0_countWaits : (yX0_countWaits).cls ≠ "java/lang/invoke/MethodHandle" ∧ (yX0_countWaits).cls ≠ "java/lang/invoke/VarHandle" ∧ (parseMethodDescriptor (yX0_countWaits).desc).map (fun d => d.parameters.length) = some 3 := by decide +kernel
abbrev pp_X0_countWaits_2 (l : Launch) (E : qm_E) (v0 : Nat) (v1 : Int32) (v2 : Int32) : (Int32 × qm_M) → Option Value × qm_M → Prop := fun s r => qm_Wp l E kd_X0_countWaits "HungStreams$Frames" cX0_countWaits 4 2 [(0, .ref (qm_a E v0)), (1, .int v1), (2, .int v2), (3, .int s.1)] [] s.2 r
def bb_X0_countWaits_2 (σ : qm_M) (v0 : Nat) (v1 : Int32) (v2 : Int32) (v3 : Int32) : Option ((Int32 × qm_M) ⊕ (qm_M)) :=
  if 12 < v3 then (if ¬ (v2 < 0 ∨ 13 ≤ v2.toNatClampNeg) then (some (qm_si σ (v0 + 1 + 1 + v2.toNatClampNeg) 9 0)).bind (fun σ2 => some σ2) else none).bind (fun y => some (.inr y)) else (fn_X6_has σ v1 v3).bind (fun r4 => if (qm_b r4) = 0 then (some (v3 + 1)).bind (fun z5 => some (.inl (z5, σ))) else if v3 = v2 then (some (v3 + 1)).bind (fun z6 => some (.inl (z6, σ))) else if ¬ (v3 < 0 ∨ 13 ≤ v3.toNatClampNeg) then (fn_X2_waitOnce σ (v0 + 1 + 1 + v3.toNatClampNeg)).bind (fun r8 => (some (v3 + 1)).bind (fun z9 => some (.inl (z9, r8)))) else none)
set_option maxRecDepth 20000 in
theorem wb_X0_countWaits_2 {l : Launch} {E : qm_E} (σ : qm_M) (v0 : Nat) (v1 : Int32) (v2 : Int32) (v3 : Int32) (hk0 : qm_kind v0 = 2) {x : (Int32 × qm_M) ⊕ (qm_M)} (h : bb_X0_countWaits_2 σ v0 v1 v2 v3 = some x) {r : Option Value × qm_M} (hT : (qm_T (pp_X0_countWaits_2 l E v0 v1 v2) (fun x r => (none, x) = r)) x r) : qm_Wp l E kd_X0_countWaits "HungStreams$Frames" cX0_countWaits 4 2 [(0, .ref (qm_a E v0)), (1, .int v1), (2, .int v2), (3, .int v3)] [] σ r := by
  unfold bb_X0_countWaits_2 at h
  refine qr_iload_n dX0_countWaits_2 rfl 3 rfl ?_
  refine qr_bipush (v := 12) dX0_countWaits_3 (by decide) ?_
  refine qr_icmp_gt (tgt := 36) dX0_countWaits_5 (by decide) (fun c12 => ?_) (fun c12 => ?_)
  · rw [if_pos c12] at h
    obtain ⟨y3, h1, hx⟩ := qm_bind h
    clear h
    cases hx
    have h := h1
    refine qr_aload_n dX0_countWaits_36 rfl 0 rfl ?_
    refine qr_get1 (k := 0) (v := .ref (qm_a E (v0 + 1))) hk0 (by decide) rfl qw_108 dX0_countWaits_37 ?_
    refine qr_iload_n dX0_countWaits_40 rfl 2 rfl ?_
    obtain ⟨c1, h⟩ := qm_chk h
    refine qr_aalds (qm_k_arr hk0) c1 dX0_countWaits_41 ?_
    refine qr_iconst (v := 0) dX0_countWaits_42 (by decide) ?_
    obtain ⟨σ2, eσ2, h⟩ := qm_bind h
    refine qr_put0_9 (qm_k_str (qm_k_arr hk0) c1) qw_64 dX0_countWaits_43 (qr_eqm (Option.some.inj eσ2) ?_)
    obtain rfl := Option.some.inj h
    cases hT
    exact qr_vret dX0_countWaits_46
  · rw [if_neg c12] at h
    refine qr_iload_n dX0_countWaits_8 rfl 1 rfl ?_
    refine qr_iload_n dX0_countWaits_9 rfl 3 rfl ?_
    obtain ⟨r4, er4, h⟩ := qm_bind h
    refine qr_call1 (st1 := [.int (qm_b r4)]) rfl (qr_callN (host := "HungStreams") (As := [.int v1, .int v3]) (st := []) (ct_X6_has (l := l) (E := E) σ v1 v3 er4) qw_262 qw_1 (List.mem_of_getElem? (i := 4) rfl) qw_261 yd_X6_has (by decide) (by decide) rfl (Nat.le_of_ble_eq_true rfl) dX0_countWaits_10) ?_
    refine qr_if_eq (tgt := 30) dX0_countWaits_13 (by decide) (fun c11 => ?_) (fun c11 => ?_)
    · rw [if_pos c11] at h
      obtain ⟨z5, ez5, h⟩ := qm_bind h
      refine qr_iinc (q := 3) (v := z5) (lv' := [(3, .int z5), (0, .ref (qm_a E v0)), (1, .int v1), (2, .int v2)]) dX0_countWaits_30 rfl (Option.some.inj ez5) (by decide) rfl ?_
      refine qr_goto (tgt := 2) dX0_countWaits_33 (by decide) ?_
      obtain rfl := Option.some.inj h
      exact qr_sub [1, 2, 3, 0] rfl hT
    · rw [if_neg c11] at h
      refine qr_iload_n dX0_countWaits_16 rfl 3 rfl ?_
      refine qr_iload_n dX0_countWaits_17 rfl 2 rfl ?_
      refine qr_icmp_eq (tgt := 30) dX0_countWaits_18 (by decide) (fun c10 => ?_) (fun c10 => ?_)
      · rw [if_pos c10] at h
        obtain ⟨z6, ez6, h⟩ := qm_bind h
        refine qr_iinc (q := 3) (v := z6) (lv' := [(3, .int z6), (0, .ref (qm_a E v0)), (1, .int v1), (2, .int v2)]) dX0_countWaits_30 rfl (Option.some.inj ez6) (by decide) rfl ?_
        refine qr_goto (tgt := 2) dX0_countWaits_33 (by decide) ?_
        obtain rfl := Option.some.inj h
        exact qr_sub [1, 2, 3, 0] rfl hT
      · rw [if_neg c10] at h
        refine qr_aload_n dX0_countWaits_21 rfl 0 rfl ?_
        refine qr_get1 (k := 0) (v := .ref (qm_a E (v0 + 1))) hk0 (by decide) rfl qw_108 dX0_countWaits_22 ?_
        refine qr_iload_n dX0_countWaits_25 rfl 3 rfl ?_
        obtain ⟨c7, h⟩ := qm_chk h
        refine qr_aalds (qm_k_arr hk0) c7 dX0_countWaits_26 ?_
        obtain ⟨r8, er8, h⟩ := qm_bind h
        refine qr_call1 (st1 := []) rfl (qr_callV (id := v0 + 1 + 1 + v3.toNatClampNeg) (c := 0) (As := []) (st := []) (qm_k_str (qm_k_arr hk0) c7) (by decide) rfl (ct_X2_waitOnce (l := l) (E := E) σ (v0 + 1 + 1 + v3.toNatClampNeg) (qm_k_str (qm_k_arr hk0) c7) er8) qw_478 qw_3 qw_475 qw_476 qw_477 yd_X2_waitOnce (by decide) (by decide) rfl (Nat.le_of_ble_eq_true rfl) dX0_countWaits_27) ?_
        obtain ⟨z9, ez9, h⟩ := qm_bind h
        refine qr_iinc (q := 3) (v := z9) (lv' := [(3, .int z9), (0, .ref (qm_a E v0)), (1, .int v1), (2, .int v2)]) dX0_countWaits_30 rfl (Option.some.inj ez9) (by decide) rfl ?_
        refine qr_goto (tgt := 2) dX0_countWaits_33 (by decide) ?_
        obtain rfl := Option.some.inj h
        exact qr_sub [1, 2, 3, 0] rfl hT
def lp_X0_countWaits_2 (σ : qm_M) (v0 : Nat) (v1 : Int32) (v2 : Int32) (v3 : Int32) : Option (qm_M) := qm_loop (fun s : Int32 × qm_M => bb_X0_countWaits_2 s.2 v0 v1 v2 s.1) 1000 (v3, σ)
theorem wl_X0_countWaits_2 {l : Launch} {E : qm_E} (σ : qm_M) (v0 : Nat) (v1 : Int32) (v2 : Int32) (v3 : Int32) (hk0 : qm_kind v0 = 2) {x : qm_M} (h : lp_X0_countWaits_2 σ v0 v1 v2 v3 = some x) {r : Option Value × qm_M} (hT : (fun x r => (none, x) = r) x r) : qm_Wp l E kd_X0_countWaits "HungStreams$Frames" cX0_countWaits 4 2 [(0, .ref (qm_a E v0)), (1, .int v1), (2, .int v2), (3, .int v3)] [] σ r :=
  qm_loop_T (P := pp_X0_countWaits_2 l E v0 v1 v2) (T1 := (fun x r => (none, x) = r)) (fun s x h r hT => wb_X0_countWaits_2 (l := l) (E := E) s.2 v0 v1 v2 s.1 hk0 h hT) h hT
def fn_X0_countWaits (σ : qm_M) (v0 : Nat) (v1 : Int32) (v2 : Int32) : Option (qm_M) :=
  lp_X0_countWaits_2 σ v0 v1 v2 1
set_option maxRecDepth 20000 in
theorem wf_X0_countWaits {l : Launch} {E : qm_E} (σ : qm_M) (v0 : Nat) (v1 : Int32) (v2 : Int32) (hk0 : qm_kind v0 = 2) {x : qm_M} (h : fn_X0_countWaits σ v0 v1 v2 = some x) {r : Option Value × qm_M} (hT : (fun x r => (none, x) = r) x r) : qm_Wp l E kd_X0_countWaits "HungStreams$Frames" cX0_countWaits 4 0 [(0, .ref (qm_a E v0)), (1, .int v1), (2, .int v2)] [] σ r := by
  unfold fn_X0_countWaits at h
  refine qr_iconst (v := 1) dX0_countWaits_0 (by decide) ?_
  refine qr_istore_n (lv' := [(3, .int 1), (0, .ref (qm_a E v0)), (1, .int v1), (2, .int v2)]) dX0_countWaits_1 rfl (by decide) rfl ?_
  exact qr_sub [1, 2, 3, 0] rfl (wl_X0_countWaits_2 (l := l) (E := E) σ v0 v1 v2 1 hk0 h hT)
theorem ct_X0_countWaits {l : Launch} {E : qm_E} (σ : qm_M) (v0 : Nat) (v1 : Int32) (v2 : Int32) (hk0 : qm_kind v0 = 2) {x : qm_M} (h : fn_X0_countWaits σ v0 v1 v2 = some x) : qm_Ct l E kd_X0_countWaits yX0_countWaits cX0_countWaits 4 none [.ref (qm_a E v0), .int v1, .int v2] σ (none, x) := qm_ofWp rfl (Nat.le_of_ble_eq_true rfl) (rfl) (wf_X0_countWaits σ v0 v1 v2 hk0 h rfl)
-- HungStreams$Frames.growOld (LHungStreams$Tree;)V
abbrev kd_X0_growOld : Nat := 2
theorem yd_X0_growOld : (yX0_growOld).cls ≠ "java/lang/invoke/MethodHandle" ∧ (yX0_growOld).cls ≠ "java/lang/invoke/VarHandle" ∧ (parseMethodDescriptor (yX0_growOld).desc).map (fun d => d.parameters.length) = some 1 := by decide +kernel
abbrev pp_X0_growOld_2 (l : Launch) (E : qm_E) (v0 : Nat) : (Int32 × qm_M) → Option Value × qm_M → Prop := fun s r => qm_Wp l E kd_X0_growOld "HungStreams$Frames" cX0_growOld 2 2 [(0, .ref (qm_a E v0)), (1, .int s.1)] [] s.2 r
def bb_X0_growOld_2 (σ : qm_M) (v0 : Nat) (v1 : Int32) : Option ((Int32 × qm_M) ⊕ (qm_M)) :=
  if 12 < v1 then (some σ).bind (fun y => some (.inr y)) else (fn_X6_has σ (σ.1 v0 1) v1).bind (fun r2 => if (qm_b r2) = 0 then (some (v1 + 1)).bind (fun z3 => some (.inl (z3, σ))) else if ¬ (v1 < 0 ∨ 13 ≤ v1.toNatClampNeg) then if (σ.1 (v0 + 1 + 1 + v1.toNatClampNeg) 6) = 0 then if ¬ (v1 < 0 ∨ 13 ≤ v1.toNatClampNeg) then (some (qm_si σ (v0 + 1 + 1 + v1.toNatClampNeg) 7 ((σ.1 (v0 + 1 + 1 + v1.toNatClampNeg) 7) + 1))).bind (fun σ7 => (some (v1 + 1)).bind (fun z8 => some (.inl (z8, σ7)))) else none else (some (v1 + 1)).bind (fun z5 => some (.inl (z5, σ))) else none)
set_option maxRecDepth 20000 in
theorem wb_X0_growOld_2 {l : Launch} {E : qm_E} (σ : qm_M) (v0 : Nat) (v1 : Int32) (hk0 : qm_kind v0 = 2) {x : (Int32 × qm_M) ⊕ (qm_M)} (h : bb_X0_growOld_2 σ v0 v1 = some x) {r : Option Value × qm_M} (hT : (qm_T (pp_X0_growOld_2 l E v0) (fun x r => (none, x) = r)) x r) : qm_Wp l E kd_X0_growOld "HungStreams$Frames" cX0_growOld 2 2 [(0, .ref (qm_a E v0)), (1, .int v1)] [] σ r := by
  unfold bb_X0_growOld_2 at h
  refine qr_iload_n dX0_growOld_2 rfl 1 rfl ?_
  refine qr_bipush (v := 12) dX0_growOld_3 (by decide) ?_
  refine qr_icmp_gt (tgt := 52) dX0_growOld_5 (by decide) (fun c11 => ?_) (fun c11 => ?_)
  · rw [if_pos c11] at h
    obtain ⟨y1, h1, hx⟩ := qm_bind h
    clear h
    cases hx
    have h := h1
    obtain rfl := Option.some.inj h
    cases hT
    exact qr_vret dX0_growOld_52
  · rw [if_neg c11] at h
    refine qr_aload_n dX0_growOld_8 rfl 0 rfl ?_
    refine qr_get1 (k := 1) (v := .int (σ.1 v0 1)) hk0 (by decide) rfl qw_113 dX0_growOld_9 ?_
    refine qr_iload_n dX0_growOld_12 rfl 1 rfl ?_
    obtain ⟨r2, er2, h⟩ := qm_bind h
    refine qr_call1 (st1 := [.int (qm_b r2)]) rfl (qr_callN (host := "HungStreams") (As := [.int (σ.1 v0 1), .int v1]) (st := []) (ct_X6_has (l := l) (E := E) σ (σ.1 v0 1) v1 er2) qw_262 qw_1 (List.mem_of_getElem? (i := 4) rfl) qw_261 yd_X6_has (by decide) (by decide) rfl (Nat.le_of_ble_eq_true rfl) dX0_growOld_13) ?_
    refine qr_if_eq (tgt := 46) dX0_growOld_16 (by decide) (fun c10 => ?_) (fun c10 => ?_)
    · rw [if_pos c10] at h
      obtain ⟨z3, ez3, h⟩ := qm_bind h
      refine qr_iinc (q := 1) (v := z3) (lv' := [(1, .int z3), (0, .ref (qm_a E v0))]) dX0_growOld_46 rfl (Option.some.inj ez3) (by decide) rfl ?_
      refine qr_goto (tgt := 2) dX0_growOld_49 (by decide) ?_
      obtain rfl := Option.some.inj h
      exact qr_sub [1, 0] rfl hT
    · rw [if_neg c10] at h
      refine qr_aload_n dX0_growOld_19 rfl 0 rfl ?_
      refine qr_get1 (k := 0) (v := .ref (qm_a E (v0 + 1))) hk0 (by decide) rfl qw_108 dX0_growOld_20 ?_
      refine qr_iload_n dX0_growOld_23 rfl 1 rfl ?_
      obtain ⟨c4, h⟩ := qm_chk h
      refine qr_aalds (qm_k_arr hk0) c4 dX0_growOld_24 ?_
      refine qr_get0 (k := 6) (v := .int (σ.1 (v0 + 1 + 1 + v1.toNatClampNeg) 6)) (qm_k_str (qm_k_arr hk0) c4) (by decide) rfl qw_55 dX0_growOld_25 ?_
      refine qr_if_ne (tgt := 46) dX0_growOld_28 (by decide) (fun c9 => ?_) (fun c9 => ?_)
      · rw [if_neg c9] at h
        obtain ⟨z5, ez5, h⟩ := qm_bind h
        refine qr_iinc (q := 1) (v := z5) (lv' := [(1, .int z5), (0, .ref (qm_a E v0))]) dX0_growOld_46 rfl (Option.some.inj ez5) (by decide) rfl ?_
        refine qr_goto (tgt := 2) dX0_growOld_49 (by decide) ?_
        obtain rfl := Option.some.inj h
        exact qr_sub [1, 0] rfl hT
      · rw [if_pos c9] at h
        refine qr_aload_n dX0_growOld_31 rfl 0 rfl ?_
        refine qr_get1 (k := 0) (v := .ref (qm_a E (v0 + 1))) hk0 (by decide) rfl qw_108 dX0_growOld_32 ?_
        refine qr_iload_n dX0_growOld_35 rfl 1 rfl ?_
        obtain ⟨c6, h⟩ := qm_chk h
        refine qr_aalds (qm_k_arr hk0) c6 dX0_growOld_36 ?_
        refine qr_dup dX0_growOld_37 rfl ?_
        refine qr_get0 (k := 7) (v := .int (σ.1 (v0 + 1 + 1 + v1.toNatClampNeg) 7)) (qm_k_str (qm_k_arr hk0) c6) (by decide) rfl qw_58 dX0_growOld_38 ?_
        refine qr_iconst (v := 1) dX0_growOld_41 (by decide) ?_
        refine qr_iadd dX0_growOld_42 ?_
        obtain ⟨σ7, eσ7, h⟩ := qm_bind h
        refine qr_put0_7 (qm_k_str (qm_k_arr hk0) c6) qw_58 dX0_growOld_43 (qr_eqm (Option.some.inj eσ7) ?_)
        obtain ⟨z8, ez8, h⟩ := qm_bind h
        refine qr_iinc (q := 1) (v := z8) (lv' := [(1, .int z8), (0, .ref (qm_a E v0))]) dX0_growOld_46 rfl (Option.some.inj ez8) (by decide) rfl ?_
        refine qr_goto (tgt := 2) dX0_growOld_49 (by decide) ?_
        obtain rfl := Option.some.inj h
        exact qr_sub [1, 0] rfl hT
def lp_X0_growOld_2 (σ : qm_M) (v0 : Nat) (v1 : Int32) : Option (qm_M) := qm_loop (fun s : Int32 × qm_M => bb_X0_growOld_2 s.2 v0 s.1) 1000 (v1, σ)
theorem wl_X0_growOld_2 {l : Launch} {E : qm_E} (σ : qm_M) (v0 : Nat) (v1 : Int32) (hk0 : qm_kind v0 = 2) {x : qm_M} (h : lp_X0_growOld_2 σ v0 v1 = some x) {r : Option Value × qm_M} (hT : (fun x r => (none, x) = r) x r) : qm_Wp l E kd_X0_growOld "HungStreams$Frames" cX0_growOld 2 2 [(0, .ref (qm_a E v0)), (1, .int v1)] [] σ r :=
  qm_loop_T (P := pp_X0_growOld_2 l E v0) (T1 := (fun x r => (none, x) = r)) (fun s x h r hT => wb_X0_growOld_2 (l := l) (E := E) s.2 v0 s.1 hk0 h hT) h hT
def fn_X0_growOld (σ : qm_M) (v0 : Nat) : Option (qm_M) :=
  lp_X0_growOld_2 σ v0 1
set_option maxRecDepth 20000 in
theorem wf_X0_growOld {l : Launch} {E : qm_E} (σ : qm_M) (v0 : Nat) (hk0 : qm_kind v0 = 2) {x : qm_M} (h : fn_X0_growOld σ v0 = some x) {r : Option Value × qm_M} (hT : (fun x r => (none, x) = r) x r) : qm_Wp l E kd_X0_growOld "HungStreams$Frames" cX0_growOld 2 0 [(0, .ref (qm_a E v0))] [] σ r := by
  unfold fn_X0_growOld at h
  refine qr_iconst (v := 1) dX0_growOld_0 (by decide) ?_
  refine qr_istore_n (lv' := [(1, .int 1), (0, .ref (qm_a E v0))]) dX0_growOld_1 rfl (by decide) rfl ?_
  exact qr_sub [1, 0] rfl (wl_X0_growOld_2 (l := l) (E := E) σ v0 1 hk0 h hT)
theorem ct_X0_growOld {l : Launch} {E : qm_E} (σ : qm_M) (v0 : Nat) (hk0 : qm_kind v0 = 2) {x : qm_M} (h : fn_X0_growOld σ v0 = some x) : qm_Ct l E kd_X0_growOld yX0_growOld cX0_growOld 2 none [.ref (qm_a E v0)] σ (none, x) := qm_ofWp rfl (Nat.le_of_ble_eq_true rfl) (rfl) (wf_X0_growOld σ v0 hk0 h rfl)
-- HungStreams$Tree.isChild (II)Z
abbrev kd_X3_isChild : Nat := 2
theorem yd_X3_isChild : (yX3_isChild).cls ≠ "java/lang/invoke/MethodHandle" ∧ (yX3_isChild).cls ≠ "java/lang/invoke/VarHandle" ∧ (parseMethodDescriptor (yX3_isChild).desc).map (fun d => d.parameters.length) = some 2 := by decide +kernel
def fn_X3_isChild (σ : qm_M) (v0 : Nat) (v1 : Int32) (v2 : Int32) : Option (Bool) :=
  (fn_X6_has σ (σ.1 v0 1) v1).bind (fun r1 => if (qm_b r1) = 0 then some false else if ¬ (v1 < 0 ∨ 13 ≤ v1.toNatClampNeg) then if (σ.1 (v0 + 1 + 1 + v1.toNatClampNeg) 0) = v2 then some true else some false else none)
set_option maxRecDepth 20000 in
theorem wf_X3_isChild {l : Launch} {E : qm_E} (σ : qm_M) (v0 : Nat) (v1 : Int32) (v2 : Int32) (hk0 : qm_kind v0 = 2) {x : Bool} (h : fn_X3_isChild σ v0 v1 v2 = some x) {r : Option Value × qm_M} (hT : (fun x r => (some (.int (qm_b x)), σ) = r) x r) : qm_Wp l E kd_X3_isChild "HungStreams$Tree" cX3_isChild 3 0 [(0, .ref (qm_a E v0)), (1, .int v1), (2, .int v2)] [] σ r := by
  unfold fn_X3_isChild at h
  refine qr_aload_n dX3_isChild_0 rfl 0 rfl ?_
  refine qr_get1 (k := 1) (v := .int (σ.1 v0 1)) hk0 (by decide) rfl qw_111 dX3_isChild_1 ?_
  refine qr_iload_n dX3_isChild_4 rfl 1 rfl ?_
  obtain ⟨r1, er1, h⟩ := qm_bind h
  refine qr_call1 (st1 := [.int (qm_b r1)]) rfl (qr_callN (host := "HungStreams") (As := [.int (σ.1 v0 1), .int v1]) (st := []) (ct_X6_has (l := l) (E := E) σ (σ.1 v0 1) v1 er1) qw_262 qw_1 (List.mem_of_getElem? (i := 2) rfl) qw_261 yd_X6_has (by decide) (by decide) rfl (Nat.le_of_ble_eq_true rfl) dX3_isChild_5) ?_
  refine qr_if_eq (tgt := 28) dX3_isChild_8 (by decide) (fun c4 => ?_) (fun c4 => ?_)
  · rw [if_pos c4] at h
    refine qr_iconst (v := 0) dX3_isChild_28 (by decide) ?_
    obtain rfl := Option.some.inj h
    cases hT
    exact qr_iret dX3_isChild_29
  · rw [if_neg c4] at h
    refine qr_aload_n dX3_isChild_11 rfl 0 rfl ?_
    refine qr_get1 (k := 0) (v := .ref (qm_a E (v0 + 1))) hk0 (by decide) rfl qw_106 dX3_isChild_12 ?_
    refine qr_iload_n dX3_isChild_15 rfl 1 rfl ?_
    obtain ⟨c2, h⟩ := qm_chk h
    refine qr_aalds (qm_k_arr hk0) c2 dX3_isChild_16 ?_
    refine qr_get0 (k := 0) (v := .int (σ.1 (v0 + 1 + 1 + v1.toNatClampNeg) 0)) (qm_k_str (qm_k_arr hk0) c2) (by decide) rfl qw_36 dX3_isChild_17 ?_
    refine qr_iload_n dX3_isChild_20 rfl 2 rfl ?_
    refine qr_icmp_ne (tgt := 28) dX3_isChild_21 (by decide) (fun c3 => ?_) (fun c3 => ?_)
    · rw [if_neg c3] at h
      refine qr_iconst (v := 0) dX3_isChild_28 (by decide) ?_
      obtain rfl := Option.some.inj h
      cases hT
      exact qr_iret dX3_isChild_29
    · rw [if_pos c3] at h
      refine qr_iconst (v := 1) dX3_isChild_24 (by decide) ?_
      refine qr_goto (tgt := 29) dX3_isChild_25 (by decide) ?_
      obtain rfl := Option.some.inj h
      cases hT
      exact qr_iret dX3_isChild_29
theorem ct_X3_isChild {l : Launch} {E : qm_E} (σ : qm_M) (v0 : Nat) (v1 : Int32) (v2 : Int32) (hk0 : qm_kind v0 = 2) {x : Bool} (h : fn_X3_isChild σ v0 v1 v2 = some x) : qm_Ct l E kd_X3_isChild yX3_isChild cX3_isChild 3 (some .boolean) [.ref (qm_a E v0), .int v1, .int v2] σ (some (.int (qm_b x)), σ) := qm_ofWp rfl (Nat.le_of_ble_eq_true rfl) (qm_rtz _) (wf_X3_isChild σ v0 v1 v2 hk0 h rfl)
-- HungStreams$Tree.childWeights (II)I
abbrev kd_X3_childWeights : Nat := 3
theorem yd_X3_childWeights : (yX3_childWeights).cls ≠ "java/lang/invoke/MethodHandle" ∧ (yX3_childWeights).cls ≠ "java/lang/invoke/VarHandle" ∧ (parseMethodDescriptor (yX3_childWeights).desc).map (fun d => d.parameters.length) = some 2 := by decide +kernel
abbrev pp_X3_childWeights_5 (l : Launch) (E : qm_E) (σ : qm_M) (v0 : Nat) (v1 : Int32) (v2 : Int32) : (Int32 × Int32) → Option Value × qm_M → Prop := fun s r => qm_Wp l E kd_X3_childWeights "HungStreams$Tree" cX3_childWeights 5 5 [(0, .ref (qm_a E v0)), (1, .int v1), (2, .int v2), (3, .int s.1), (4, .int s.2)] [] σ r
def bb_X3_childWeights_5 (σ : qm_M) (v0 : Nat) (v1 : Int32) (v2 : Int32) (v3 : Int32) (v4 : Int32) : Option ((Int32 × Int32) ⊕ (Int32)) :=
  if 12 < v4 then (some v3).bind (fun y => some (.inr y)) else (fn_X6_has σ v2 v4).bind (fun r2 => if (qm_b r2) = 0 then (some (v4 + 1)).bind (fun z3 => some (.inl (v3, z3))) else (fn_X3_isChild σ v0 v4 v1).bind (fun r4 => if (qm_b r4) = 0 then (some (v4 + 1)).bind (fun z5 => some (.inl (v3, z5))) else if ¬ (v4 < 0 ∨ 13 ≤ v4.toNatClampNeg) then (some (v3 + (σ.1 (v0 + 1 + 1 + v4.toNatClampNeg) 1))).bind (fun z7 => (some (v4 + 1)).bind (fun z8 => some (.inl (z7, z8)))) else none))
set_option maxRecDepth 20000 in
theorem wb_X3_childWeights_5 {l : Launch} {E : qm_E} (σ : qm_M) (v0 : Nat) (v1 : Int32) (v2 : Int32) (v3 : Int32) (v4 : Int32) (hk0 : qm_kind v0 = 2) {x : (Int32 × Int32) ⊕ (Int32)} (h : bb_X3_childWeights_5 σ v0 v1 v2 v3 v4 = some x) {r : Option Value × qm_M} (hT : (qm_T (pp_X3_childWeights_5 l E σ v0 v1 v2) (fun x r => (some (.int x), σ) = r)) x r) : qm_Wp l E kd_X3_childWeights "HungStreams$Tree" cX3_childWeights 5 5 [(0, .ref (qm_a E v0)), (1, .int v1), (2, .int v2), (3, .int v3), (4, .int v4)] [] σ r := by
  unfold bb_X3_childWeights_5 at h
  refine qr_iload dX3_childWeights_5 4 rfl ?_
  refine qr_bipush (v := 12) dX3_childWeights_7 (by decide) ?_
  refine qr_icmp_gt (tgt := 50) dX3_childWeights_9 (by decide) (fun c11 => ?_) (fun c11 => ?_)
  · rw [if_pos c11] at h
    obtain ⟨y1, h1, hx⟩ := qm_bind h
    clear h
    cases hx
    have h := h1
    refine qr_iload_n dX3_childWeights_50 rfl 3 rfl ?_
    obtain rfl := Option.some.inj h
    cases hT
    exact qr_iret dX3_childWeights_51
  · rw [if_neg c11] at h
    refine qr_iload_n dX3_childWeights_12 rfl 2 rfl ?_
    refine qr_iload dX3_childWeights_13 4 rfl ?_
    obtain ⟨r2, er2, h⟩ := qm_bind h
    refine qr_call1 (st1 := [.int (qm_b r2)]) rfl (qr_callN (host := "HungStreams") (As := [.int v2, .int v4]) (st := []) (ct_X6_has (l := l) (E := E) σ v2 v4 er2) qw_262 qw_1 (List.mem_of_getElem? (i := 2) rfl) qw_261 yd_X6_has (by decide) (by decide) rfl (Nat.le_of_ble_eq_true rfl) dX3_childWeights_15) ?_
    refine qr_if_eq (tgt := 44) dX3_childWeights_18 (by decide) (fun c10 => ?_) (fun c10 => ?_)
    · rw [if_pos c10] at h
      obtain ⟨z3, ez3, h⟩ := qm_bind h
      refine qr_iinc (q := 4) (v := z3) (lv' := [(4, .int z3), (0, .ref (qm_a E v0)), (1, .int v1), (2, .int v2), (3, .int v3)]) dX3_childWeights_44 rfl (Option.some.inj ez3) (by decide) rfl ?_
      refine qr_goto (tgt := 5) dX3_childWeights_47 (by decide) ?_
      obtain rfl := Option.some.inj h
      exact qr_sub [1, 2, 3, 4, 0] rfl hT
    · rw [if_neg c10] at h
      refine qr_aload_n dX3_childWeights_21 rfl 0 rfl ?_
      refine qr_iload dX3_childWeights_22 4 rfl ?_
      refine qr_iload_n dX3_childWeights_24 rfl 1 rfl ?_
      obtain ⟨r4, er4, h⟩ := qm_bind h
      refine qr_call1 (st1 := [.int (qm_b r4)]) rfl (qr_callV (id := v0) (c := 1) (As := [.int v4, .int v1]) (st := []) hk0 (by decide) rfl (ct_X3_isChild (l := l) (E := E) σ v0 v4 v1 hk0 er4) qw_299 qw_2 qw_296 qw_297 qw_298 yd_X3_isChild (by decide) (by decide) rfl (Nat.le_of_ble_eq_true rfl) dX3_childWeights_25) ?_
      refine qr_if_eq (tgt := 44) dX3_childWeights_28 (by decide) (fun c9 => ?_) (fun c9 => ?_)
      · rw [if_pos c9] at h
        obtain ⟨z5, ez5, h⟩ := qm_bind h
        refine qr_iinc (q := 4) (v := z5) (lv' := [(4, .int z5), (0, .ref (qm_a E v0)), (1, .int v1), (2, .int v2), (3, .int v3)]) dX3_childWeights_44 rfl (Option.some.inj ez5) (by decide) rfl ?_
        refine qr_goto (tgt := 5) dX3_childWeights_47 (by decide) ?_
        obtain rfl := Option.some.inj h
        exact qr_sub [1, 2, 3, 4, 0] rfl hT
      · rw [if_neg c9] at h
        refine qr_iload_n dX3_childWeights_31 rfl 3 rfl ?_
        refine qr_aload_n dX3_childWeights_32 rfl 0 rfl ?_
        refine qr_get1 (k := 0) (v := .ref (qm_a E (v0 + 1))) hk0 (by decide) rfl qw_106 dX3_childWeights_33 ?_
        refine qr_iload dX3_childWeights_36 4 rfl ?_
        obtain ⟨c6, h⟩ := qm_chk h
        refine qr_aalds (qm_k_arr hk0) c6 dX3_childWeights_38 ?_
        refine qr_get0 (k := 1) (v := .int (σ.1 (v0 + 1 + 1 + v4.toNatClampNeg) 1)) (qm_k_str (qm_k_arr hk0) c6) (by decide) rfl qw_41 dX3_childWeights_39 ?_
        refine qr_iadd dX3_childWeights_42 ?_
        obtain ⟨z7, ez7, h⟩ := qm_bind h
        refine qr_eqi (Option.some.inj ez7) ?_
        refine qr_istore_n (lv' := [(3, .int z7), (0, .ref (qm_a E v0)), (1, .int v1), (2, .int v2), (4, .int v4)]) dX3_childWeights_43 rfl (by decide) rfl ?_
        obtain ⟨z8, ez8, h⟩ := qm_bind h
        refine qr_iinc (q := 4) (v := z8) (lv' := [(4, .int z8), (3, .int z7), (0, .ref (qm_a E v0)), (1, .int v1), (2, .int v2)]) dX3_childWeights_44 rfl (Option.some.inj ez8) (by decide) rfl ?_
        refine qr_goto (tgt := 5) dX3_childWeights_47 (by decide) ?_
        obtain rfl := Option.some.inj h
        exact qr_sub [2, 3, 4, 1, 0] rfl hT
def lp_X3_childWeights_5 (σ : qm_M) (v0 : Nat) (v1 : Int32) (v2 : Int32) (v3 : Int32) (v4 : Int32) : Option (Int32) := qm_loop (fun s : Int32 × Int32 => bb_X3_childWeights_5 σ v0 v1 v2 s.1 s.2) 1000 (v3, v4)
theorem wl_X3_childWeights_5 {l : Launch} {E : qm_E} (σ : qm_M) (v0 : Nat) (v1 : Int32) (v2 : Int32) (v3 : Int32) (v4 : Int32) (hk0 : qm_kind v0 = 2) {x : Int32} (h : lp_X3_childWeights_5 σ v0 v1 v2 v3 v4 = some x) {r : Option Value × qm_M} (hT : (fun x r => (some (.int x), σ) = r) x r) : qm_Wp l E kd_X3_childWeights "HungStreams$Tree" cX3_childWeights 5 5 [(0, .ref (qm_a E v0)), (1, .int v1), (2, .int v2), (3, .int v3), (4, .int v4)] [] σ r :=
  qm_loop_T (P := pp_X3_childWeights_5 l E σ v0 v1 v2) (T1 := (fun x r => (some (.int x), σ) = r)) (fun s x h r hT => wb_X3_childWeights_5 (l := l) (E := E) σ v0 v1 v2 s.1 s.2 hk0 h hT) h hT
def fn_X3_childWeights (σ : qm_M) (v0 : Nat) (v1 : Int32) (v2 : Int32) : Option (Int32) :=
  lp_X3_childWeights_5 σ v0 v1 v2 0 1
set_option maxRecDepth 20000 in
theorem wf_X3_childWeights {l : Launch} {E : qm_E} (σ : qm_M) (v0 : Nat) (v1 : Int32) (v2 : Int32) (hk0 : qm_kind v0 = 2) {x : Int32} (h : fn_X3_childWeights σ v0 v1 v2 = some x) {r : Option Value × qm_M} (hT : (fun x r => (some (.int x), σ) = r) x r) : qm_Wp l E kd_X3_childWeights "HungStreams$Tree" cX3_childWeights 5 0 [(0, .ref (qm_a E v0)), (1, .int v1), (2, .int v2)] [] σ r := by
  unfold fn_X3_childWeights at h
  refine qr_iconst (v := 0) dX3_childWeights_0 (by decide) ?_
  refine qr_istore_n (lv' := [(3, .int 0), (0, .ref (qm_a E v0)), (1, .int v1), (2, .int v2)]) dX3_childWeights_1 rfl (by decide) rfl ?_
  refine qr_iconst (v := 1) dX3_childWeights_2 (by decide) ?_
  refine qr_istore (lv' := [(4, .int 1), (3, .int 0), (0, .ref (qm_a E v0)), (1, .int v1), (2, .int v2)]) dX3_childWeights_3 (by decide) rfl ?_
  exact qr_sub [2, 3, 4, 1, 0] rfl (wl_X3_childWeights_5 (l := l) (E := E) σ v0 v1 v2 0 1 hk0 h hT)
theorem ct_X3_childWeights {l : Launch} {E : qm_E} (σ : qm_M) (v0 : Nat) (v1 : Int32) (v2 : Int32) (hk0 : qm_kind v0 = 2) {x : Int32} (h : fn_X3_childWeights σ v0 v1 v2 = some x) : qm_Ct l E kd_X3_childWeights yX3_childWeights cX3_childWeights 5 (some .int) [.ref (qm_a E v0), .int v1, .int v2] σ (some (.int x), σ) := qm_ofWp rfl (Nat.le_of_ble_eq_true rfl) (Or.inl rfl) (wf_X3_childWeights σ v0 v1 v2 hk0 h rfl)
-- HungStreams$Tree.hang (II)V
abbrev kd_X3_hang : Nat := 1
theorem yd_X3_hang : (yX3_hang).cls ≠ "java/lang/invoke/MethodHandle" ∧ (yX3_hang).cls ≠ "java/lang/invoke/VarHandle" ∧ (parseMethodDescriptor (yX3_hang).desc).map (fun d => d.parameters.length) = some 2 := by decide +kernel
def fn_X3_hang (σ : qm_M) (v0 : Nat) (v1 : Int32) (v2 : Int32) : Option (qm_M) :=
  if ¬ (v1 < 0 ∨ 13 ≤ v1.toNatClampNeg) then (some (qm_si σ (v0 + 1 + 1 + v1.toNatClampNeg) 0 v2)).bind (fun σ2 => if ¬ (v1 < 0 ∨ 13 ≤ v1.toNatClampNeg) then if ¬ (v2 < 0 ∨ 13 ≤ v2.toNatClampNeg) then (some (qm_sl σ2 (v0 + 1 + 1 + v1.toNatClampNeg) 12 (σ2.2 (v0 + 1 + 1 + v2.toNatClampNeg) 13))).bind (fun σ5 => some σ5) else none else none) else none
set_option maxRecDepth 20000 in
theorem wf_X3_hang {l : Launch} {E : qm_E} (σ : qm_M) (v0 : Nat) (v1 : Int32) (v2 : Int32) (hk0 : qm_kind v0 = 2) {x : qm_M} (h : fn_X3_hang σ v0 v1 v2 = some x) {r : Option Value × qm_M} (hT : (fun x r => (none, x) = r) x r) : qm_Wp l E kd_X3_hang "HungStreams$Tree" cX3_hang 3 0 [(0, .ref (qm_a E v0)), (1, .int v1), (2, .int v2)] [] σ r := by
  unfold fn_X3_hang at h
  refine qr_aload_n dX3_hang_0 rfl 0 rfl ?_
  refine qr_get1 (k := 0) (v := .ref (qm_a E (v0 + 1))) hk0 (by decide) rfl qw_106 dX3_hang_1 ?_
  refine qr_iload_n dX3_hang_4 rfl 1 rfl ?_
  obtain ⟨c1, h⟩ := qm_chk h
  refine qr_aalds (qm_k_arr hk0) c1 dX3_hang_5 ?_
  refine qr_iload_n dX3_hang_6 rfl 2 rfl ?_
  obtain ⟨σ2, eσ2, h⟩ := qm_bind h
  refine qr_put0_0 (qm_k_str (qm_k_arr hk0) c1) qw_36 dX3_hang_7 (qr_eqm (Option.some.inj eσ2) ?_)
  refine qr_aload_n dX3_hang_10 rfl 0 rfl ?_
  refine qr_get1 (k := 0) (v := .ref (qm_a E (v0 + 1))) hk0 (by decide) rfl qw_106 dX3_hang_11 ?_
  refine qr_iload_n dX3_hang_14 rfl 1 rfl ?_
  obtain ⟨c3, h⟩ := qm_chk h
  refine qr_aalds (qm_k_arr hk0) c3 dX3_hang_15 ?_
  refine qr_aload_n dX3_hang_16 rfl 0 rfl ?_
  refine qr_get1 (k := 0) (v := .ref (qm_a E (v0 + 1))) hk0 (by decide) rfl qw_106 dX3_hang_17 ?_
  refine qr_iload_n dX3_hang_20 rfl 2 rfl ?_
  obtain ⟨c4, h⟩ := qm_chk h
  refine qr_aalds (qm_k_arr hk0) c4 dX3_hang_21 ?_
  refine qr_get0 (k := 13) (v := .long (σ2.2 (v0 + 1 + 1 + v2.toNatClampNeg) 13)) (qm_k_str (qm_k_arr hk0) c4) (by decide) rfl qw_76 dX3_hang_22 ?_
  obtain ⟨σ5, eσ5, h⟩ := qm_bind h
  refine qr_put0_12 (qm_k_str (qm_k_arr hk0) c3) qw_72 dX3_hang_25 (qr_eqm (Option.some.inj eσ5) ?_)
  obtain rfl := Option.some.inj h
  cases hT
  exact qr_vret dX3_hang_28
theorem ct_X3_hang {l : Launch} {E : qm_E} (σ : qm_M) (v0 : Nat) (v1 : Int32) (v2 : Int32) (hk0 : qm_kind v0 = 2) {x : qm_M} (h : fn_X3_hang σ v0 v1 v2 = some x) : qm_Ct l E kd_X3_hang yX3_hang cX3_hang 3 none [.ref (qm_a E v0), .int v1, .int v2] σ (none, x) := qm_ofWp rfl (Nat.le_of_ble_eq_true rfl) (rfl) (wf_X3_hang σ v0 v1 v2 hk0 h rfl)
-- HungStreams$Tree.hangChildren (II)V
abbrev kd_X3_hangChildren : Nat := 3
theorem yd_X3_hangChildren : (yX3_hangChildren).cls ≠ "java/lang/invoke/MethodHandle" ∧ (yX3_hangChildren).cls ≠ "java/lang/invoke/VarHandle" ∧ (parseMethodDescriptor (yX3_hangChildren).desc).map (fun d => d.parameters.length) = some 2 := by decide +kernel
abbrev pp_X3_hangChildren_2 (l : Launch) (E : qm_E) (v0 : Nat) (v1 : Int32) (v2 : Int32) : (Int32 × qm_M) → Option Value × qm_M → Prop := fun s r => qm_Wp l E kd_X3_hangChildren "HungStreams$Tree" cX3_hangChildren 4 2 [(0, .ref (qm_a E v0)), (1, .int v1), (2, .int v2), (3, .int s.1)] [] s.2 r
def bb_X3_hangChildren_2 (σ : qm_M) (v0 : Nat) (v1 : Int32) (v2 : Int32) (v3 : Int32) : Option ((Int32 × qm_M) ⊕ (qm_M)) :=
  if 12 < v3 then (some σ).bind (fun y => some (.inr y)) else if v3 = v2 then (some (v3 + 1)).bind (fun z2 => some (.inl (z2, σ))) else (fn_X3_isChild σ v0 v3 v1).bind (fun r3 => if (qm_b r3) = 0 then (some (v3 + 1)).bind (fun z4 => some (.inl (z4, σ))) else (fn_X3_hang σ v0 v3 v2).bind (fun r5 => (some (v3 + 1)).bind (fun z6 => some (.inl (z6, r5)))))
set_option maxRecDepth 20000 in
theorem wb_X3_hangChildren_2 {l : Launch} {E : qm_E} (σ : qm_M) (v0 : Nat) (v1 : Int32) (v2 : Int32) (v3 : Int32) (hk0 : qm_kind v0 = 2) {x : (Int32 × qm_M) ⊕ (qm_M)} (h : bb_X3_hangChildren_2 σ v0 v1 v2 v3 = some x) {r : Option Value × qm_M} (hT : (qm_T (pp_X3_hangChildren_2 l E v0 v1 v2) (fun x r => (none, x) = r)) x r) : qm_Wp l E kd_X3_hangChildren "HungStreams$Tree" cX3_hangChildren 4 2 [(0, .ref (qm_a E v0)), (1, .int v1), (2, .int v2), (3, .int v3)] [] σ r := by
  unfold bb_X3_hangChildren_2 at h
  refine qr_iload_n dX3_hangChildren_2 rfl 3 rfl ?_
  refine qr_bipush (v := 12) dX3_hangChildren_3 (by decide) ?_
  refine qr_icmp_gt (tgt := 34) dX3_hangChildren_5 (by decide) (fun c9 => ?_) (fun c9 => ?_)
  · rw [if_pos c9] at h
    obtain ⟨y1, h1, hx⟩ := qm_bind h
    clear h
    cases hx
    have h := h1
    obtain rfl := Option.some.inj h
    cases hT
    exact qr_vret dX3_hangChildren_34
  · rw [if_neg c9] at h
    refine qr_iload_n dX3_hangChildren_8 rfl 3 rfl ?_
    refine qr_iload_n dX3_hangChildren_9 rfl 2 rfl ?_
    refine qr_icmp_eq (tgt := 28) dX3_hangChildren_10 (by decide) (fun c8 => ?_) (fun c8 => ?_)
    · rw [if_pos c8] at h
      obtain ⟨z2, ez2, h⟩ := qm_bind h
      refine qr_iinc (q := 3) (v := z2) (lv' := [(3, .int z2), (0, .ref (qm_a E v0)), (1, .int v1), (2, .int v2)]) dX3_hangChildren_28 rfl (Option.some.inj ez2) (by decide) rfl ?_
      refine qr_goto (tgt := 2) dX3_hangChildren_31 (by decide) ?_
      obtain rfl := Option.some.inj h
      exact qr_sub [1, 2, 3, 0] rfl hT
    · rw [if_neg c8] at h
      refine qr_aload_n dX3_hangChildren_13 rfl 0 rfl ?_
      refine qr_iload_n dX3_hangChildren_14 rfl 3 rfl ?_
      refine qr_iload_n dX3_hangChildren_15 rfl 1 rfl ?_
      obtain ⟨r3, er3, h⟩ := qm_bind h
      refine qr_call1 (st1 := [.int (qm_b r3)]) rfl (qr_callV (id := v0) (c := 1) (As := [.int v3, .int v1]) (st := []) hk0 (by decide) rfl (ct_X3_isChild (l := l) (E := E) σ v0 v3 v1 hk0 er3) qw_299 qw_2 qw_296 qw_297 qw_298 yd_X3_isChild (by decide) (by decide) rfl (Nat.le_of_ble_eq_true rfl) dX3_hangChildren_16) ?_
      refine qr_if_eq (tgt := 28) dX3_hangChildren_19 (by decide) (fun c7 => ?_) (fun c7 => ?_)
      · rw [if_pos c7] at h
        obtain ⟨z4, ez4, h⟩ := qm_bind h
        refine qr_iinc (q := 3) (v := z4) (lv' := [(3, .int z4), (0, .ref (qm_a E v0)), (1, .int v1), (2, .int v2)]) dX3_hangChildren_28 rfl (Option.some.inj ez4) (by decide) rfl ?_
        refine qr_goto (tgt := 2) dX3_hangChildren_31 (by decide) ?_
        obtain rfl := Option.some.inj h
        exact qr_sub [1, 2, 3, 0] rfl hT
      · rw [if_neg c7] at h
        refine qr_aload_n dX3_hangChildren_22 rfl 0 rfl ?_
        refine qr_iload_n dX3_hangChildren_23 rfl 3 rfl ?_
        refine qr_iload_n dX3_hangChildren_24 rfl 2 rfl ?_
        obtain ⟨r5, er5, h⟩ := qm_bind h
        refine qr_call1 (st1 := []) rfl (qr_callV (id := v0) (c := 1) (As := [.int v3, .int v2]) (st := []) hk0 (by decide) rfl (ct_X3_hang (l := l) (E := E) σ v0 v3 v2 hk0 er5) qw_303 qw_2 qw_300 qw_301 qw_302 yd_X3_hang (by decide) (by decide) rfl (Nat.le_of_ble_eq_true rfl) dX3_hangChildren_25) ?_
        obtain ⟨z6, ez6, h⟩ := qm_bind h
        refine qr_iinc (q := 3) (v := z6) (lv' := [(3, .int z6), (0, .ref (qm_a E v0)), (1, .int v1), (2, .int v2)]) dX3_hangChildren_28 rfl (Option.some.inj ez6) (by decide) rfl ?_
        refine qr_goto (tgt := 2) dX3_hangChildren_31 (by decide) ?_
        obtain rfl := Option.some.inj h
        exact qr_sub [1, 2, 3, 0] rfl hT
def lp_X3_hangChildren_2 (σ : qm_M) (v0 : Nat) (v1 : Int32) (v2 : Int32) (v3 : Int32) : Option (qm_M) := qm_loop (fun s : Int32 × qm_M => bb_X3_hangChildren_2 s.2 v0 v1 v2 s.1) 1000 (v3, σ)
theorem wl_X3_hangChildren_2 {l : Launch} {E : qm_E} (σ : qm_M) (v0 : Nat) (v1 : Int32) (v2 : Int32) (v3 : Int32) (hk0 : qm_kind v0 = 2) {x : qm_M} (h : lp_X3_hangChildren_2 σ v0 v1 v2 v3 = some x) {r : Option Value × qm_M} (hT : (fun x r => (none, x) = r) x r) : qm_Wp l E kd_X3_hangChildren "HungStreams$Tree" cX3_hangChildren 4 2 [(0, .ref (qm_a E v0)), (1, .int v1), (2, .int v2), (3, .int v3)] [] σ r :=
  qm_loop_T (P := pp_X3_hangChildren_2 l E v0 v1 v2) (T1 := (fun x r => (none, x) = r)) (fun s x h r hT => wb_X3_hangChildren_2 (l := l) (E := E) s.2 v0 v1 v2 s.1 hk0 h hT) h hT
def fn_X3_hangChildren (σ : qm_M) (v0 : Nat) (v1 : Int32) (v2 : Int32) : Option (qm_M) :=
  lp_X3_hangChildren_2 σ v0 v1 v2 1
set_option maxRecDepth 20000 in
theorem wf_X3_hangChildren {l : Launch} {E : qm_E} (σ : qm_M) (v0 : Nat) (v1 : Int32) (v2 : Int32) (hk0 : qm_kind v0 = 2) {x : qm_M} (h : fn_X3_hangChildren σ v0 v1 v2 = some x) {r : Option Value × qm_M} (hT : (fun x r => (none, x) = r) x r) : qm_Wp l E kd_X3_hangChildren "HungStreams$Tree" cX3_hangChildren 4 0 [(0, .ref (qm_a E v0)), (1, .int v1), (2, .int v2)] [] σ r := by
  unfold fn_X3_hangChildren at h
  refine qr_iconst (v := 1) dX3_hangChildren_0 (by decide) ?_
  refine qr_istore_n (lv' := [(3, .int 1), (0, .ref (qm_a E v0)), (1, .int v1), (2, .int v2)]) dX3_hangChildren_1 rfl (by decide) rfl ?_
  exact qr_sub [1, 2, 3, 0] rfl (wl_X3_hangChildren_2 (l := l) (E := E) σ v0 v1 v2 1 hk0 h hT)
theorem ct_X3_hangChildren {l : Launch} {E : qm_E} (σ : qm_M) (v0 : Nat) (v1 : Int32) (v2 : Int32) (hk0 : qm_kind v0 = 2) {x : qm_M} (h : fn_X3_hangChildren σ v0 v1 v2 = some x) : qm_Ct l E kd_X3_hangChildren yX3_hangChildren cX3_hangChildren 4 none [.ref (qm_a E v0), .int v1, .int v2] σ (none, x) := qm_ofWp rfl (Nat.le_of_ble_eq_true rfl) (rfl) (wf_X3_hangChildren σ v0 v1 v2 hk0 h rfl)
-- HungStreams$Tree.leave (I)V
abbrev kd_X3_leave : Nat := 4
theorem yd_X3_leave : (yX3_leave).cls ≠ "java/lang/invoke/MethodHandle" ∧ (yX3_leave).cls ≠ "java/lang/invoke/VarHandle" ∧ (parseMethodDescriptor (yX3_leave).desc).map (fun d => d.parameters.length) = some 1 := by decide +kernel
abbrev pp_X3_leave_23 (l : Launch) (E : qm_E) (v0 : Nat) (v1 : Int32) (v2 : Int32) (v3 : Int32) : (Int32 × qm_M) → Option Value × qm_M → Prop := fun s r => qm_Wp l E kd_X3_leave "HungStreams$Tree" cX3_leave 5 23 [(0, .ref (qm_a E v0)), (1, .int v1), (2, .int v2), (3, .int v3), (4, .int s.1)] [] s.2 r
def bb_X3_leave_23 (σ : qm_M) (v0 : Nat) (v1 : Int32) (v2 : Int32) (v3 : Int32) (v4 : Int32) : Option ((Int32 × qm_M) ⊕ (qm_M)) :=
  if 12 < v4 then (if ¬ (v1 < 0 ∨ 13 ≤ v1.toNatClampNeg) then (fn_X3_hangChildren σ v0 v1 (σ.1 (v0 + 1 + 1 + v1.toNatClampNeg) 0)).bind (fun r5 => (some (qm_si r5 v0 1 ((r5.1 v0 1) &&& ((1 <<< (v1 &&& 31)) ^^^ (-1))))).bind (fun σ6 => some σ6)) else none).bind (fun y => some (.inr y)) else (fn_X3_isChild σ v0 v4 v1).bind (fun r8 => if (qm_b r8) = 0 then (some (v4 + 1)).bind (fun z9 => some (.inl (z9, σ))) else if ¬ (v4 < 0 ∨ 13 ≤ v4.toNatClampNeg) then if ¬ (v4 < 0 ∨ 13 ≤ v4.toNatClampNeg) then (fn_X6_cut σ (((σ.1 (v0 + 1 + 1 + v4.toNatClampNeg) 1) * v2).toInt64) v3.toInt64).bind (fun r12 => (fn_Jl_max σ 1 r12).bind (fun r13 => (some (qm_si σ (v0 + 1 + 1 + v4.toNatClampNeg) 1 r13.toInt32)).bind (fun σ14 => (some (v4 + 1)).bind (fun z15 => some (.inl (z15, σ14)))))) else none else none)
set_option maxRecDepth 20000 in
theorem wb_X3_leave_23 {l : Launch} {E : qm_E} (σ : qm_M) (v0 : Nat) (v1 : Int32) (v2 : Int32) (v3 : Int32) (v4 : Int32) (hk0 : qm_kind v0 = 2) {x : (Int32 × qm_M) ⊕ (qm_M)} (h : bb_X3_leave_23 σ v0 v1 v2 v3 v4 = some x) {r : Option Value × qm_M} (hT : (qm_T (pp_X3_leave_23 l E v0 v1 v2 v3) (fun x r => (none, x) = r)) x r) : qm_Wp l E kd_X3_leave "HungStreams$Tree" cX3_leave 5 23 [(0, .ref (qm_a E v0)), (1, .int v1), (2, .int v2), (3, .int v3), (4, .int v4)] [] σ r := by
  unfold bb_X3_leave_23 at h
  refine qr_iload dX3_leave_23 4 rfl ?_
  refine qr_bipush (v := 12) dX3_leave_25 (by decide) ?_
  refine qr_icmp_gt (tgt := 79) dX3_leave_27 (by decide) (fun c17 => ?_) (fun c17 => ?_)
  · rw [if_pos c17] at h
    obtain ⟨y7, h1, hx⟩ := qm_bind h
    clear h
    cases hx
    have h := h1
    refine qr_aload_n dX3_leave_79 rfl 0 rfl ?_
    refine qr_iload_n dX3_leave_80 rfl 1 rfl ?_
    refine qr_aload_n dX3_leave_81 rfl 0 rfl ?_
    refine qr_get1 (k := 0) (v := .ref (qm_a E (v0 + 1))) hk0 (by decide) rfl qw_106 dX3_leave_82 ?_
    refine qr_iload_n dX3_leave_85 rfl 1 rfl ?_
    obtain ⟨c4, h⟩ := qm_chk h
    refine qr_aalds (qm_k_arr hk0) c4 dX3_leave_86 ?_
    refine qr_get0 (k := 0) (v := .int (σ.1 (v0 + 1 + 1 + v1.toNatClampNeg) 0)) (qm_k_str (qm_k_arr hk0) c4) (by decide) rfl qw_36 dX3_leave_87 ?_
    obtain ⟨r5, er5, h⟩ := qm_bind h
    refine qr_call1 (st1 := []) rfl (qr_callV (id := v0) (c := 1) (As := [.int v1, .int (σ.1 (v0 + 1 + 1 + v1.toNatClampNeg) 0)]) (st := []) hk0 (by decide) rfl (ct_X3_hangChildren (l := l) (E := E) σ v0 v1 (σ.1 (v0 + 1 + 1 + v1.toNatClampNeg) 0) hk0 er5) qw_295 qw_2 qw_292 qw_293 qw_294 yd_X3_hangChildren (by decide) (by decide) rfl (Nat.le_of_ble_eq_true rfl) dX3_leave_90) ?_
    refine qr_aload_n dX3_leave_93 rfl 0 rfl ?_
    refine qr_dup dX3_leave_94 rfl ?_
    refine qr_get1 (k := 1) (v := .int (r5.1 v0 1)) hk0 (by decide) rfl qw_111 dX3_leave_95 ?_
    refine qr_iconst (v := 1) dX3_leave_98 (by decide) ?_
    refine qr_iload_n dX3_leave_99 rfl 1 rfl ?_
    refine qr_ishl dX3_leave_100 ?_
    refine qr_iconst (v := (-1)) dX3_leave_101 (by decide) ?_
    refine qr_ixor dX3_leave_102 ?_
    refine qr_iand dX3_leave_103 ?_
    obtain ⟨σ6, eσ6, h⟩ := qm_bind h
    refine qr_put1_1 hk0 qw_111 dX3_leave_104 (qr_eqm (Option.some.inj eσ6) ?_)
    obtain rfl := Option.some.inj h
    cases hT
    exact qr_vret dX3_leave_107
  · rw [if_neg c17] at h
    refine qr_aload_n dX3_leave_30 rfl 0 rfl ?_
    refine qr_iload dX3_leave_31 4 rfl ?_
    refine qr_iload_n dX3_leave_33 rfl 1 rfl ?_
    obtain ⟨r8, er8, h⟩ := qm_bind h
    refine qr_call1 (st1 := [.int (qm_b r8)]) rfl (qr_callV (id := v0) (c := 1) (As := [.int v4, .int v1]) (st := []) hk0 (by decide) rfl (ct_X3_isChild (l := l) (E := E) σ v0 v4 v1 hk0 er8) qw_299 qw_2 qw_296 qw_297 qw_298 yd_X3_isChild (by decide) (by decide) rfl (Nat.le_of_ble_eq_true rfl) dX3_leave_34) ?_
    refine qr_if_eq (tgt := 73) dX3_leave_37 (by decide) (fun c16 => ?_) (fun c16 => ?_)
    · rw [if_pos c16] at h
      obtain ⟨z9, ez9, h⟩ := qm_bind h
      refine qr_iinc (q := 4) (v := z9) (lv' := [(4, .int z9), (0, .ref (qm_a E v0)), (1, .int v1), (2, .int v2), (3, .int v3)]) dX3_leave_73 rfl (Option.some.inj ez9) (by decide) rfl ?_
      refine qr_goto (tgt := 23) dX3_leave_76 (by decide) ?_
      obtain rfl := Option.some.inj h
      exact qr_sub [1, 2, 3, 4, 0] rfl hT
    · rw [if_neg c16] at h
      refine qr_aload_n dX3_leave_40 rfl 0 rfl ?_
      refine qr_get1 (k := 0) (v := .ref (qm_a E (v0 + 1))) hk0 (by decide) rfl qw_106 dX3_leave_41 ?_
      refine qr_iload dX3_leave_44 4 rfl ?_
      obtain ⟨c10, h⟩ := qm_chk h
      refine qr_aalds (qm_k_arr hk0) c10 dX3_leave_46 ?_
      refine qr_lconst (v := 1) dX3_leave_47 (by decide) ?_
      refine qr_aload_n dX3_leave_48 rfl 0 rfl ?_
      refine qr_get1 (k := 0) (v := .ref (qm_a E (v0 + 1))) hk0 (by decide) rfl qw_106 dX3_leave_49 ?_
      refine qr_iload dX3_leave_52 4 rfl ?_
      obtain ⟨c11, h⟩ := qm_chk h
      refine qr_aalds (qm_k_arr hk0) c11 dX3_leave_54 ?_
      refine qr_get0 (k := 1) (v := .int (σ.1 (v0 + 1 + 1 + v4.toNatClampNeg) 1)) (qm_k_str (qm_k_arr hk0) c11) (by decide) rfl qw_41 dX3_leave_55 ?_
      refine qr_iload_n dX3_leave_58 rfl 2 rfl ?_
      refine qr_imul dX3_leave_59 ?_
      refine qr_i2l dX3_leave_60 ?_
      refine qr_iload_n dX3_leave_61 rfl 3 rfl ?_
      refine qr_i2l dX3_leave_62 ?_
      obtain ⟨r12, er12, h⟩ := qm_bind h
      refine qr_call1 (st1 := [.long r12, .long 1, .ref (qm_a E (v0 + 1 + 1 + v4.toNatClampNeg))]) rfl (qr_callN (host := "HungStreams") (As := [.long (((σ.1 (v0 + 1 + 1 + v4.toNatClampNeg) 1) * v2).toInt64), .long v3.toInt64]) (st := [.long 1, .ref (qm_a E (v0 + 1 + 1 + v4.toNatClampNeg))]) (ct_X6_cut (l := l) (E := E) σ (((σ.1 (v0 + 1 + 1 + v4.toNatClampNeg) 1) * v2).toInt64) v3.toInt64 er12) qw_351 qw_1 (List.mem_of_getElem? (i := 3) rfl) qw_350 yd_X6_cut (by decide) (by decide) rfl (Nat.le_of_ble_eq_true rfl) dX3_leave_63) ?_
      obtain ⟨r13, er13, h⟩ := qm_bind h
      refine qr_call1 (st1 := [.long r13, .ref (qm_a E (v0 + 1 + 1 + v4.toNatClampNeg))]) rfl (qr_callS (As := [.long 1, .long r12]) (st := [.ref (qm_a E (v0 + 1 + 1 + v4.toNatClampNeg))]) (ct_Jl_max (l := l) (E := E) σ 1 r12 er13) qw_354 qw_7 qw_352 qw_353 yd_Jl_max (by decide) (by decide) rfl (Nat.le_of_ble_eq_true rfl) dX3_leave_66) ?_
      refine qr_l2i dX3_leave_69 ?_
      obtain ⟨σ14, eσ14, h⟩ := qm_bind h
      refine qr_put0_1 (qm_k_str (qm_k_arr hk0) c10) qw_41 dX3_leave_70 (qr_eqm (Option.some.inj eσ14) ?_)
      obtain ⟨z15, ez15, h⟩ := qm_bind h
      refine qr_iinc (q := 4) (v := z15) (lv' := [(4, .int z15), (0, .ref (qm_a E v0)), (1, .int v1), (2, .int v2), (3, .int v3)]) dX3_leave_73 rfl (Option.some.inj ez15) (by decide) rfl ?_
      refine qr_goto (tgt := 23) dX3_leave_76 (by decide) ?_
      obtain rfl := Option.some.inj h
      exact qr_sub [1, 2, 3, 4, 0] rfl hT
def lp_X3_leave_23 (σ : qm_M) (v0 : Nat) (v1 : Int32) (v2 : Int32) (v3 : Int32) (v4 : Int32) : Option (qm_M) := qm_loop (fun s : Int32 × qm_M => bb_X3_leave_23 s.2 v0 v1 v2 v3 s.1) 1000 (v4, σ)
theorem wl_X3_leave_23 {l : Launch} {E : qm_E} (σ : qm_M) (v0 : Nat) (v1 : Int32) (v2 : Int32) (v3 : Int32) (v4 : Int32) (hk0 : qm_kind v0 = 2) {x : qm_M} (h : lp_X3_leave_23 σ v0 v1 v2 v3 v4 = some x) {r : Option Value × qm_M} (hT : (fun x r => (none, x) = r) x r) : qm_Wp l E kd_X3_leave "HungStreams$Tree" cX3_leave 5 23 [(0, .ref (qm_a E v0)), (1, .int v1), (2, .int v2), (3, .int v3), (4, .int v4)] [] σ r :=
  qm_loop_T (P := pp_X3_leave_23 l E v0 v1 v2 v3) (T1 := (fun x r => (none, x) = r)) (fun s x h r hT => wb_X3_leave_23 (l := l) (E := E) s.2 v0 v1 v2 v3 s.1 hk0 h hT) h hT
def fn_X3_leave (σ : qm_M) (v0 : Nat) (v1 : Int32) : Option (qm_M) :=
  if ¬ (v1 < 0 ∨ 13 ≤ v1.toNatClampNeg) then (some (σ.1 (v0 + 1 + 1 + v1.toNatClampNeg) 1)).bind (fun z2 => (fn_X3_childWeights σ v0 v1 (σ.1 v0 1)).bind (fun r3 => lp_X3_leave_23 σ v0 v1 z2 r3 1)) else none
set_option maxRecDepth 20000 in
theorem wf_X3_leave {l : Launch} {E : qm_E} (σ : qm_M) (v0 : Nat) (v1 : Int32) (hk0 : qm_kind v0 = 2) {x : qm_M} (h : fn_X3_leave σ v0 v1 = some x) {r : Option Value × qm_M} (hT : (fun x r => (none, x) = r) x r) : qm_Wp l E kd_X3_leave "HungStreams$Tree" cX3_leave 5 0 [(0, .ref (qm_a E v0)), (1, .int v1)] [] σ r := by
  unfold fn_X3_leave at h
  refine qr_aload_n dX3_leave_0 rfl 0 rfl ?_
  refine qr_get1 (k := 0) (v := .ref (qm_a E (v0 + 1))) hk0 (by decide) rfl qw_106 dX3_leave_1 ?_
  refine qr_iload_n dX3_leave_4 rfl 1 rfl ?_
  obtain ⟨c1, h⟩ := qm_chk h
  refine qr_aalds (qm_k_arr hk0) c1 dX3_leave_5 ?_
  refine qr_get0 (k := 1) (v := .int (σ.1 (v0 + 1 + 1 + v1.toNatClampNeg) 1)) (qm_k_str (qm_k_arr hk0) c1) (by decide) rfl qw_41 dX3_leave_6 ?_
  obtain ⟨z2, ez2, h⟩ := qm_bind h
  refine qr_eqi (Option.some.inj ez2) ?_
  refine qr_istore_n (lv' := [(2, .int z2), (0, .ref (qm_a E v0)), (1, .int v1)]) dX3_leave_9 rfl (by decide) rfl ?_
  refine qr_aload_n dX3_leave_10 rfl 1 rfl ?_
  refine qr_iload_n dX3_leave_11 rfl 2 rfl ?_
  refine qr_aload_n dX3_leave_12 rfl 1 rfl ?_
  refine qr_get1 (k := 1) (v := .int (σ.1 v0 1)) hk0 (by decide) rfl qw_111 dX3_leave_13 ?_
  obtain ⟨r3, er3, h⟩ := qm_bind h
  refine qr_call1 (st1 := [.int r3]) rfl (qr_callV (id := v0) (c := 1) (As := [.int v1, .int (σ.1 v0 1)]) (st := []) hk0 (by decide) rfl (ct_X3_childWeights (l := l) (E := E) σ v0 v1 (σ.1 v0 1) hk0 er3) qw_348 qw_2 qw_345 qw_346 qw_347 yd_X3_childWeights (by decide) (by decide) rfl (Nat.le_of_ble_eq_true rfl) dX3_leave_16) ?_
  refine qr_istore_n (lv' := [(3, .int r3), (2, .int z2), (0, .ref (qm_a E v0)), (1, .int v1)]) dX3_leave_19 rfl (by decide) rfl ?_
  refine qr_iconst (v := 1) dX3_leave_20 (by decide) ?_
  refine qr_istore (lv' := [(4, .int 1), (3, .int r3), (2, .int z2), (0, .ref (qm_a E v0)), (1, .int v1)]) dX3_leave_21 (by decide) rfl ?_
  exact qr_sub [3, 4, 2, 1, 0] rfl (wl_X3_leave_23 (l := l) (E := E) σ v0 v1 z2 r3 1 hk0 h hT)
theorem ct_X3_leave {l : Launch} {E : qm_E} (σ : qm_M) (v0 : Nat) (v1 : Int32) (hk0 : qm_kind v0 = 2) {x : qm_M} (h : fn_X3_leave σ v0 v1 = some x) : qm_Ct l E kd_X3_leave yX3_leave cX3_leave 5 none [.ref (qm_a E v0), .int v1] σ (none, x) := qm_ofWp rfl (Nat.le_of_ble_eq_true rfl) (rfl) (wf_X3_leave σ v0 v1 hk0 h rfl)
-- HungStreams$Tree.letGo ()V
abbrev kd_X3_letGo : Nat := 5
theorem yd_X3_letGo : (yX3_letGo).cls ≠ "java/lang/invoke/MethodHandle" ∧ (yX3_letGo).cls ≠ "java/lang/invoke/VarHandle" ∧ (parseMethodDescriptor (yX3_letGo).desc).map (fun d => d.parameters.length) = some 0 := by decide +kernel
abbrev pp_X3_letGo_2 (l : Launch) (E : qm_E) (v0 : Nat) : (Int32 × qm_M) → Option Value × qm_M → Prop := fun s r => qm_Wp l E kd_X3_letGo "HungStreams$Tree" cX3_letGo 2 2 [(0, .ref (qm_a E v0)), (1, .int s.1)] [] s.2 r
def bb_X3_letGo_2 (σ : qm_M) (v0 : Nat) (v1 : Int32) : Option ((Int32 × qm_M) ⊕ (qm_M)) :=
  if 12 < v1 then (some σ).bind (fun y => some (.inr y)) else (fn_X6_has σ (σ.1 v0 1) v1).bind (fun r2 => if (qm_b r2) = 0 then (some (v1 + 1)).bind (fun z3 => some (.inl (z3, σ))) else if ¬ (v1 < 0 ∨ 13 ≤ v1.toNatClampNeg) then if (σ.1 (v0 + 1 + 1 + v1.toNatClampNeg) 6) = 0 then if ¬ (v1 < 0 ∨ 13 ≤ v1.toNatClampNeg) then if (σ.1 (v0 + 1 + 1 + v1.toNatClampNeg) 7) < (σ.1 v0 5) then (some (v1 + 1)).bind (fun z7 => some (.inl (z7, σ))) else (fn_X3_leave σ v0 v1).bind (fun r8 => (some (v1 + 1)).bind (fun z9 => some (.inl (z9, r8)))) else none else (some (v1 + 1)).bind (fun z5 => some (.inl (z5, σ))) else none)
set_option maxRecDepth 20000 in
theorem wb_X3_letGo_2 {l : Launch} {E : qm_E} (σ : qm_M) (v0 : Nat) (v1 : Int32) (hk0 : qm_kind v0 = 2) {x : (Int32 × qm_M) ⊕ (qm_M)} (h : bb_X3_letGo_2 σ v0 v1 = some x) {r : Option Value × qm_M} (hT : (qm_T (pp_X3_letGo_2 l E v0) (fun x r => (none, x) = r)) x r) : qm_Wp l E kd_X3_letGo "HungStreams$Tree" cX3_letGo 2 2 [(0, .ref (qm_a E v0)), (1, .int v1)] [] σ r := by
  unfold bb_X3_letGo_2 at h
  refine qr_iload_n dX3_letGo_2 rfl 1 rfl ?_
  refine qr_bipush (v := 12) dX3_letGo_3 (by decide) ?_
  refine qr_icmp_gt (tgt := 58) dX3_letGo_5 (by decide) (fun c13 => ?_) (fun c13 => ?_)
  · rw [if_pos c13] at h
    obtain ⟨y1, h1, hx⟩ := qm_bind h
    clear h
    cases hx
    have h := h1
    obtain rfl := Option.some.inj h
    cases hT
    exact qr_vret dX3_letGo_58
  · rw [if_neg c13] at h
    refine qr_aload_n dX3_letGo_8 rfl 0 rfl ?_
    refine qr_get1 (k := 1) (v := .int (σ.1 v0 1)) hk0 (by decide) rfl qw_111 dX3_letGo_9 ?_
    refine qr_iload_n dX3_letGo_12 rfl 1 rfl ?_
    obtain ⟨r2, er2, h⟩ := qm_bind h
    refine qr_call1 (st1 := [.int (qm_b r2)]) rfl (qr_callN (host := "HungStreams") (As := [.int (σ.1 v0 1), .int v1]) (st := []) (ct_X6_has (l := l) (E := E) σ (σ.1 v0 1) v1 er2) qw_262 qw_1 (List.mem_of_getElem? (i := 2) rfl) qw_261 yd_X6_has (by decide) (by decide) rfl (Nat.le_of_ble_eq_true rfl) dX3_letGo_13) ?_
    refine qr_if_eq (tgt := 52) dX3_letGo_16 (by decide) (fun c12 => ?_) (fun c12 => ?_)
    · rw [if_pos c12] at h
      obtain ⟨z3, ez3, h⟩ := qm_bind h
      refine qr_iinc (q := 1) (v := z3) (lv' := [(1, .int z3), (0, .ref (qm_a E v0))]) dX3_letGo_52 rfl (Option.some.inj ez3) (by decide) rfl ?_
      refine qr_goto (tgt := 2) dX3_letGo_55 (by decide) ?_
      obtain rfl := Option.some.inj h
      exact qr_sub [1, 0] rfl hT
    · rw [if_neg c12] at h
      refine qr_aload_n dX3_letGo_19 rfl 0 rfl ?_
      refine qr_get1 (k := 0) (v := .ref (qm_a E (v0 + 1))) hk0 (by decide) rfl qw_106 dX3_letGo_20 ?_
      refine qr_iload_n dX3_letGo_23 rfl 1 rfl ?_
      obtain ⟨c4, h⟩ := qm_chk h
      refine qr_aalds (qm_k_arr hk0) c4 dX3_letGo_24 ?_
      refine qr_get0 (k := 6) (v := .int (σ.1 (v0 + 1 + 1 + v1.toNatClampNeg) 6)) (qm_k_str (qm_k_arr hk0) c4) (by decide) rfl qw_56 dX3_letGo_25 ?_
      refine qr_if_ne (tgt := 52) dX3_letGo_28 (by decide) (fun c11 => ?_) (fun c11 => ?_)
      · rw [if_neg c11] at h
        obtain ⟨z5, ez5, h⟩ := qm_bind h
        refine qr_iinc (q := 1) (v := z5) (lv' := [(1, .int z5), (0, .ref (qm_a E v0))]) dX3_letGo_52 rfl (Option.some.inj ez5) (by decide) rfl ?_
        refine qr_goto (tgt := 2) dX3_letGo_55 (by decide) ?_
        obtain rfl := Option.some.inj h
        exact qr_sub [1, 0] rfl hT
      · rw [if_pos c11] at h
        refine qr_aload_n dX3_letGo_31 rfl 0 rfl ?_
        refine qr_get1 (k := 0) (v := .ref (qm_a E (v0 + 1))) hk0 (by decide) rfl qw_106 dX3_letGo_32 ?_
        refine qr_iload_n dX3_letGo_35 rfl 1 rfl ?_
        obtain ⟨c6, h⟩ := qm_chk h
        refine qr_aalds (qm_k_arr hk0) c6 dX3_letGo_36 ?_
        refine qr_get0 (k := 7) (v := .int (σ.1 (v0 + 1 + 1 + v1.toNatClampNeg) 7)) (qm_k_str (qm_k_arr hk0) c6) (by decide) rfl qw_59 dX3_letGo_37 ?_
        refine qr_aload_n dX3_letGo_40 rfl 0 rfl ?_
        refine qr_get1 (k := 5) (v := .int (σ.1 v0 5)) hk0 (by decide) rfl qw_122 dX3_letGo_41 ?_
        refine qr_icmp_lt (tgt := 52) dX3_letGo_44 (by decide) (fun c10 => ?_) (fun c10 => ?_)
        · rw [if_pos c10] at h
          obtain ⟨z7, ez7, h⟩ := qm_bind h
          refine qr_iinc (q := 1) (v := z7) (lv' := [(1, .int z7), (0, .ref (qm_a E v0))]) dX3_letGo_52 rfl (Option.some.inj ez7) (by decide) rfl ?_
          refine qr_goto (tgt := 2) dX3_letGo_55 (by decide) ?_
          obtain rfl := Option.some.inj h
          exact qr_sub [1, 0] rfl hT
        · rw [if_neg c10] at h
          refine qr_aload_n dX3_letGo_47 rfl 0 rfl ?_
          refine qr_iload_n dX3_letGo_48 rfl 1 rfl ?_
          obtain ⟨r8, er8, h⟩ := qm_bind h
          refine qr_call1 (st1 := []) rfl (qr_callV (id := v0) (c := 1) (As := [.int v1]) (st := []) hk0 (by decide) rfl (ct_X3_leave (l := l) (E := E) σ v0 v1 hk0 er8) qw_344 qw_2 qw_341 qw_342 qw_343 yd_X3_leave (by decide) (by decide) rfl (Nat.le_of_ble_eq_true rfl) dX3_letGo_49) ?_
          obtain ⟨z9, ez9, h⟩ := qm_bind h
          refine qr_iinc (q := 1) (v := z9) (lv' := [(1, .int z9), (0, .ref (qm_a E v0))]) dX3_letGo_52 rfl (Option.some.inj ez9) (by decide) rfl ?_
          refine qr_goto (tgt := 2) dX3_letGo_55 (by decide) ?_
          obtain rfl := Option.some.inj h
          exact qr_sub [1, 0] rfl hT
def lp_X3_letGo_2 (σ : qm_M) (v0 : Nat) (v1 : Int32) : Option (qm_M) := qm_loop (fun s : Int32 × qm_M => bb_X3_letGo_2 s.2 v0 s.1) 1000 (v1, σ)
theorem wl_X3_letGo_2 {l : Launch} {E : qm_E} (σ : qm_M) (v0 : Nat) (v1 : Int32) (hk0 : qm_kind v0 = 2) {x : qm_M} (h : lp_X3_letGo_2 σ v0 v1 = some x) {r : Option Value × qm_M} (hT : (fun x r => (none, x) = r) x r) : qm_Wp l E kd_X3_letGo "HungStreams$Tree" cX3_letGo 2 2 [(0, .ref (qm_a E v0)), (1, .int v1)] [] σ r :=
  qm_loop_T (P := pp_X3_letGo_2 l E v0) (T1 := (fun x r => (none, x) = r)) (fun s x h r hT => wb_X3_letGo_2 (l := l) (E := E) s.2 v0 s.1 hk0 h hT) h hT
def fn_X3_letGo (σ : qm_M) (v0 : Nat) : Option (qm_M) :=
  lp_X3_letGo_2 σ v0 1
set_option maxRecDepth 20000 in
theorem wf_X3_letGo {l : Launch} {E : qm_E} (σ : qm_M) (v0 : Nat) (hk0 : qm_kind v0 = 2) {x : qm_M} (h : fn_X3_letGo σ v0 = some x) {r : Option Value × qm_M} (hT : (fun x r => (none, x) = r) x r) : qm_Wp l E kd_X3_letGo "HungStreams$Tree" cX3_letGo 2 0 [(0, .ref (qm_a E v0))] [] σ r := by
  unfold fn_X3_letGo at h
  refine qr_iconst (v := 1) dX3_letGo_0 (by decide) ?_
  refine qr_istore_n (lv' := [(1, .int 1), (0, .ref (qm_a E v0))]) dX3_letGo_1 rfl (by decide) rfl ?_
  exact qr_sub [1, 0] rfl (wl_X3_letGo_2 (l := l) (E := E) σ v0 1 hk0 h hT)
theorem ct_X3_letGo {l : Launch} {E : qm_E} (σ : qm_M) (v0 : Nat) (hk0 : qm_kind v0 = 2) {x : qm_M} (h : fn_X3_letGo σ v0 = some x) : qm_Ct l E kd_X3_letGo yX3_letGo cX3_letGo 2 none [.ref (qm_a E v0)] σ (none, x) := qm_ofWp rfl (Nat.le_of_ble_eq_true rfl) (rfl) (wf_X3_letGo σ v0 hk0 h rfl)
-- HungStreams$Frames.tryOne (LHungStreams$Tree;)Z
abbrev kd_X0_tryOne : Nat := 6
theorem yd_X0_tryOne : (yX0_tryOne).cls ≠ "java/lang/invoke/MethodHandle" ∧ (yX0_tryOne).cls ≠ "java/lang/invoke/VarHandle" ∧ (parseMethodDescriptor (yX0_tryOne).desc).map (fun d => d.parameters.length) = some 1 := by decide +kernel
def fn_X0_tryOne (σ : qm_M) (v0 : Nat) : Option (Bool × qm_M) :=
  (fn_X3_canBits σ v0).bind (fun r1 => (fn_X3_liveBits σ v0 r1).bind (fun r2 => (fn_X0_look σ v0 r2).bind (fun r3 => (fn_X0_sender r3 v0 r1 r2).bind (fun r4 => if r4 = (-1) then some (false, r3) else (fn_X0_send r3 v0 r4).bind (fun r5 => (fn_X0_countWaits r5 v0 r1 r4).bind (fun r6 => (fn_X0_growOld r6 v0).bind (fun r7 => (fn_X3_letGo r7 v0).bind (fun r8 => some (true, r8)))))))))
set_option maxRecDepth 20000 in
theorem wf_X0_tryOne {l : Launch} {E : qm_E} (σ : qm_M) (v0 : Nat) (hk0 : qm_kind v0 = 2) {x : Bool × qm_M} (h : fn_X0_tryOne σ v0 = some x) {r : Option Value × qm_M} (hT : (fun x r => (some (.int (qm_b x.1)), x.2) = r) x r) : qm_Wp l E kd_X0_tryOne "HungStreams$Frames" cX0_tryOne 4 0 [(0, .ref (qm_a E v0))] [] σ r := by
  unfold fn_X0_tryOne at h
  refine qr_aload_n dX0_tryOne_0 rfl 0 rfl ?_
  obtain ⟨r1, er1, h⟩ := qm_bind h
  refine qr_call1 (st1 := [.int r1]) rfl (qr_callV (id := v0) (c := 1) (As := []) (st := []) hk0 (by decide) rfl (ct_X3_canBits (l := l) (E := E) σ v0 hk0 er1) qw_377 qw_2 qw_436 qw_375 qw_376 yd_X3_canBits (by decide) (by decide) rfl (Nat.le_of_ble_eq_true rfl) dX0_tryOne_1) ?_
  refine qr_istore_n (lv' := [(1, .int r1), (0, .ref (qm_a E v0))]) dX0_tryOne_4 rfl (by decide) rfl ?_
  refine qr_aload_n dX0_tryOne_5 rfl 1 rfl ?_
  refine qr_iload_n dX0_tryOne_6 rfl 0 rfl ?_
  obtain ⟨r2, er2, h⟩ := qm_bind h
  refine qr_call1 (st1 := [.int r2]) rfl (qr_callV (id := v0) (c := 1) (As := [.int r1]) (st := []) hk0 (by decide) rfl (ct_X3_liveBits (l := l) (E := E) σ v0 r1 hk0 er2) qw_382 qw_2 qw_437 qw_380 qw_381 yd_X3_liveBits (by decide) (by decide) rfl (Nat.le_of_ble_eq_true rfl) dX0_tryOne_7) ?_
  refine qr_istore_n (lv' := [(2, .int r2), (1, .int r1), (0, .ref (qm_a E v0))]) dX0_tryOne_10 rfl (by decide) rfl ?_
  refine qr_aload_n dX0_tryOne_11 rfl 2 rfl ?_
  refine qr_iload_n dX0_tryOne_12 rfl 0 rfl ?_
  obtain ⟨r3, er3, h⟩ := qm_bind h
  refine qr_call1 (st1 := []) rfl (qr_callS (As := [.ref (qm_a E v0), .int r2]) (st := []) (ct_X0_look (l := l) (E := E) σ v0 r2 hk0 er3) qw_440 qw_9 qw_438 qw_439 yd_X0_look (by decide) (by decide) rfl (Nat.le_of_ble_eq_true rfl) dX0_tryOne_13) ?_
  refine qr_aload_n dX0_tryOne_16 rfl 2 rfl ?_
  refine qr_iload_n dX0_tryOne_17 rfl 1 rfl ?_
  refine qr_iload_n dX0_tryOne_18 rfl 0 rfl ?_
  obtain ⟨r4, er4, h⟩ := qm_bind h
  refine qr_call1 (st1 := [.int r4]) rfl (qr_callS (As := [.ref (qm_a E v0), .int r1, .int r2]) (st := []) (ct_X0_sender (l := l) (E := E) r3 v0 r1 r2 hk0 er4) qw_448 qw_9 qw_446 qw_447 yd_X0_sender (by decide) (by decide) rfl (Nat.le_of_ble_eq_true rfl) dX0_tryOne_19) ?_
  refine qr_istore_n (lv' := [(3, .int r4), (2, .int r2), (1, .int r1), (0, .ref (qm_a E v0))]) dX0_tryOne_22 rfl (by decide) rfl ?_
  refine qr_iload_n dX0_tryOne_23 rfl 0 rfl ?_
  refine qr_iconst (v := (-1)) dX0_tryOne_24 (by decide) ?_
  refine qr_icmp_ne (tgt := 30) dX0_tryOne_25 (by decide) (fun c9 => ?_) (fun c9 => ?_)
  · rw [if_neg c9] at h
    refine qr_aload_n dX0_tryOne_30 rfl 3 rfl ?_
    refine qr_iload_n dX0_tryOne_31 rfl 0 rfl ?_
    obtain ⟨r5, er5, h⟩ := qm_bind h
    refine qr_call1 (st1 := []) rfl (qr_callS (As := [.ref (qm_a E v0), .int r4]) (st := []) (ct_X0_send (l := l) (E := E) r3 v0 r4 hk0 er5) qw_463 qw_9 qw_461 qw_462 yd_X0_send (by decide) (by decide) rfl (Nat.le_of_ble_eq_true rfl) dX0_tryOne_32) ?_
    refine qr_aload_n dX0_tryOne_35 rfl 3 rfl ?_
    refine qr_iload_n dX0_tryOne_36 rfl 2 rfl ?_
    refine qr_iload_n dX0_tryOne_37 rfl 0 rfl ?_
    obtain ⟨r6, er6, h⟩ := qm_bind h
    refine qr_call1 (st1 := []) rfl (qr_callS (As := [.ref (qm_a E v0), .int r1, .int r4]) (st := []) (ct_X0_countWaits (l := l) (E := E) r5 v0 r1 r4 hk0 er6) qw_474 qw_9 qw_472 qw_473 yd_X0_countWaits (by decide) (by decide) rfl (Nat.le_of_ble_eq_true rfl) dX0_tryOne_38) ?_
    refine qr_aload_n dX0_tryOne_41 rfl 3 rfl ?_
    obtain ⟨r7, er7, h⟩ := qm_bind h
    refine qr_call1 (st1 := []) rfl (qr_callS (As := [.ref (qm_a E v0)]) (st := []) (ct_X0_growOld (l := l) (E := E) r6 v0 hk0 er7) qw_484 qw_9 qw_482 qw_483 yd_X0_growOld (by decide) (by decide) rfl (Nat.le_of_ble_eq_true rfl) dX0_tryOne_42) ?_
    refine qr_aload_n dX0_tryOne_45 rfl 3 rfl ?_
    obtain ⟨r8, er8, h⟩ := qm_bind h
    refine qr_call1 (st1 := []) rfl (qr_callV (id := v0) (c := 1) (As := []) (st := []) hk0 (by decide) rfl (ct_X3_letGo (l := l) (E := E) r7 v0 hk0 er8) qw_340 qw_2 qw_485 qw_338 qw_339 yd_X3_letGo (by decide) (by decide) rfl (Nat.le_of_ble_eq_true rfl) dX0_tryOne_46) ?_
    refine qr_iconst (v := 1) dX0_tryOne_49 (by decide) ?_
    obtain rfl := Option.some.inj h
    cases hT
    exact qr_iret dX0_tryOne_50
  · rw [if_pos c9] at h
    refine qr_iconst (v := 0) dX0_tryOne_28 (by decide) ?_
    obtain rfl := Option.some.inj h
    cases hT
    exact qr_iret dX0_tryOne_29
theorem ct_X0_tryOne {l : Launch} {E : qm_E} (σ : qm_M) (v0 : Nat) (hk0 : qm_kind v0 = 2) {x : Bool × qm_M} (h : fn_X0_tryOne σ v0 = some x) : qm_Ct l E kd_X0_tryOne yX0_tryOne cX0_tryOne 4 (some .boolean) [.ref (qm_a E v0)] σ (some (.int (qm_b x.1)), x.2) := qm_ofWp rfl (Nat.le_of_ble_eq_true rfl) (qm_rtz _) (wf_X0_tryOne σ v0 hk0 h rfl)
-- HungStreams$Shares.gcd (JJ)J
abbrev kd_X1_gcd : Nat := 1
theorem yd_X1_gcd : (yX1_gcd).cls ≠ "java/lang/invoke/MethodHandle" ∧ (yX1_gcd).cls ≠ "java/lang/invoke/VarHandle" ∧ (parseMethodDescriptor (yX1_gcd).desc).map (fun d => d.parameters.length) = some 2 := by decide +kernel
abbrev pp_X1_gcd_9 (l : Launch) (E : qm_E) (σ : qm_M) : (Int64 × Int64 × Int32) → Option Value × qm_M → Prop := fun s r => qm_Wp l E kd_X1_gcd "HungStreams$Shares" cX1_gcd 11 9 [(4, .long s.1), (6, .long s.2.1), (8, .int s.2.2)] [] σ r
def bb_X1_gcd_9 (σ : qm_M) (v4 : Int64) (v6 : Int64) (v8 : Int32) : Option ((Int64 × Int64 × Int32) ⊕ (Int64)) :=
  if 200 ≤ v8 then (some v4).bind (fun y => some (.inr y)) else if (lg_cmp v6 0) = 0 then (some v4).bind (fun y => some (.inr y)) else if ¬ v6 = 0 then (some (v4 - v4 / v6 * v6)).bind (fun z4 => (some (v8 + 1)).bind (fun z5 => some (.inl (v6, z4, z5)))) else none
set_option maxRecDepth 20000 in
theorem wb_X1_gcd_9 {l : Launch} {E : qm_E} (σ : qm_M) (v4 : Int64) (v6 : Int64) (v8 : Int32) {x : (Int64 × Int64 × Int32) ⊕ (Int64)} (h : bb_X1_gcd_9 σ v4 v6 v8 = some x) {r : Option Value × qm_M} (hT : (qm_T (pp_X1_gcd_9 l E σ) (fun x r => (some (.long x), σ) = r)) x r) : qm_Wp l E kd_X1_gcd "HungStreams$Shares" cX1_gcd 11 9 [(4, .long v4), (6, .long v6), (8, .int v8)] [] σ r := by
  unfold bb_X1_gcd_9 at h
  refine qr_iload dX1_gcd_9 2 rfl ?_
  refine qr_sipush (v := 200) dX1_gcd_11 (by decide) ?_
  refine qr_icmp_ge (tgt := 45) dX1_gcd_14 (by decide) (fun c7 => ?_) (fun c7 => ?_)
  · rw [if_pos c7] at h
    obtain ⟨y1, h1, hx⟩ := qm_bind h
    clear h
    cases hx
    have h := h1
    refine qr_lload dX1_gcd_45 0 rfl ?_
    obtain rfl := Option.some.inj h
    cases hT
    exact qr_lret dX1_gcd_47
  · rw [if_neg c7] at h
    refine qr_lload dX1_gcd_17 1 rfl ?_
    refine qr_lconst (v := 0) dX1_gcd_19 (by decide) ?_
    refine qr_lcmp dX1_gcd_20 ?_
    refine qr_if_eq (tgt := 45) dX1_gcd_21 (by decide) (fun c6 => ?_) (fun c6 => ?_)
    · rw [if_pos c6] at h
      obtain ⟨y2, h1, hx⟩ := qm_bind h
      clear h
      cases hx
      have h := h1
      refine qr_lload dX1_gcd_45 0 rfl ?_
      obtain rfl := Option.some.inj h
      cases hT
      exact qr_lret dX1_gcd_47
    · rw [if_neg c6] at h
      refine qr_lload dX1_gcd_24 0 rfl ?_
      refine qr_lload dX1_gcd_26 1 rfl ?_
      obtain ⟨c3, h⟩ := qm_chk h
      refine qr_lrem dX1_gcd_28 c3 ?_
      obtain ⟨z4, ez4, h⟩ := qm_bind h
      refine qr_eqj (Option.some.inj ez4) ?_
      refine qr_lstore (lv' := [(9, .long z4), (4, .long v4), (6, .long v6), (8, .int v8)]) dX1_gcd_29 (by decide) rfl ?_
      refine qr_lload dX1_gcd_31 2 rfl ?_
      refine qr_lstore (lv' := [(4, .long v6), (9, .long z4), (6, .long v6), (8, .int v8)]) dX1_gcd_33 (by decide) rfl ?_
      refine qr_lload dX1_gcd_35 1 rfl ?_
      refine qr_lstore (lv' := [(6, .long z4), (4, .long v6), (9, .long z4), (8, .int v8)]) dX1_gcd_37 (by decide) rfl ?_
      obtain ⟨z5, ez5, h⟩ := qm_bind h
      refine qr_iinc (q := 3) (v := z5) (lv' := [(8, .int z5), (6, .long z4), (4, .long v6), (9, .long z4)]) dX1_gcd_39 rfl (Option.some.inj ez5) (by decide) rfl ?_
      refine qr_goto (tgt := 9) dX1_gcd_42 (by decide) ?_
      obtain rfl := Option.some.inj h
      exact qr_sub [2, 1, 0] rfl hT
def lp_X1_gcd_9 (σ : qm_M) (v4 : Int64) (v6 : Int64) (v8 : Int32) : Option (Int64) := qm_loop (fun s : Int64 × Int64 × Int32 => bb_X1_gcd_9 σ s.1 s.2.1 s.2.2) 1000 (v4, v6, v8)
theorem wl_X1_gcd_9 {l : Launch} {E : qm_E} (σ : qm_M) (v4 : Int64) (v6 : Int64) (v8 : Int32) {x : Int64} (h : lp_X1_gcd_9 σ v4 v6 v8 = some x) {r : Option Value × qm_M} (hT : (fun x r => (some (.long x), σ) = r) x r) : qm_Wp l E kd_X1_gcd "HungStreams$Shares" cX1_gcd 11 9 [(4, .long v4), (6, .long v6), (8, .int v8)] [] σ r :=
  qm_loop_T (P := pp_X1_gcd_9 l E σ) (T1 := (fun x r => (some (.long x), σ) = r)) (fun s x h r hT => wb_X1_gcd_9 (l := l) (E := E) σ s.1 s.2.1 s.2.2  h hT) h hT
def fn_X1_gcd (σ : qm_M) (v0 : Int64) (v2 : Int64) : Option (Int64) :=
  lp_X1_gcd_9 σ v0 v2 0
set_option maxRecDepth 20000 in
theorem wf_X1_gcd {l : Launch} {E : qm_E} (σ : qm_M) (v0 : Int64) (v2 : Int64) {x : Int64} (h : fn_X1_gcd σ v0 v2 = some x) {r : Option Value × qm_M} (hT : (fun x r => (some (.long x), σ) = r) x r) : qm_Wp l E kd_X1_gcd "HungStreams$Shares" cX1_gcd 11 0 [(0, .long v0), (2, .long v2)] [] σ r := by
  unfold fn_X1_gcd at h
  refine qr_lload_n dX1_gcd_0 rfl 0 rfl ?_
  refine qr_lstore (lv' := [(4, .long v0), (0, .long v0), (2, .long v2)]) dX1_gcd_1 (by decide) rfl ?_
  refine qr_lload_n dX1_gcd_3 rfl 2 rfl ?_
  refine qr_lstore (lv' := [(6, .long v2), (4, .long v0), (0, .long v0), (2, .long v2)]) dX1_gcd_4 (by decide) rfl ?_
  refine qr_iconst (v := 0) dX1_gcd_6 (by decide) ?_
  refine qr_istore (lv' := [(8, .int 0), (6, .long v2), (4, .long v0), (0, .long v0), (2, .long v2)]) dX1_gcd_7 (by decide) rfl ?_
  exact qr_sub [2, 1, 0] rfl (wl_X1_gcd_9 (l := l) (E := E) σ v0 v2 0 h hT)
theorem ct_X1_gcd {l : Launch} {E : qm_E} (σ : qm_M) (v0 : Int64) (v2 : Int64) {x : Int64} (h : fn_X1_gcd σ v0 v2 = some x) : qm_Ct l E kd_X1_gcd yX1_gcd cX1_gcd 11 (some .long) [.long v0, .long v2] σ (some (.long x), σ) := qm_ofWp rfl (Nat.le_of_ble_eq_true rfl) (rfl) (wf_X1_gcd σ v0 v2  h rfl)
-- HungStreams$Shares.term (LHungStreams$Tree;IZ)J
abbrev kd_X1_term : Nat := 4
theorem yd_X1_term : (yX1_term).cls ≠ "java/lang/invoke/MethodHandle" ∧ (yX1_term).cls ≠ "java/lang/invoke/VarHandle" ∧ (parseMethodDescriptor (yX1_term).desc).map (fun d => d.parameters.length) = some 3 := by decide +kernel
def bb_X1_term_41 (σ : qm_M) (v2 : Int32) : Option (Int64) :=
  if v2 = 0 then some 1 else some 0
set_option maxRecDepth 20000 in
theorem wb_X1_term_41 {l : Launch} {E : qm_E} (σ : qm_M) (v2 : Int32) {x : Int64} (h : bb_X1_term_41 σ v2 = some x) {r : Option Value × qm_M} (hT : (fun x r => (some (.long x), σ) = r) x r) : qm_Wp l E kd_X1_term "HungStreams$Shares" cX1_term 12 41 [(2, .int v2)] [] σ r := by
  unfold bb_X1_term_41 at h
  refine qr_iload_n dX1_term_41 rfl 0 rfl ?_
  refine qr_if_eq (tgt := 49) dX1_term_42 (by decide) (fun c5 => ?_) (fun c5 => ?_)
  · rw [if_pos c5] at h
    refine qr_lconst (v := 1) dX1_term_49 (by decide) ?_
    obtain rfl := Option.some.inj h
    cases hT
    exact qr_lret dX1_term_50
  · rw [if_neg c5] at h
    refine qr_lconst (v := 0) dX1_term_45 (by decide) ?_
    refine qr_goto (tgt := 50) dX1_term_46 (by decide) ?_
    obtain rfl := Option.some.inj h
    cases hT
    exact qr_lret dX1_term_50
abbrev pp_X1_term_63 (l : Launch) (E : qm_E) (σ : qm_M) (v0 : Nat) (v2 : Int32) (v4 : Int32) : (Int64 × Int64 × Int32 × Int32) → Option Value × qm_M → Prop := fun s r => qm_Wp l E kd_X1_term "HungStreams$Shares" cX1_term 12 63 [(0, .ref (qm_a E v0)), (2, .int v2), (4, .int v4), (6, .long s.1), (8, .long s.2.1), (10, .int s.2.2.1), (11, .int s.2.2.2)] [] σ r
def bb_X1_term_123 (σ : qm_M) (v2 : Int32) (v6 : Int64) (v8 : Int64) : Option (Int64) :=
  if v2 = 0 then (fn_X1_gcd σ v6 v8).bind (fun r6 => (fn_X6_cut σ v8 r6).bind (fun r7 => some r7)) else (fn_X1_gcd σ v6 v8).bind (fun r8 => (fn_X6_cut σ v6 r8).bind (fun r9 => some r9))
set_option maxRecDepth 20000 in
theorem wb_X1_term_123 {l : Launch} {E : qm_E} (σ : qm_M) (v2 : Int32) (v6 : Int64) (v8 : Int64) {x : Int64} (h : bb_X1_term_123 σ v2 v6 v8 = some x) {r : Option Value × qm_M} (hT : (fun x r => (some (.long x), σ) = r) x r) : qm_Wp l E kd_X1_term "HungStreams$Shares" cX1_term 12 123 [(2, .int v2), (6, .long v6), (8, .long v8)] [] σ r := by
  unfold bb_X1_term_123 at h
  refine qr_iload_n dX1_term_123 rfl 0 rfl ?_
  refine qr_if_eq (tgt := 132) dX1_term_124 (by decide) (fun c10 => ?_) (fun c10 => ?_)
  · rw [if_pos c10] at h
    refine qr_lload dX1_term_132 2 rfl ?_
    refine qr_lload dX1_term_134 1 rfl ?_
    refine qr_lload dX1_term_136 2 rfl ?_
    obtain ⟨r6, er6, h⟩ := qm_bind h
    refine qr_call1 (st1 := [.long r6, .long v8]) rfl (qr_callS (As := [.long v6, .long v8]) (st := [.long v8]) (ct_X1_gcd (l := l) (E := E) σ v6 v8 er6) qw_505 qw_10 qw_503 qw_504 yd_X1_gcd (by decide) (by decide) rfl (Nat.le_of_ble_eq_true rfl) dX1_term_138) ?_
    obtain ⟨r7, er7, h⟩ := qm_bind h
    refine qr_call1 (st1 := [.long r7]) rfl (qr_callN (host := "HungStreams") (As := [.long v8, .long r6]) (st := []) (ct_X6_cut (l := l) (E := E) σ v8 r6 er7) qw_351 qw_1 (List.mem_of_getElem? (i := 7) rfl) qw_350 yd_X6_cut (by decide) (by decide) rfl (Nat.le_of_ble_eq_true rfl) dX1_term_141) ?_
    obtain rfl := Option.some.inj h
    cases hT
    exact qr_lret dX1_term_144
  · rw [if_neg c10] at h
    refine qr_lload dX1_term_127 1 rfl ?_
    refine qr_goto (tgt := 134) dX1_term_129 (by decide) ?_
    refine qr_lload dX1_term_134 1 rfl ?_
    refine qr_lload dX1_term_136 2 rfl ?_
    obtain ⟨r8, er8, h⟩ := qm_bind h
    refine qr_call1 (st1 := [.long r8, .long v6]) rfl (qr_callS (As := [.long v6, .long v8]) (st := [.long v6]) (ct_X1_gcd (l := l) (E := E) σ v6 v8 er8) qw_505 qw_10 qw_503 qw_504 yd_X1_gcd (by decide) (by decide) rfl (Nat.le_of_ble_eq_true rfl) dX1_term_138) ?_
    obtain ⟨r9, er9, h⟩ := qm_bind h
    refine qr_call1 (st1 := [.long r9]) rfl (qr_callN (host := "HungStreams") (As := [.long v6, .long r8]) (st := []) (ct_X6_cut (l := l) (E := E) σ v6 r8 er9) qw_351 qw_1 (List.mem_of_getElem? (i := 7) rfl) qw_350 yd_X6_cut (by decide) (by decide) rfl (Nat.le_of_ble_eq_true rfl) dX1_term_141) ?_
    obtain rfl := Option.some.inj h
    cases hT
    exact qr_lret dX1_term_144
def bb_X1_term_63 (σ : qm_M) (v0 : Nat) (v2 : Int32) (v4 : Int32) (v6 : Int64) (v8 : Int64) (v10 : Int32) (v11 : Int32) : Option ((Int64 × Int64 × Int32 × Int32) ⊕ (Int64)) :=
  if 12 ≤ v11 then (bb_X1_term_123 σ v2 v6 v8).bind (fun y => some (.inr y)) else if v10 = 0 then (bb_X1_term_123 σ v2 v6 v8).bind (fun y => some (.inr y)) else if ¬ (v10 < 0 ∨ 13 ≤ v10.toNatClampNeg) then (some (v6 * ((σ.1 (v0 + 1 + 1 + v10.toNatClampNeg) 1).toInt64))).bind (fun z14 => if ¬ (v10 < 0 ∨ 13 ≤ v10.toNatClampNeg) then (some (σ.1 (v0 + 1 + 1 + v10.toNatClampNeg) 0)).bind (fun z16 => (fn_X3_childWeights σ v0 z16 v4).bind (fun r17 => (some (v8 * r17.toInt64)).bind (fun z18 => (some (v11 + 1)).bind (fun z19 => some (.inl (z14, z18, z16, z19)))))) else none) else none
set_option maxRecDepth 20000 in
theorem wb_X1_term_63 {l : Launch} {E : qm_E} (σ : qm_M) (v0 : Nat) (v2 : Int32) (v4 : Int32) (v6 : Int64) (v8 : Int64) (v10 : Int32) (v11 : Int32) (hk0 : qm_kind v0 = 2) {x : (Int64 × Int64 × Int32 × Int32) ⊕ (Int64)} (h : bb_X1_term_63 σ v0 v2 v4 v6 v8 v10 v11 = some x) {r : Option Value × qm_M} (hT : (qm_T (pp_X1_term_63 l E σ v0 v2 v4) (fun x r => (some (.long x), σ) = r)) x r) : qm_Wp l E kd_X1_term "HungStreams$Shares" cX1_term 12 63 [(0, .ref (qm_a E v0)), (2, .int v2), (4, .int v4), (6, .long v6), (8, .long v8), (10, .int v10), (11, .int v11)] [] σ r := by
  unfold bb_X1_term_63 at h
  refine qr_iload dX1_term_63 6 rfl ?_
  refine qr_bipush (v := 12) dX1_term_65 (by decide) ?_
  refine qr_icmp_ge (tgt := 123) dX1_term_67 (by decide) (fun c21 => ?_) (fun c21 => ?_)
  · rw [if_pos c21] at h
    obtain ⟨y11, h1, hx⟩ := qm_bind h
    clear h
    cases hx
    have h := h1
    exact qr_sub [1, 3, 4] rfl (wb_X1_term_123 (l := l) (E := E) σ v2 v6 v8 h hT)
  · rw [if_neg c21] at h
    refine qr_iload dX1_term_70 5 rfl ?_
    refine qr_if_eq (tgt := 123) dX1_term_72 (by decide) (fun c20 => ?_) (fun c20 => ?_)
    · rw [if_pos c20] at h
      obtain ⟨y12, h1, hx⟩ := qm_bind h
      clear h
      cases hx
      have h := h1
      exact qr_sub [1, 3, 4] rfl (wb_X1_term_123 (l := l) (E := E) σ v2 v6 v8 h hT)
    · rw [if_neg c20] at h
      refine qr_lload dX1_term_75 3 rfl ?_
      refine qr_aload_n dX1_term_77 rfl 0 rfl ?_
      refine qr_get1 (k := 0) (v := .ref (qm_a E (v0 + 1))) hk0 (by decide) rfl qw_107 dX1_term_78 ?_
      refine qr_iload dX1_term_81 5 rfl ?_
      obtain ⟨c13, h⟩ := qm_chk h
      refine qr_aalds (qm_k_arr hk0) c13 dX1_term_83 ?_
      refine qr_get0 (k := 1) (v := .int (σ.1 (v0 + 1 + 1 + v10.toNatClampNeg) 1)) (qm_k_str (qm_k_arr hk0) c13) (by decide) rfl qw_38 dX1_term_84 ?_
      refine qr_i2l dX1_term_87 ?_
      refine qr_lmul dX1_term_88 ?_
      obtain ⟨z14, ez14, h⟩ := qm_bind h
      refine qr_eqj (Option.some.inj ez14) ?_
      refine qr_lstore (lv' := [(6, .long z14), (0, .ref (qm_a E v0)), (2, .int v2), (4, .int v4), (8, .long v8), (10, .int v10), (11, .int v11)]) dX1_term_89 (by decide) rfl ?_
      refine qr_aload_n dX1_term_91 rfl 1 rfl ?_
      refine qr_get1 (k := 0) (v := .ref (qm_a E (v0 + 1))) hk0 (by decide) rfl qw_107 dX1_term_92 ?_
      refine qr_iload dX1_term_95 5 rfl ?_
      obtain ⟨c15, h⟩ := qm_chk h
      refine qr_aalds (qm_k_arr hk0) c15 dX1_term_97 ?_
      refine qr_get0 (k := 0) (v := .int (σ.1 (v0 + 1 + 1 + v10.toNatClampNeg) 0)) (qm_k_str (qm_k_arr hk0) c15) (by decide) rfl qw_33 dX1_term_98 ?_
      obtain ⟨z16, ez16, h⟩ := qm_bind h
      refine qr_eqi (Option.some.inj ez16) ?_
      refine qr_istore (lv' := [(10, .int z16), (6, .long z14), (0, .ref (qm_a E v0)), (2, .int v2), (4, .int v4), (8, .long v8), (11, .int v11)]) dX1_term_101 (by decide) rfl ?_
      refine qr_lload dX1_term_103 5 rfl ?_
      refine qr_aload_n dX1_term_105 rfl 2 rfl ?_
      refine qr_iload dX1_term_106 0 rfl ?_
      refine qr_iload dX1_term_108 4 rfl ?_
      obtain ⟨r17, er17, h⟩ := qm_bind h
      refine qr_call1 (st1 := [.int r17, .long v8]) rfl (qr_callV (id := v0) (c := 1) (As := [.int z16, .int v4]) (st := [.long v8]) hk0 (by decide) rfl (ct_X3_childWeights (l := l) (E := E) σ v0 z16 v4 hk0 er17) qw_348 qw_2 qw_502 qw_346 qw_347 yd_X3_childWeights (by decide) (by decide) rfl (Nat.le_of_ble_eq_true rfl) dX1_term_110) ?_
      refine qr_i2l dX1_term_113 ?_
      refine qr_lmul dX1_term_114 ?_
      obtain ⟨z18, ez18, h⟩ := qm_bind h
      refine qr_eqj (Option.some.inj ez18) ?_
      refine qr_lstore (lv' := [(8, .long z18), (10, .int z16), (6, .long z14), (0, .ref (qm_a E v0)), (2, .int v2), (4, .int v4), (11, .int v11)]) dX1_term_115 (by decide) rfl ?_
      obtain ⟨z19, ez19, h⟩ := qm_bind h
      refine qr_iinc (q := 6) (v := z19) (lv' := [(11, .int z19), (8, .long z18), (10, .int z16), (6, .long z14), (0, .ref (qm_a E v0)), (2, .int v2), (4, .int v4)]) dX1_term_117 rfl (Option.some.inj ez19) (by decide) rfl ?_
      refine qr_goto (tgt := 63) dX1_term_120 (by decide) ?_
      obtain rfl := Option.some.inj h
      exact qr_sub [4, 5, 6, 3, 1, 2, 0] rfl hT
def lp_X1_term_63 (σ : qm_M) (v0 : Nat) (v2 : Int32) (v4 : Int32) (v6 : Int64) (v8 : Int64) (v10 : Int32) (v11 : Int32) : Option (Int64) := qm_loop (fun s : Int64 × Int64 × Int32 × Int32 => bb_X1_term_63 σ v0 v2 v4 s.1 s.2.1 s.2.2.1 s.2.2.2) 1000 (v6, v8, v10, v11)
theorem wl_X1_term_63 {l : Launch} {E : qm_E} (σ : qm_M) (v0 : Nat) (v2 : Int32) (v4 : Int32) (v6 : Int64) (v8 : Int64) (v10 : Int32) (v11 : Int32) (hk0 : qm_kind v0 = 2) {x : Int64} (h : lp_X1_term_63 σ v0 v2 v4 v6 v8 v10 v11 = some x) {r : Option Value × qm_M} (hT : (fun x r => (some (.long x), σ) = r) x r) : qm_Wp l E kd_X1_term "HungStreams$Shares" cX1_term 12 63 [(0, .ref (qm_a E v0)), (2, .int v2), (4, .int v4), (6, .long v6), (8, .long v8), (10, .int v10), (11, .int v11)] [] σ r :=
  qm_loop_T (P := pp_X1_term_63 l E σ v0 v2 v4) (T1 := (fun x r => (some (.long x), σ) = r)) (fun s x h r hT => wb_X1_term_63 (l := l) (E := E) σ v0 v2 v4 s.1 s.2.1 s.2.2.1 s.2.2.2 hk0 h hT) h hT
def fn_X1_term (σ : qm_M) (v0 : Nat) (v1 : Int32) (v2 : Int32) : Option (Int64) :=
  (fn_X3_canBits σ v0).bind (fun r1 => (fn_X3_liveBits σ v0 r1).bind (fun r2 => (fn_X3_lineBits σ v0 v1).bind (fun r3 => (fn_X6_has σ r2 v1).bind (fun r4 => if (qm_b r4) = 0 then bb_X1_term_41 σ v2 else if ((r3 &&& ((1 <<< (v1 &&& 31)) ^^^ (-1))) &&& r1) = 0 then lp_X1_term_63 σ v0 v2 r2 1 1 v1 0 else bb_X1_term_41 σ v2))))
set_option maxRecDepth 20000 in
theorem wf_X1_term {l : Launch} {E : qm_E} (σ : qm_M) (v0 : Nat) (v1 : Int32) (v2 : Int32) (hk0 : qm_kind v0 = 2) {x : Int64} (h : fn_X1_term σ v0 v1 v2 = some x) {r : Option Value × qm_M} (hT : (fun x r => (some (.long x), σ) = r) x r) : qm_Wp l E kd_X1_term "HungStreams$Shares" cX1_term 12 0 [(0, .ref (qm_a E v0)), (1, .int v1), (2, .int v2)] [] σ r := by
  unfold fn_X1_term at h
  refine qr_aload_n dX1_term_0 rfl 0 rfl ?_
  obtain ⟨r1, er1, h⟩ := qm_bind h
  refine qr_call1 (st1 := [.int r1]) rfl (qr_callV (id := v0) (c := 1) (As := []) (st := []) hk0 (by decide) rfl (ct_X3_canBits (l := l) (E := E) σ v0 hk0 er1) qw_377 qw_2 qw_498 qw_375 qw_376 yd_X3_canBits (by decide) (by decide) rfl (Nat.le_of_ble_eq_true rfl) dX1_term_1) ?_
  refine qr_istore_n (lv' := [(3, .int r1), (0, .ref (qm_a E v0)), (1, .int v1), (2, .int v2)]) dX1_term_4 rfl (by decide) rfl ?_
  refine qr_aload_n dX1_term_5 rfl 1 rfl ?_
  refine qr_iload_n dX1_term_6 rfl 0 rfl ?_
  obtain ⟨r2, er2, h⟩ := qm_bind h
  refine qr_call1 (st1 := [.int r2]) rfl (qr_callV (id := v0) (c := 1) (As := [.int r1]) (st := []) hk0 (by decide) rfl (ct_X3_liveBits (l := l) (E := E) σ v0 r1 hk0 er2) qw_382 qw_2 qw_499 qw_380 qw_381 yd_X3_liveBits (by decide) (by decide) rfl (Nat.le_of_ble_eq_true rfl) dX1_term_7) ?_
  refine qr_istore (lv' := [(4, .int r2), (3, .int r1), (0, .ref (qm_a E v0)), (1, .int v1), (2, .int v2)]) dX1_term_10 (by decide) rfl ?_
  refine qr_aload_n dX1_term_12 rfl 2 rfl ?_
  refine qr_iload_n dX1_term_13 rfl 3 rfl ?_
  obtain ⟨r3, er3, h⟩ := qm_bind h
  refine qr_call1 (st1 := [.int r3]) rfl (qr_callV (id := v0) (c := 1) (As := [.int v1]) (st := []) hk0 (by decide) rfl (ct_X3_lineBits (l := l) (E := E) σ v0 v1 hk0 er3) qw_319 qw_2 qw_500 qw_317 qw_318 yd_X3_lineBits (by decide) (by decide) rfl (Nat.le_of_ble_eq_true rfl) dX1_term_14) ?_
  refine qr_istore (lv' := [(5, .int r3), (4, .int r2), (3, .int r1), (0, .ref (qm_a E v0)), (1, .int v1), (2, .int v2)]) dX1_term_17 (by decide) rfl ?_
  refine qr_iload dX1_term_19 1 rfl ?_
  refine qr_iload_n dX1_term_21 rfl 4 rfl ?_
  obtain ⟨r4, er4, h⟩ := qm_bind h
  refine qr_call1 (st1 := [.int (qm_b r4)]) rfl (qr_callN (host := "HungStreams") (As := [.int r2, .int v1]) (st := []) (ct_X6_has (l := l) (E := E) σ r2 v1 er4) qw_262 qw_1 (List.mem_of_getElem? (i := 6) rfl) qw_261 yd_X6_has (by decide) (by decide) rfl (Nat.le_of_ble_eq_true rfl) dX1_term_22) ?_
  refine qr_if_eq (tgt := 41) dX1_term_25 (by decide) (fun c23 => ?_) (fun c23 => ?_)
  · rw [if_pos c23] at h
    exact qr_sub [5] rfl (wb_X1_term_41 (l := l) (E := E) σ v2 h hT)
  · rw [if_neg c23] at h
    refine qr_iload dX1_term_28 0 rfl ?_
    refine qr_iconst (v := 1) dX1_term_30 (by decide) ?_
    refine qr_iload_n dX1_term_31 rfl 4 rfl ?_
    refine qr_ishl dX1_term_32 ?_
    refine qr_iconst (v := (-1)) dX1_term_33 (by decide) ?_
    refine qr_ixor dX1_term_34 ?_
    refine qr_iand dX1_term_35 ?_
    refine qr_iload_n dX1_term_36 rfl 2 rfl ?_
    refine qr_iand dX1_term_37 ?_
    refine qr_if_eq (tgt := 51) dX1_term_38 (by decide) (fun c22 => ?_) (fun c22 => ?_)
    · rw [if_pos c22] at h
      refine qr_lconst (v := 1) dX1_term_51 (by decide) ?_
      refine qr_lstore (lv' := [(6, .long 1), (5, .int r3), (4, .int r2), (3, .int r1), (0, .ref (qm_a E v0)), (1, .int v1), (2, .int v2)]) dX1_term_52 (by decide) rfl ?_
      refine qr_lconst (v := 1) dX1_term_54 (by decide) ?_
      refine qr_lstore (lv' := [(8, .long 1), (6, .long 1), (5, .int r3), (4, .int r2), (3, .int r1), (0, .ref (qm_a E v0)), (1, .int v1), (2, .int v2)]) dX1_term_55 (by decide) rfl ?_
      refine qr_iload_n dX1_term_57 rfl 6 rfl ?_
      refine qr_istore (lv' := [(10, .int v1), (8, .long 1), (6, .long 1), (5, .int r3), (4, .int r2), (3, .int r1), (0, .ref (qm_a E v0)), (1, .int v1), (2, .int v2)]) dX1_term_58 (by decide) rfl ?_
      refine qr_iconst (v := 0) dX1_term_60 (by decide) ?_
      refine qr_istore (lv' := [(11, .int 0), (10, .int v1), (8, .long 1), (6, .long 1), (5, .int r3), (4, .int r2), (3, .int r1), (0, .ref (qm_a E v0)), (1, .int v1), (2, .int v2)]) dX1_term_61 (by decide) rfl ?_
      exact qr_sub [7, 9, 5, 3, 2, 1, 0] rfl (wl_X1_term_63 (l := l) (E := E) σ v0 v2 r2 1 1 v1 0 hk0 h hT)
    · rw [if_neg c22] at h
      exact qr_sub [5] rfl (wb_X1_term_41 (l := l) (E := E) σ v2 h hT)
theorem ct_X1_term {l : Launch} {E : qm_E} (σ : qm_M) (v0 : Nat) (v1 : Int32) (v2 : Int32) (hk0 : qm_kind v0 = 2) {x : Int64} (h : fn_X1_term σ v0 v1 v2 = some x) : qm_Ct l E kd_X1_term yX1_term cX1_term 12 (some .long) [.ref (qm_a E v0), .int v1, .int v2] σ (some (.long x), σ) := qm_ofWp rfl (Nat.le_of_ble_eq_true rfl) (rfl) (wf_X1_term σ v0 v1 v2 hk0 h rfl)
-- HungStreams$Stream.begin (I)V
abbrev kd_X2_begin : Nat := 1
theorem yd_X2_begin : (yX2_begin).cls ≠ "java/lang/invoke/MethodHandle" ∧ (yX2_begin).cls ≠ "java/lang/invoke/VarHandle" ∧ (parseMethodDescriptor (yX2_begin).desc).map (fun d => d.parameters.length) = some 1 := by decide +kernel
def fn_X2_begin (σ : qm_M) (v0 : Nat) (v1 : Int32) : Option (qm_M) :=
  (some (qm_si σ v0 0 0)).bind (fun σ1 => (some (qm_si σ1 v0 1 v1)).bind (fun σ2 => (some (qm_si σ2 v0 2 0)).bind (fun σ3 => (some (qm_si σ3 v0 3 1000)).bind (fun σ4 => (some (qm_si σ4 v0 4 3)).bind (fun σ5 => (some (qm_si σ5 v0 5 0)).bind (fun σ6 => (some (qm_si σ6 v0 6 1)).bind (fun σ7 => (some (qm_si σ7 v0 7 0)).bind (fun σ8 => (some (qm_si σ8 v0 8 0)).bind (fun σ9 => (some (qm_si σ9 v0 9 0)).bind (fun σ10 => (some (qm_si σ10 v0 10 0)).bind (fun σ11 => (some (qm_si σ11 v0 11 (-1))).bind (fun σ12 => (some (qm_sl σ12 v0 12 0)).bind (fun σ13 => (some (qm_sl σ13 v0 13 0)).bind (fun σ14 => some σ14))))))))))))))
set_option maxRecDepth 20000 in
theorem wf_X2_begin {l : Launch} {E : qm_E} (σ : qm_M) (v0 : Nat) (v1 : Int32) (hk0 : qm_kind v0 = 1) {x : qm_M} (h : fn_X2_begin σ v0 v1 = some x) {r : Option Value × qm_M} (hT : (fun x r => (none, x) = r) x r) : qm_Wp l E kd_X2_begin "HungStreams$Stream" cX2_begin 2 0 [(0, .ref (qm_a E v0)), (1, .int v1)] [] σ r := by
  unfold fn_X2_begin at h
  refine qr_aload_n dX2_begin_0 rfl 0 rfl ?_
  refine qr_iconst (v := 0) dX2_begin_1 (by decide) ?_
  obtain ⟨σ1, eσ1, h⟩ := qm_bind h
  refine qr_put0_0 hk0 qw_32 dX2_begin_2 (qr_eqm (Option.some.inj eσ1) ?_)
  refine qr_aload_n dX2_begin_5 rfl 0 rfl ?_
  refine qr_iload_n dX2_begin_6 rfl 1 rfl ?_
  obtain ⟨σ2, eσ2, h⟩ := qm_bind h
  refine qr_put0_1 hk0 qw_37 dX2_begin_7 (qr_eqm (Option.some.inj eσ2) ?_)
  refine qr_aload_n dX2_begin_10 rfl 0 rfl ?_
  refine qr_iconst (v := 0) dX2_begin_11 (by decide) ?_
  obtain ⟨σ3, eσ3, h⟩ := qm_bind h
  refine qr_put0_2 hk0 qw_43 dX2_begin_12 (qr_eqm (Option.some.inj eσ3) ?_)
  refine qr_aload_n dX2_begin_15 rfl 0 rfl ?_
  refine qr_sipush (v := 1000) dX2_begin_16 (by decide) ?_
  obtain ⟨σ4, eσ4, h⟩ := qm_bind h
  refine qr_put0_3 hk0 qw_46 dX2_begin_19 (qr_eqm (Option.some.inj eσ4) ?_)
  refine qr_aload_n dX2_begin_22 rfl 0 rfl ?_
  refine qr_iconst (v := 3) dX2_begin_23 (by decide) ?_
  obtain ⟨σ5, eσ5, h⟩ := qm_bind h
  refine qr_put0_4 hk0 qw_49 dX2_begin_24 (qr_eqm (Option.some.inj eσ5) ?_)
  refine qr_aload_n dX2_begin_27 rfl 0 rfl ?_
  refine qr_iconst (v := 0) dX2_begin_28 (by decide) ?_
  obtain ⟨σ6, eσ6, h⟩ := qm_bind h
  refine qr_put0_5 hk0 qw_51 dX2_begin_29 (qr_eqm (Option.some.inj eσ6) ?_)
  refine qr_aload_n dX2_begin_32 rfl 0 rfl ?_
  refine qr_iconst (v := 1) dX2_begin_33 (by decide) ?_
  obtain ⟨σ7, eσ7, h⟩ := qm_bind h
  refine qr_put0_6 hk0 (Or.inr rfl) qw_53 dX2_begin_34 (qr_eqm (Option.some.inj eσ7) ?_)
  refine qr_aload_n dX2_begin_37 rfl 0 rfl ?_
  refine qr_iconst (v := 0) dX2_begin_38 (by decide) ?_
  obtain ⟨σ8, eσ8, h⟩ := qm_bind h
  refine qr_put0_7 hk0 qw_57 dX2_begin_39 (qr_eqm (Option.some.inj eσ8) ?_)
  refine qr_aload_n dX2_begin_42 rfl 0 rfl ?_
  refine qr_iconst (v := 0) dX2_begin_43 (by decide) ?_
  obtain ⟨σ9, eσ9, h⟩ := qm_bind h
  refine qr_put0_8 hk0 qw_60 dX2_begin_44 (qr_eqm (Option.some.inj eσ9) ?_)
  refine qr_aload_n dX2_begin_47 rfl 0 rfl ?_
  refine qr_iconst (v := 0) dX2_begin_48 (by decide) ?_
  obtain ⟨σ10, eσ10, h⟩ := qm_bind h
  refine qr_put0_9 hk0 qw_63 dX2_begin_49 (qr_eqm (Option.some.inj eσ10) ?_)
  refine qr_aload_n dX2_begin_52 rfl 0 rfl ?_
  refine qr_iconst (v := 0) dX2_begin_53 (by decide) ?_
  obtain ⟨σ11, eσ11, h⟩ := qm_bind h
  refine qr_put0_10 hk0 qw_65 dX2_begin_54 (qr_eqm (Option.some.inj eσ11) ?_)
  refine qr_aload_n dX2_begin_57 rfl 0 rfl ?_
  refine qr_iconst (v := (-1)) dX2_begin_58 (by decide) ?_
  obtain ⟨σ12, eσ12, h⟩ := qm_bind h
  refine qr_put0_11 hk0 qw_67 dX2_begin_59 (qr_eqm (Option.some.inj eσ12) ?_)
  refine qr_aload_n dX2_begin_62 rfl 0 rfl ?_
  refine qr_lconst (v := 0) dX2_begin_63 (by decide) ?_
  obtain ⟨σ13, eσ13, h⟩ := qm_bind h
  refine qr_put0_12 hk0 qw_69 dX2_begin_64 (qr_eqm (Option.some.inj eσ13) ?_)
  refine qr_aload_n dX2_begin_67 rfl 0 rfl ?_
  refine qr_lconst (v := 0) dX2_begin_68 (by decide) ?_
  obtain ⟨σ14, eσ14, h⟩ := qm_bind h
  refine qr_put0_13 hk0 qw_73 dX2_begin_69 (qr_eqm (Option.some.inj eσ14) ?_)
  obtain rfl := Option.some.inj h
  cases hT
  exact qr_vret dX2_begin_72
theorem ct_X2_begin {l : Launch} {E : qm_E} (σ : qm_M) (v0 : Nat) (v1 : Int32) (hk0 : qm_kind v0 = 1) {x : qm_M} (h : fn_X2_begin σ v0 v1 = some x) : qm_Ct l E kd_X2_begin yX2_begin cX2_begin 2 none [.ref (qm_a E v0), .int v1] σ (none, x) := qm_ofWp rfl (Nat.le_of_ble_eq_true rfl) (rfl) (wf_X2_begin σ v0 v1 hk0 h rfl)
