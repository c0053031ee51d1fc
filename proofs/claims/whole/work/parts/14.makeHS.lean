-- the maker of HungStreams: the world step by step
def qh_a (E : qm_E) : Nat → va_E := va_up (fun _ => .inr (0, [])) 0 (.inr (4, qe_X6))
def qh_b (E : qm_E) : Nat → va_E := qc_tree E (va_up (qh_a E) 1 (.inr (1, qe_X3))) 1 2
def qh_c (E : qm_E) : Nat → va_E := va_up (qh_b E) 0 (.inr (4, [.ref (E.2.2.1 + 1), .null, .int 0, .int 0, .null, .null, .int 0, .int 0, .int 0]))
def qh_d (E : qm_E) : Nat → va_E := va_up (va_up (qh_c E) 16 (.inl (E.2.1 3, 5, .inr (.inr (.inr (.inr (fun _ => none))))))) 0 (.inr (4, [.ref (E.2.2.1 + 1), .ref (E.2.2.1 + 16), .int 0, .int 0, .null, .null, .int 0, .int 0, .int 0]))
def qh_f (E : qm_E) : Nat → Nat → Option Nat
  | 0 => fun _ => none
  | i + 1 => va_up (qh_f E i) i (some (E.2.2.1 + (17 + 15 * i)))
def qh_l (E : qm_E) : Nat → Nat → va_E
  | 0 => qh_d E
  | i + 1 => va_up (qc_tree E (va_up (qh_l E i) (17 + 15 * i) (.inr (1, qe_X3))) (17 + 15 * i) (18 + 15 * i)) 16 (.inl (E.2.1 3, 5, .inr (.inr (.inr (.inr (qh_f E (i + 1)))))))
def qh_t (E : qm_E) : Nat → va_E := va_up (qc_tx E (va_up (qh_l E 5) 92 (.inr (3, qe_X5))) 92 93) 0 (.inr (4, [.ref (E.2.2.1 + 1), .ref (E.2.2.1 + 16), .int 0, .int 0, .ref (E.2.2.1 + 92), .null, .int 0, .int 0, .int 0]))
def qh_w (E : qm_E) : Nat → va_E := va_up (qc_wr E (va_up (qh_t E) 98 (.inr (2, qe_X4))) 98 99) 0 (.inr (4, [.ref (E.2.2.1 + 1), .ref (E.2.2.1 + 16), .int 0, .int 0, .ref (E.2.2.1 + 92), .ref (E.2.2.1 + 98), .int 0, .int 0, .int 0]))
theorem qh_l0 (E : qm_E) : ∀ i, qh_l E i 0 = .inr (4, [.ref (E.2.2.1 + 1), .ref (E.2.2.1 + 16), .int 0, .int 0, .null, .null, .int 0, .int 0, .int 0])
  | 0 => rfl
  | i + 1 => by
    unfold qh_l
    rw [qc_un (by omega)]
    unfold qc_tree
    rw [if_neg (by omega), if_neg (by omega), if_neg (by omega), qc_un (by omega)]
    exact qh_l0 E i
theorem qh_l16 (E : qm_E) : ∀ i, qh_l E i 16 = .inl (E.2.1 3, 5, .inr (.inr (.inr (.inr (qh_f E i)))))
  | 0 => rfl
  | i + 1 => by unfold qh_l; rw [qc_us]
set_option maxRecDepth 20000 in
theorem qh_loop {l : Launch} {E : qm_E} : ∀ (m i : Nat), i + m = 5 → qc_Wp l E 5 "HungStreams" cX6_init 2 99 1536 (100, qh_w E) 49 [(1, .int (nI 5)), (0, .ref (E.2.2.1 + 0))] [] 92 (qh_l E 5) (91) (1235) → qc_Wp l E 5 "HungStreams" cX6_init 2 99 1536 (100, qh_w E) 25 [(1, .int (nI i)), (0, .ref (E.2.2.1 + 0))] [] (17 + 15 * i) (qh_l E i) (16 + 15 * i) (210 + 205 * i)
  | 0, i, hi, k => by
    have hi : i = 5 := by omega
    subst hi
    refine qc_iload_n dX6_init_25 rfl 0 rfl ?_
    refine qc_iconst (v := 5) dX6_init_26 (by decide) ?_
    exact qc_icmp_ge (tgt := 49) dX6_init_27 (by decide) (fun _ => k) (fun h => absurd (by decide) h)
  | m + 1, i, hi, k => by
    have hil : i < 5 := by omega
    refine qc_iload_n dX6_init_25 rfl 0 rfl ?_
    refine qc_iconst (v := 5) dX6_init_26 (by decide) ?_
    refine qc_icmp_ge (tgt := 49) dX6_init_27 (by decide) (fun h => absurd h (nI_ge (b := 5) hil (by decide))) (fun _ => ?_)
    refine qc_aload_n dX6_init_30 rfl 1 rfl ?_
    refine qc_get (o := 0) (c := 4) (k := 1) (v := .ref (E.2.2.1 + 16)) (by omega) (qh_l0 E i) rfl qm_in4 (by decide) rfl qw_217 dX6_init_31 ?_
    refine qc_iload_n dX6_init_34 rfl 0 rfl ?_
    refine qc_new (c := 1) (fs := qe_X3) (ty0 := tyX3) rfl qm_in1 tyX3_ok qd_X3 qw_19 qw_20 qw_2 (by omega) (by omega) dX6_init_35 ?_
    refine qc_dup dX6_init_38 rfl ?_
    refine qc_call (cc_X3 (o := 17 + 15 * i) (by omega) qc_us) qw_23 qw_2 qw_21 qw_22 rfl yi_X3 (by decide) (by decide) (by omega) (by omega) (Nat.le_of_ble_eq_true rfl) dX6_init_39 ?_
    refine qc_aast (o := 16) (v := 17 + 15 * i) (ty := 3) (c := 1) (N := 5) (f := qh_f E i) (by show 16 < 17 + 15 * i + 1 + 14; omega) (by show 17 + 15 * i < 17 + 15 * i + 1 + 14; omega) (by show qc_tree _ _ _ _ _ = _; unfold qc_tree; rw [if_neg (by omega), if_neg (by omega), if_neg (by omega), qc_un (by omega)]; exact qh_l16 E i) (by show qc_tree _ _ _ _ _ = _; unfold qc_tree; rw [if_pos rfl]) rfl rfl (vp_in_nI hil (by omega)) dX6_init_42 ?_
    refine qc_iinc (q := 0) (v := nI (i + 1)) (lv' := [(1, .int (nI (i + 1))), (0, .ref (E.2.2.1 + 0))]) dX6_init_43 rfl (nI_1 i) (by decide) rfl ?_
    refine qc_goto (tgt := 25) dX6_init_46 (by decide) ?_
    have h := qh_loop (l := l) (E := E) m (i + 1) (by omega) k
    rw [show 17 + 15 * (i + 1) = 17 + 15 * i + 1 + 14 by omega, show 16 + 15 * (i + 1) = 16 + 15 * i + 1 + 14 by omega, show 210 + 205 * (i + 1) = 210 + 205 * i + 10 + 195 by omega] at h
    refine qc_eqw (ξ' := qh_l E (i + 1)) (fun q _ => ?_) h
    rw [nI_clamp (by omega)]
    show va_up (qc_tree E _ (17 + 15 * i) (17 + 15 * i + 1)) 16 _ q = _
    rw [show 17 + 15 * i + 1 = 18 + 15 * i by omega]
    rfl
set_option maxRecDepth 100000 in
set_option maxHeartbeats 4000000 in
theorem cc_X6 {l : Launch} {E : qm_E} : qc_Ct l E 5 yX6_init cX6_init 2 (E.2.2.1 + 0) 1 (qh_a E) 99 1536 (100, qh_w E) := by
  refine qc_ofWp rfl (by decide) rfl ?_
  refine qc_aload_n dX6_init_0 rfl 0 rfl ?_
  refine qc_obj qw_16 dX6_init_1 (by decide) (Nat.le_of_ble_eq_true rfl) ?_
  refine qc_aload_n dX6_init_4 rfl 0 rfl ?_
  refine qc_new (c := 1) (fs := qe_X3) (ty0 := tyX3) rfl qm_in1 tyX3_ok qd_X3 qw_19 qw_20 qw_2 (by decide) (by decide) dX6_init_5 ?_
  refine qc_dup dX6_init_8 rfl ?_
  refine qc_call (cc_X3 (o := 1) (show _ + 1 ≤ _ from Nat.le_of_ble_eq_true rfl) qc_us) qw_23 qw_2 qw_21 qw_22 rfl yi_X3 (by decide) (by decide) (by decide) (by decide) (Nat.le_of_ble_eq_true rfl) dX6_init_9 ?_
  refine qc_put (c := 4) (k := 0) (ty0 := tyX6) (show _ + 1 ≤ _ from Nat.le_of_ble_eq_true rfl) (show qh_b E 0 = Sum.inr (4, qe_X6) from rfl) rfl qm_in4 tyX6_ok nmX6 (by decide) (by simp) (fun h => by first | rfl | cases h) (tyX6_ok 0 (by decide)) rfl rfl qw_216 dX6_init_12 ?_
  refine qc_aload_n dX6_init_15 rfl 0 rfl ?_
  refine qc_iconst (v := 5) dX6_init_16 (by decide) ?_
  refine qc_newr (ty := 3) (Cn := "HungStreams$Tree") (N := 5) (fun s h => h.2.2) rfl qw_19 (by decide) (by decide) (by decide) (by decide) (by decide) dX6_init_17 ?_
  refine qc_put (c := 4) (k := 1) (ty0 := tyX6) (show _ + 1 ≤ _ from Nat.le_of_ble_eq_true rfl) (show va_up (qh_c E) 16 _ 0 = Sum.inr (4, [.ref (E.2.2.1 + 1), .null, .int 0, .int 0, .null, .null, .int 0, .int 0, .int 0]) from rfl) rfl qm_in4 tyX6_ok nmX6 (by decide) (by simp) (fun h => by first | rfl | cases h) (tyX6_ok 1 (by decide)) rfl rfl qw_217 dX6_init_20 ?_
  refine qc_iconst (v := 0) dX6_init_23 (by decide) ?_
  refine qc_istore_n (lv' := [(1, .int (nI 0)), (0, .ref (E.2.2.1 + 0))]) dX6_init_24 rfl (by decide) rfl ?_
  refine qh_loop 5 0 rfl ?_
  refine qc_aload_n dX6_init_49 rfl 1 rfl ?_
  refine qc_new (c := 3) (fs := qe_X5) (ty0 := tyX5) rfl qm_in3 tyX5_ok qd_X5 qw_158 qw_159 qw_4 (by decide) (by decide) dX6_init_50 ?_
  refine qc_dup dX6_init_53 rfl ?_
  refine qc_call (cc_X5 (o := 92) (show _ + 1 ≤ _ from Nat.le_of_ble_eq_true rfl) qc_us) qw_162 qw_4 qw_160 qw_161 rfl yi_X5 (by decide) (by decide) (by decide) (by decide) (Nat.le_of_ble_eq_true rfl) dX6_init_54 ?_
  refine qc_put (c := 4) (k := 4) (ty0 := tyX6) (show _ + 1 ≤ _ from Nat.le_of_ble_eq_true rfl) (show qc_tx E (va_up (qh_l E 5) 92 (.inr (3, qe_X5))) 92 93 0 = Sum.inr (4, [.ref (E.2.2.1 + 1), .ref (E.2.2.1 + 16), .int 0, .int 0, .null, .null, .int 0, .int 0, .int 0]) from qh_l0 E 5) rfl qm_in4 tyX6_ok nmX6 (by decide) (by simp) (fun h => by first | rfl | cases h) (tyX6_ok 4 (by decide)) rfl rfl qw_220 dX6_init_57 ?_
  refine qc_aload_n dX6_init_60 rfl 1 rfl ?_
  refine qc_new (c := 2) (fs := qe_X4) (ty0 := tyX4) rfl qm_in2 tyX4_ok qd_X4 qw_201 qw_202 qw_5 (by decide) (by decide) dX6_init_61 ?_
  refine qc_dup dX6_init_64 rfl ?_
  refine qc_call (cc_X4 (o := 98) (show _ + 1 ≤ _ from Nat.le_of_ble_eq_true rfl) qc_us) qw_205 qw_5 qw_203 qw_204 rfl yi_X4 (by decide) (by decide) (by decide) (by decide) (Nat.le_of_ble_eq_true rfl) dX6_init_65 ?_
  refine qc_put (c := 4) (k := 5) (ty0 := tyX6) (show _ + 1 ≤ _ from Nat.le_of_ble_eq_true rfl) (show qc_wr E (va_up (qh_t E) 98 (.inr (2, qe_X4))) 98 99 0 = Sum.inr (4, [.ref (E.2.2.1 + 1), .ref (E.2.2.1 + 16), .int 0, .int 0, .ref (E.2.2.1 + 92), .null, .int 0, .int 0, .int 0]) from rfl) rfl qm_in4 tyX6_ok nmX6 (by decide) (by simp) (fun h => by first | rfl | cases h) (tyX6_ok 5 (by decide)) rfl rfl qw_221 dX6_init_68 ?_
  exact qc_ret dX6_init_71 rfl rfl rfl
