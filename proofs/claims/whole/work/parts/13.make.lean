theorem qc_us {ξ : Nat → va_E} {o : Nat} {e : va_E} : va_up ξ o e o = e := by simp [va_up]
theorem qc_un {ξ : Nat → va_E} {o q : Nat} {e : va_E} (h : q ≠ o) : va_up ξ o e q = ξ q := by simp [va_up, h]
abbrev qe_X2 : List Value := [.int 0, .int 0, .int 0, .int 0, .int 0, .int 0, .int 0, .int 0, .int 0, .int 0, .int 0, .int 0, .long 0, .long 0]
theorem qd_X2 : ∀ j, j < 14 → defaultValue (tyX2 j) = vp_V qe_X2 j := by
  intro j hj
  match j, hj with
  | 0, _ => rfl
  | 1, _ => rfl
  | 2, _ => rfl
  | 3, _ => rfl
  | 4, _ => rfl
  | 5, _ => rfl
  | 6, _ => rfl
  | 7, _ => rfl
  | 8, _ => rfl
  | 9, _ => rfl
  | 10, _ => rfl
  | 11, _ => rfl
  | 12, _ => rfl
  | 13, _ => rfl
  | j + 14, hj => exact absurd hj (by omega)
theorem yi_X2 : (yX2_init).cls ≠ "java/lang/invoke/MethodHandle" ∧ (yX2_init).cls ≠ "java/lang/invoke/VarHandle" ∧ (parseMethodDescriptor (yX2_init).desc).map (fun d => d.parameters.length) = some 0 := by decide +kernel
abbrev qe_X3 : List Value := [.null, .int 0, .int 0, .int 0, .int 0, .int 0, .int 0, .int 0, .int 0, .int 0]
theorem qd_X3 : ∀ j, j < 10 → defaultValue (tyX3 j) = vp_V qe_X3 j := by
  intro j hj
  match j, hj with
  | 0, _ => rfl
  | 1, _ => rfl
  | 2, _ => rfl
  | 3, _ => rfl
  | 4, _ => rfl
  | 5, _ => rfl
  | 6, _ => rfl
  | 7, _ => rfl
  | 8, _ => rfl
  | 9, _ => rfl
  | j + 10, hj => exact absurd hj (by omega)
theorem yi_X3 : (yX3_init).cls ≠ "java/lang/invoke/MethodHandle" ∧ (yX3_init).cls ≠ "java/lang/invoke/VarHandle" ∧ (parseMethodDescriptor (yX3_init).desc).map (fun d => d.parameters.length) = some 0 := by decide +kernel
abbrev qe_X4 : List Value := [.null, .int 0]
theorem qd_X4 : ∀ j, j < 2 → defaultValue (tyX4 j) = vp_V qe_X4 j := by
  intro j hj
  match j, hj with
  | 0, _ => rfl
  | 1, _ => rfl
  | j + 2, hj => exact absurd hj (by omega)
theorem yi_X4 : (yX4_init).cls ≠ "java/lang/invoke/MethodHandle" ∧ (yX4_init).cls ≠ "java/lang/invoke/VarHandle" ∧ (parseMethodDescriptor (yX4_init).desc).map (fun d => d.parameters.length) = some 0 := by decide +kernel
abbrev qe_X5 : List Value := [.null, .int 0, .null, .null, .null, .int 0, .null, .int 0, .int 0, .int 0]
theorem qd_X5 : ∀ j, j < 10 → defaultValue (tyX5 j) = vp_V qe_X5 j := by
  intro j hj
  match j, hj with
  | 0, _ => rfl
  | 1, _ => rfl
  | 2, _ => rfl
  | 3, _ => rfl
  | 4, _ => rfl
  | 5, _ => rfl
  | 6, _ => rfl
  | 7, _ => rfl
  | 8, _ => rfl
  | 9, _ => rfl
  | j + 10, hj => exact absurd hj (by omega)
theorem yi_X5 : (yX5_init).cls ≠ "java/lang/invoke/MethodHandle" ∧ (yX5_init).cls ≠ "java/lang/invoke/VarHandle" ∧ (parseMethodDescriptor (yX5_init).desc).map (fun d => d.parameters.length) = some 0 := by decide +kernel
abbrev qe_X6 : List Value := [.null, .null, .int 0, .int 0, .null, .null, .int 0, .int 0, .int 0]
theorem qd_X6 : ∀ j, j < 9 → defaultValue (tyX6 j) = vp_V qe_X6 j := by
  intro j hj
  match j, hj with
  | 0, _ => rfl
  | 1, _ => rfl
  | 2, _ => rfl
  | 3, _ => rfl
  | 4, _ => rfl
  | 5, _ => rfl
  | 6, _ => rfl
  | 7, _ => rfl
  | 8, _ => rfl
  | j + 9, hj => exact absurd hj (by omega)
theorem yi_X6 : (yX6_init).cls ≠ "java/lang/invoke/MethodHandle" ∧ (yX6_init).cls ≠ "java/lang/invoke/VarHandle" ∧ (parseMethodDescriptor (yX6_init).desc).map (fun d => d.parameters.length) = some 0 := by decide +kernel
abbrev qe_X7 : List Value := [.null, .null, .int 0, .null, .long 0, .long 0, .null, .int 0, .int 0, .int 0, .int 0, .null, .null, .null, .int 0, .int 0, .int 0]
theorem qd_X7 : ∀ j, j < 17 → defaultValue (tyX7 j) = vp_V qe_X7 j := by
  intro j hj
  match j, hj with
  | 0, _ => rfl
  | 1, _ => rfl
  | 2, _ => rfl
  | 3, _ => rfl
  | 4, _ => rfl
  | 5, _ => rfl
  | 6, _ => rfl
  | 7, _ => rfl
  | 8, _ => rfl
  | 9, _ => rfl
  | 10, _ => rfl
  | 11, _ => rfl
  | 12, _ => rfl
  | 13, _ => rfl
  | 14, _ => rfl
  | 15, _ => rfl
  | 16, _ => rfl
  | j + 17, hj => exact absurd hj (by omega)
theorem yi_X7 : (yX7_init).cls ≠ "java/lang/invoke/MethodHandle" ∧ (yX7_init).cls ≠ "java/lang/invoke/VarHandle" ∧ (parseMethodDescriptor (yX7_init).desc).map (fun d => d.parameters.length) = some 0 := by decide +kernel
theorem cc_X2 {l : Launch} {E : qm_E} (a n : Nat) (ξ : Nat → va_E) : qc_Ct l E 1 yX2_init cX2_init 1 a n ξ 0 0 (n, ξ) := by
  refine qc_ofWp rfl (by decide) rfl ?_
  refine qc_aload_n dX2_init_0 rfl 0 rfl ?_
  refine qc_obj qw_31 dX2_init_1 (by decide) (Nat.le_of_ble_eq_true rfl) ?_
  exact qc_ret dX2_init_4 rfl rfl rfl
def qe_arr (E : qm_E) (r k : Nat) : va_E := .inl (E.2.1 2, 13, .inr (.inr (.inr (.inr fun i => if i < k then some (r + i) else none))))
def qc_treeJ (E : qm_E) (ξ : Nat → va_E) (o n j : Nat) : Nat → va_E := fun q => if q = o then .inr (1, [.ref (E.2.2.1 + n), .int 0, .int 0, .int 0, .int 0, .int 0, .int 0, .int 0, .int 0, .int 0]) else if q = n then qe_arr E (E.2.2.1 + (n + 1)) j else if n < q then .inr (0, qe_X2) else ξ q
def qc_tree (E : qm_E) (ξ : Nat → va_E) (o n : Nat) : Nat → va_E := fun q => if q = o then .inr (1, [.ref (E.2.2.1 + n), .int 0, .int 0, .int 10000, .int 100, .int 10, .int 0, .int 0, .int 0, .int (-1)]) else if q = n then qe_arr E (E.2.2.1 + (n + 1)) 13 else if n < q then .inr (0, qe_X2) else ξ q
set_option maxRecDepth 20000 in
theorem qc_tree_loop {l : Launch} {E : qm_E} {o n : Nat} {ξ : Nat → va_E} (ho : o < n) : ∀ (m j : Nat), j + m = 13 → qc_Wp l E 3 "HungStreams$Tree" cX3_init 2 14 195 (n + 14, qc_tree E ξ o n) 15 [(1, .int (nI j)), (0, .ref (E.2.2.1 + o))] [] (n + 1 + j) (qc_treeJ E ξ o n j) (1 + j) (13 + 14 * j)
  | 0, j, hj => by
    have hj : j = 13 := by omega
    subst hj
    refine qc_iload_n dX3_init_15 rfl 0 rfl ?_
    refine qc_bipush (v := 12) dX3_init_16 (by decide) ?_
    refine qc_icmp_gt (tgt := 40) dX3_init_18 (by decide) (fun _ => ?_) (fun h => absurd (by decide) h)
    refine qc_aload_n dX3_init_40 rfl 1 rfl ?_
    refine qc_sipush (v := 10000) dX3_init_41 (by decide) ?_
    refine qc_put (c := 1) (k := 3) (ty0 := tyX3) (by omega) (by unfold qc_treeJ; rw [if_pos rfl]) rfl qm_in1 tyX3_ok nmX3 (by decide) (by simp) (fun h => by first | rfl | cases h) (tyX3_ok 3 (by decide)) rfl rfl qw_116 dX3_init_44 ?_
    refine qc_aload_n dX3_init_47 rfl 1 rfl ?_
    refine qc_bipush (v := 100) dX3_init_48 (by decide) ?_
    refine qc_put (c := 1) (k := 4) (ty0 := tyX3) (by omega) qc_us rfl qm_in1 tyX3_ok nmX3 (by decide) (by simp) (fun h => by first | rfl | cases h) (tyX3_ok 4 (by decide)) rfl rfl qw_119 dX3_init_50 ?_
    refine qc_aload_n dX3_init_53 rfl 1 rfl ?_
    refine qc_bipush (v := 10) dX3_init_54 (by decide) ?_
    refine qc_put (c := 1) (k := 5) (ty0 := tyX3) (by omega) qc_us rfl qm_in1 tyX3_ok nmX3 (by decide) (by simp) (fun h => by first | rfl | cases h) (tyX3_ok 5 (by decide)) rfl rfl qw_122 dX3_init_56 ?_
    refine qc_aload_n dX3_init_59 rfl 1 rfl ?_
    refine qc_iconst (v := (-1)) dX3_init_60 (by decide) ?_
    refine qc_put (c := 1) (k := 9) (ty0 := tyX3) (by omega) qc_us rfl qm_in1 tyX3_ok nmX3 (by decide) (by simp) (fun h => by first | rfl | cases h) (tyX3_ok 9 (by decide)) rfl rfl qw_133 dX3_init_61 ?_
    refine qc_eqw (ξ' := qc_tree E ξ o n) (fun q _ => ?_) (qc_ret dX3_init_64 rfl rfl rfl)
    by_cases hq : q = o
    · subst hq; rw [qc_us]; unfold qc_tree; rw [if_pos rfl]; rfl
    · rw [qc_un hq, qc_un hq, qc_un hq, qc_un hq]; unfold qc_treeJ qc_tree; rw [if_neg hq, if_neg hq]
  | m + 1, j, hj => by
    have hjl : j < 13 := by omega
    refine qc_iload_n dX3_init_15 rfl 0 rfl ?_
    refine qc_bipush (v := 12) dX3_init_16 (by decide) ?_
    refine qc_icmp_gt (tgt := 40) dX3_init_18 (by decide) (fun h => absurd h (nI_nlt (b := j) (a := 12) (by omega) (by omega))) (fun _ => ?_)
    refine qc_aload_n dX3_init_21 rfl 1 rfl ?_
    refine qc_get (c := 1) (k := 0) (v := .ref (E.2.2.1 + n)) (fs := [.ref (E.2.2.1 + n), .int 0, .int 0, .int 0, .int 0, .int 0, .int 0, .int 0, .int 0, .int 0]) (by omega) (by unfold qc_treeJ; rw [if_pos rfl]) rfl qm_in1 (by decide) rfl qw_106 dX3_init_22 ?_
    refine qc_iload_n dX3_init_25 rfl 0 rfl ?_
    refine qc_new (c := 0) (fs := qe_X2) (ty0 := tyX2) rfl qm_in0 tyX2_ok qd_X2 qw_25 qw_27 qw_3 (by omega) (by omega) dX3_init_26 ?_
    refine qc_dup dX3_init_29 rfl ?_
    refine qc_callN (host := "HungStreams") (cc_X2 _ _ _) qw_30 qw_3 (List.mem_of_getElem? (i := 0) rfl) qw_29 rfl yi_X2 (by decide) (by decide) (by omega) (by omega) (Nat.le_of_ble_eq_true rfl) dX3_init_30 ?_
    refine qc_aast (o := n) (v := n + 1 + j) (ty := 2) (c := 0) (N := 13) (fs := qe_X2) (f := fun i => if i < j then some (E.2.2.1 + (n + 1) + i) else none) (by show n < n + 1 + j + 1; omega) (by show n + 1 + j < n + 1 + j + 1; omega) (by show va_up _ _ _ _ = _; rw [qc_un (by omega)]; unfold qc_treeJ; rw [if_neg (by omega), if_pos rfl]; rfl) (by show va_up _ _ _ _ = _; rw [qc_us]) rfl rfl (vp_in_nI hjl (by omega)) dX3_init_33 ?_
    refine qc_iinc (q := 0) (v := nI (j + 1)) (lv' := [(1, .int (nI (j + 1))), (0, .ref (E.2.2.1 + o))]) dX3_init_34 rfl (nI_1 j) (by decide) rfl ?_
    refine qc_goto (tgt := 15) dX3_init_37 (by decide) ?_
    refine qc_eqw (ξ' := qc_treeJ E ξ o n (j + 1)) (fun q hq => ?_) ?_
    · show va_up (va_up _ _ _) _ _ q = _
      by_cases h1 : q = n
      · subst h1
        rw [qc_us]
        unfold qc_treeJ qe_arr
        rw [if_neg (by omega), if_pos rfl]
        congr 7
        funext i
        rw [nI_clamp (by omega)]
        unfold va_up
        by_cases h2 : i = j
        · subst h2; rw [if_pos rfl, if_pos (by omega)]; congr 1; omega
        · rw [if_neg h2]
          dsimp only
          by_cases h3 : i < j
          · rw [if_pos h3, if_pos (by omega)]
          · rw [if_neg h3, if_neg (by omega)]
      · rw [qc_un h1]
        by_cases h2 : q = n + 1 + j
        · subst h2; rw [qc_us]; unfold qc_treeJ; rw [if_neg (by omega), if_neg (by omega), if_pos (by omega)]
        · rw [qc_un h2]; unfold qc_treeJ; rw [if_neg h1, if_neg h1]
    · have := qc_tree_loop (l := l) (E := E) (ξ := ξ) ho m (j + 1) (by omega)
      rw [show n + 1 + (j + 1) = n + 1 + j + 1 by omega, show 1 + (j + 1) = 1 + j + 1 by omega, show 13 + 14 * (j + 1) = 13 + 14 * j + 14 by omega] at this
      exact this
set_option maxRecDepth 20000 in
theorem cc_X3 {l : Launch} {E : qm_E} {o n : Nat} {ξ : Nat → va_E} (ho : o < n) (hξ : ξ o = .inr (1, qe_X3)) : qc_Ct l E 3 yX3_init cX3_init 2 (E.2.2.1 + o) n ξ 14 195 (n + 14, qc_tree E ξ o n) := by
  refine qc_ofWp rfl (by decide) rfl ?_
  refine qc_aload_n dX3_init_0 rfl 0 rfl ?_
  refine qc_obj qw_24 dX3_init_1 (by decide) (Nat.le_of_ble_eq_true rfl) ?_
  refine qc_aload_n dX3_init_4 rfl 0 rfl ?_
  refine qc_bipush (v := 13) dX3_init_5 (by decide) ?_
  refine qc_newr (ty := 2) (Cn := "HungStreams$Stream") (N := 13) (fun s h => h.2.1) rfl qw_25 (by decide) (by decide) (by omega) (by omega) (by omega) dX3_init_7 ?_
  refine qc_put (c := 1) (k := 0) (ty0 := tyX3) (by omega) (by rw [qc_un (by omega)]; exact hξ) rfl qm_in1 tyX3_ok nmX3 (by decide) (by simp) (fun h => by first | rfl | cases h) (tyX3_ok 0 (by decide)) rfl rfl qw_106 dX3_init_10 ?_
  refine qc_iconst (v := 0) dX3_init_13 (by decide) ?_
  refine qc_istore_n (lv' := [(1, .int 0), (0, .ref (E.2.2.1 + o))]) dX3_init_14 rfl (by decide) rfl ?_
  refine qc_eqw (ξ' := qc_treeJ E ξ o n 0) (fun q hq => ?_) (qc_tree_loop ho 13 0 rfl)
  by_cases h1 : q = o
  · subst h1; rw [qc_us]; unfold qc_treeJ; rw [if_pos rfl]; rfl
  · rw [qc_un h1]
    by_cases h2 : q = n
    · subst h2; rw [qc_us]; unfold qc_treeJ qe_arr; rw [if_neg h1, if_pos rfl]; congr 6
    · rw [qc_un h2]; unfold qc_treeJ; rw [if_neg h1, if_neg h2, if_neg (by omega)]
def qc_wr (E : qm_E) (ξ : Nat → va_E) (o n : Nat) : Nat → va_E := fun q => if q = o then .inr (2, [.ref (E.2.2.1 + n), .int 0]) else if q = n then .inl (E.2.1 0, 120, .inl (fun _ => 0)) else ξ q
set_option maxRecDepth 20000 in
theorem cc_X4 {l : Launch} {E : qm_E} {o n : Nat} {ξ : Nat → va_E} (ho : o < n) (hξ : ξ o = .inr (2, qe_X4)) : qc_Ct l E 1 yX4_init cX4_init 1 (E.2.2.1 + o) n ξ 1 120 (n + 1, qc_wr E ξ o n) := by
  refine qc_ofWp rfl (by decide) rfl ?_
  refine qc_aload_n dX4_init_0 rfl 0 rfl ?_
  refine qc_obj qw_206 dX4_init_1 (by decide) (Nat.le_of_ble_eq_true rfl) ?_
  refine qc_aload_n dX4_init_4 rfl 0 rfl ?_
  refine qc_bipush (v := 120) dX4_init_5 (by decide) ?_
  refine qc_newi (N := 120) (by decide) (by decide) (by omega) (by omega) (by omega) dX4_init_7 ?_
  refine qc_put (c := 2) (k := 0) (ty0 := tyX4) (by omega) (by rw [qc_un (by omega)]; exact hξ) rfl qm_in2 tyX4_ok nmX4 (by decide) (by simp) (fun h => by first | rfl | cases h) (tyX4_ok 0 (by decide)) rfl rfl qw_207 dX4_init_9 ?_
  refine qc_eqw (ξ' := qc_wr E ξ o n) (fun q _ => ?_) (qc_ret dX4_init_12 rfl rfl rfl)
  unfold qc_wr
  by_cases h1 : q = o
  · subst h1; rw [qc_us, if_pos rfl]; rfl
  · rw [qc_un h1, if_neg h1]
    by_cases h2 : q = n
    · subst h2; rw [qc_us, if_pos rfl]
    · rw [qc_un h2, if_neg h2]
def qc_tx (E : qm_E) (ξ : Nat → va_E) (o n : Nat) : Nat → va_E := fun q => if q = o then .inr (3, [.ref (E.2.2.1 + n), .int 0, .ref (E.2.2.1 + (n + 1)), .ref (E.2.2.1 + (n + 2)), .ref (E.2.2.1 + (n + 3)), .int 0, .ref (E.2.2.1 + (n + 4)), .int 0, .int 0, .int 0]) else if q = n then .inl (E.2.1 0, 120, .inl (fun _ => 0)) else if q = n + 1 then .inl (E.2.1 0, 12, .inl (fun _ => 0)) else if q = n + 2 then .inl (E.2.1 0, 12, .inl (fun _ => 0)) else if q = n + 3 then .inl (E.2.1 0, 12, .inl (fun _ => 0)) else if q = n + 4 then .inl (E.2.1 0, 13, .inl (fun _ => 0)) else ξ q
set_option maxRecDepth 20000 in
theorem cc_X5 {l : Launch} {E : qm_E} {o n : Nat} {ξ : Nat → va_E} (ho : o < n) (hξ : ξ o = .inr (3, qe_X5)) : qc_Ct l E 1 yX5_init cX5_init 1 (E.2.2.1 + o) n ξ 5 169 (n + 5, qc_tx E ξ o n) := by
  refine qc_ofWp rfl (by decide) rfl ?_
  refine qc_aload_n dX5_init_0 rfl 0 rfl ?_
  refine qc_obj qw_163 dX5_init_1 (by decide) (Nat.le_of_ble_eq_true rfl) ?_
  refine qc_aload_n dX5_init_4 rfl 0 rfl ?_
  refine qc_bipush (v := 120) dX5_init_5 (by decide) ?_
  refine qc_newi (N := 120) (by decide) (by decide) (by omega) (by omega) (by omega) dX5_init_7 ?_
  refine qc_put (c := 3) (k := 0) (ty0 := tyX5) (by omega) (by rw [qc_un (by omega)]; exact hξ) rfl qm_in3 tyX5_ok nmX5 (by decide) (by simp) (fun h => by first | rfl | cases h) (tyX5_ok 0 (by decide)) rfl rfl qw_164 dX5_init_9 ?_
  refine qc_aload_n dX5_init_12 rfl 0 rfl ?_
  refine qc_bipush (v := 12) dX5_init_13 (by decide) ?_
  refine qc_newi (N := 12) (by decide) (by decide) (by omega) (by omega) (by omega) dX5_init_15 ?_
  refine qc_put (c := 3) (k := 2) (ty0 := tyX5) (by omega) (by rw [qc_un (by omega), qc_us]) rfl qm_in3 tyX5_ok nmX5 (by decide) (by simp) (fun h => by first | rfl | cases h) (tyX5_ok 2 (by decide)) rfl rfl qw_167 dX5_init_17 ?_
  refine qc_aload_n dX5_init_20 rfl 0 rfl ?_
  refine qc_bipush (v := 12) dX5_init_21 (by decide) ?_
  refine qc_newi (N := 12) (by decide) (by decide) (by omega) (by omega) (by omega) dX5_init_23 ?_
  refine qc_put (c := 3) (k := 3) (ty0 := tyX5) (by omega) (by rw [qc_un (by omega), qc_us]) rfl qm_in3 tyX5_ok nmX5 (by decide) (by simp) (fun h => by first | rfl | cases h) (tyX5_ok 3 (by decide)) rfl rfl qw_169 dX5_init_25 ?_
  refine qc_aload_n dX5_init_28 rfl 0 rfl ?_
  refine qc_bipush (v := 12) dX5_init_29 (by decide) ?_
  refine qc_newi (N := 12) (by decide) (by decide) (by omega) (by omega) (by omega) dX5_init_31 ?_
  refine qc_put (c := 3) (k := 4) (ty0 := tyX5) (by omega) (by rw [qc_un (by omega), qc_us]) rfl qm_in3 tyX5_ok nmX5 (by decide) (by simp) (fun h => by first | rfl | cases h) (tyX5_ok 4 (by decide)) rfl rfl qw_171 dX5_init_33 ?_
  refine qc_aload_n dX5_init_36 rfl 0 rfl ?_
  refine qc_bipush (v := 13) dX5_init_37 (by decide) ?_
  refine qc_newi (N := 13) (by decide) (by decide) (by omega) (by omega) (by omega) dX5_init_39 ?_
  refine qc_put (c := 3) (k := 6) (ty0 := tyX5) (by omega) (by rw [qc_un (by omega), qc_us]) rfl qm_in3 tyX5_ok nmX5 (by decide) (by simp) (fun h => by first | rfl | cases h) (tyX5_ok 6 (by decide)) rfl rfl qw_175 dX5_init_41 ?_
  refine qc_eqw (ξ' := qc_tx E ξ o n) (fun q _ => ?_) (qc_ret dX5_init_44 rfl rfl rfl)
  unfold qc_tx
  by_cases ho1 : q = o
  · subst ho1; rw [qc_us, if_pos rfl]; rfl
  rw [if_neg ho1]
  by_cases h0 : q = n
  · subst h0; simp [va_up, ho1]; (repeat rw [if_neg (by omega)])
  rw [if_neg h0]
  by_cases h1 : q = n + 1
  · subst h1; simp [va_up, ho1]
  rw [if_neg h1]
  by_cases h2 : q = n + 2
  · subst h2; simp [va_up, ho1]
  rw [if_neg h2]
  by_cases h3 : q = n + 3
  · subst h3; simp [va_up, ho1]
  rw [if_neg h3]
  by_cases h4 : q = n + 4
  · subst h4; simp [va_up, ho1]
  rw [if_neg h4]
  simp [va_up, ho1, h0, h1, h2, h3, h4]
def qc_md (E : qm_E) (ξ : Nat → va_E) (o n : Nat) (f : Nat → Int64) : Nat → va_E := fun q => if q = o then .inr (5, [.ref (E.2.2.1 + n), .ref (E.2.2.1 + (n + 1)), .int 0, .ref (E.2.2.1 + (n + 2)), .long 0, .long 0, .ref (E.2.2.1 + (n + 3)), .int 0, .int 0, .int 0, .int 0, .ref (E.2.2.1 + (n + 4)), .ref (E.2.2.1 + (n + 5)), .ref (E.2.2.1 + (n + 6)), .int 0, .int 0, .int 0]) else if q = n then .inl (E.2.1 1, 215, .inr (.inl f)) else if q = n + 1 then .inl (E.2.1 1, 1075, .inr (.inl (fun _ => 0))) else if q = n + 2 then .inl (E.2.1 0, 3, .inl (fun _ => 0)) else if q = n + 3 then .inl (E.2.1 0, 120, .inl (fun _ => 0)) else if q = n + 4 then .inl (E.2.1 0, 12, .inl (fun _ => 0)) else if q = n + 5 then .inl (E.2.1 0, 12, .inl (fun _ => 0)) else if q = n + 6 then .inl (E.2.1 0, 12, .inl (fun _ => 0)) else ξ q
theorem qc_md_o {E : qm_E} {ξ : Nat → va_E} {o n : Nat} {f : Nat → Int64} : qc_md E ξ o n f o = .inr (5, [.ref (E.2.2.1 + n), .ref (E.2.2.1 + (n + 1)), .int 0, .ref (E.2.2.1 + (n + 2)), .long 0, .long 0, .ref (E.2.2.1 + (n + 3)), .int 0, .int 0, .int 0, .int 0, .ref (E.2.2.1 + (n + 4)), .ref (E.2.2.1 + (n + 5)), .ref (E.2.2.1 + (n + 6)), .int 0, .int 0, .int 0]) := by unfold qc_md; rw [if_pos rfl]
theorem qc_md_n {E : qm_E} {ξ : Nat → va_E} {o n : Nat} {f : Nat → Int64} (h : o < n) : qc_md E ξ o n f n = .inl (E.2.1 1, 215, .inr (.inl f)) := by unfold qc_md; rw [if_neg (by omega), if_pos rfl]
theorem qc_md_up {E : qm_E} {ξ : Nat → va_E} {o n : Nat} {f g : Nat → Int64} (h : o < n) (q : Nat) : va_up (qc_md E ξ o n f) n (.inl (E.2.1 1, 215, .inr (.inl g))) q = qc_md E ξ o n g q := by
  by_cases h1 : q = n
  · subst h1; rw [qc_us, qc_md_n h]
  · rw [qc_un h1]; unfold qc_md; rw [if_neg h1, if_neg h1]
def qc_f0 : Nat → Int64 := vp_updL (vp_updL (vp_updL (vp_updL (fun _ => 0) (208 : Int32).toNatClampNeg 10000) (209 : Int32).toNatClampNeg 100) (210 : Int32).toNatClampNeg 10) (214 : Int32).toNatClampNeg (-1)
set_option maxRecDepth 20000 in
theorem cc_X7 {l : Launch} {E : qm_E} {o n : Nat} {ξ : Nat → va_E} (ho : o < n) (hξ : ξ o = .inr (5, qe_X7)) : qc_Ct l E 1 yX7_init cX7_init 1 (E.2.2.1 + o) n ξ 7 1449 (n + 7, qc_md E ξ o n qc_f0) := by
  refine qc_ofWp rfl (by decide) rfl ?_
  refine qc_aload_n dX7_init_0 rfl 0 rfl ?_
  refine qc_obj qw_619 dX7_init_1 (by decide) (Nat.le_of_ble_eq_true rfl) ?_
  refine qc_aload_n dX7_init_4 rfl 0 rfl ?_
  refine qc_sipush (v := 215) dX7_init_5 (by decide) ?_
  refine qc_newl (N := 215) (by decide) (by decide) (by omega) (by omega) (by omega) dX7_init_8 ?_
  refine qc_put (c := 5) (k := 0) (ty0 := tyX7) (by omega) (by rw [qc_un (by omega)]; exact hξ) rfl qm_in5 tyX7_ok nmX7 (by decide) (by simp) (fun h => by first | rfl | cases h) (tyX7_ok 0 (by decide)) rfl rfl qw_624 dX7_init_10 ?_
  refine qc_aload_n dX7_init_13 rfl 0 rfl ?_
  refine qc_sipush (v := 1075) dX7_init_14 (by decide) ?_
  refine qc_newl (N := 1075) (by decide) (by decide) (by omega) (by omega) (by omega) dX7_init_17 ?_
  refine qc_put (c := 5) (k := 1) (ty0 := tyX7) (by omega) (by rw [qc_un (by omega), qc_us]) rfl qm_in5 tyX7_ok nmX7 (by decide) (by simp) (fun h => by first | rfl | cases h) (tyX7_ok 1 (by decide)) rfl rfl qw_625 dX7_init_19 ?_
  refine qc_aload_n dX7_init_22 rfl 0 rfl ?_
  refine qc_iconst (v := 3) dX7_init_23 (by decide) ?_
  refine qc_newi (N := 3) (by decide) (by decide) (by omega) (by omega) (by omega) dX7_init_24 ?_
  refine qc_put (c := 5) (k := 3) (ty0 := tyX7) (by omega) (by rw [qc_un (by omega), qc_us]) rfl qm_in5 tyX7_ok nmX7 (by decide) (by simp) (fun h => by first | rfl | cases h) (tyX7_ok 3 (by decide)) rfl rfl qw_627 dX7_init_26 ?_
  refine qc_aload_n dX7_init_29 rfl 0 rfl ?_
  refine qc_bipush (v := 120) dX7_init_30 (by decide) ?_
  refine qc_newi (N := 120) (by decide) (by decide) (by omega) (by omega) (by omega) dX7_init_32 ?_
  refine qc_put (c := 5) (k := 6) (ty0 := tyX7) (by omega) (by rw [qc_un (by omega), qc_us]) rfl qm_in5 tyX7_ok nmX7 (by decide) (by simp) (fun h => by first | rfl | cases h) (tyX7_ok 6 (by decide)) rfl rfl qw_630 dX7_init_34 ?_
  refine qc_aload_n dX7_init_37 rfl 0 rfl ?_
  refine qc_bipush (v := 12) dX7_init_38 (by decide) ?_
  refine qc_newi (N := 12) (by decide) (by decide) (by omega) (by omega) (by omega) dX7_init_40 ?_
  refine qc_put (c := 5) (k := 11) (ty0 := tyX7) (by omega) (by rw [qc_un (by omega), qc_us]) rfl qm_in5 tyX7_ok nmX7 (by decide) (by simp) (fun h => by first | rfl | cases h) (tyX7_ok 11 (by decide)) rfl rfl qw_635 dX7_init_42 ?_
  refine qc_aload_n dX7_init_45 rfl 0 rfl ?_
  refine qc_bipush (v := 12) dX7_init_46 (by decide) ?_
  refine qc_newi (N := 12) (by decide) (by decide) (by omega) (by omega) (by omega) dX7_init_48 ?_
  refine qc_put (c := 5) (k := 12) (ty0 := tyX7) (by omega) (by rw [qc_un (by omega), qc_us]) rfl qm_in5 tyX7_ok nmX7 (by decide) (by simp) (fun h => by first | rfl | cases h) (tyX7_ok 12 (by decide)) rfl rfl qw_636 dX7_init_50 ?_
  refine qc_aload_n dX7_init_53 rfl 0 rfl ?_
  refine qc_bipush (v := 12) dX7_init_54 (by decide) ?_
  refine qc_newi (N := 12) (by decide) (by decide) (by omega) (by omega) (by omega) dX7_init_56 ?_
  refine qc_put (c := 5) (k := 13) (ty0 := tyX7) (by omega) (by rw [qc_un (by omega), qc_us]) rfl qm_in5 tyX7_ok nmX7 (by decide) (by simp) (fun h => by first | rfl | cases h) (tyX7_ok 13 (by decide)) rfl rfl qw_637 dX7_init_58 ?_
  refine qc_eqw (ξ' := qc_md E ξ o n (fun _ => 0)) (fun q _ => ?_) ?_
  · unfold qc_md
    by_cases ho1 : q = o
    · subst ho1; rw [qc_us, if_pos rfl]; rfl
    rw [if_neg ho1]
    by_cases h0 : q = n
    · subst h0; simp [va_up, ho1]; (repeat rw [if_neg (by omega)])
    rw [if_neg h0]
    by_cases h1 : q = n + 1
    · subst h1; simp [va_up, ho1]
    rw [if_neg h1]
    by_cases h2 : q = n + 2
    · subst h2; simp [va_up, ho1]
    rw [if_neg h2]
    by_cases h3 : q = n + 3
    · subst h3; simp [va_up, ho1]
    rw [if_neg h3]
    by_cases h4 : q = n + 4
    · subst h4; simp [va_up, ho1]
    rw [if_neg h4]
    by_cases h5 : q = n + 5
    · subst h5; simp [va_up, ho1]
    rw [if_neg h5]
    by_cases h6 : q = n + 6
    · subst h6; simp [va_up, ho1]
    rw [if_neg h6]
    simp [va_up, ho1, h0, h1, h2, h3, h4, h5, h6]
  refine qc_aload_n dX7_init_61 rfl 0 rfl ?_
  refine qc_get (c := 5) (k := 0) (v := .ref (E.2.2.1 + n)) (by omega) qc_md_o rfl qm_in5 (by decide) rfl qw_624 dX7_init_62 ?_
  refine qc_sipush (v := 208) dX7_init_65 (by decide) ?_
  refine qc_ldc2 qw_620 dX7_init_68 ?_
  refine qc_last (by omega) (qc_md_n ho) (by unfold vp_in; decide) dX7_init_71 ?_
  refine qc_eqw (fun q _ => qc_md_up ho q) ?_
  refine qc_aload_n dX7_init_72 rfl 0 rfl ?_
  refine qc_get (c := 5) (k := 0) (v := .ref (E.2.2.1 + n)) (by omega) qc_md_o rfl qm_in5 (by decide) rfl qw_624 dX7_init_73 ?_
  refine qc_sipush (v := 209) dX7_init_76 (by decide) ?_
  refine qc_ldc2 qw_621 dX7_init_79 ?_
  refine qc_last (by omega) (qc_md_n ho) (by unfold vp_in; decide) dX7_init_82 ?_
  refine qc_eqw (fun q _ => qc_md_up ho q) ?_
  refine qc_aload_n dX7_init_83 rfl 0 rfl ?_
  refine qc_get (c := 5) (k := 0) (v := .ref (E.2.2.1 + n)) (by omega) qc_md_o rfl qm_in5 (by decide) rfl qw_624 dX7_init_84 ?_
  refine qc_sipush (v := 210) dX7_init_87 (by decide) ?_
  refine qc_ldc2 qw_622 dX7_init_90 ?_
  refine qc_last (by omega) (qc_md_n ho) (by unfold vp_in; decide) dX7_init_93 ?_
  refine qc_eqw (fun q _ => qc_md_up ho q) ?_
  refine qc_aload_n dX7_init_94 rfl 0 rfl ?_
  refine qc_get (c := 5) (k := 0) (v := .ref (E.2.2.1 + n)) (by omega) qc_md_o rfl qm_in5 (by decide) rfl qw_624 dX7_init_95 ?_
  refine qc_sipush (v := 214) dX7_init_98 (by decide) ?_
  refine qc_ldc2 qw_623 dX7_init_101 ?_
  refine qc_last (by omega) (qc_md_n ho) (by unfold vp_in; decide) dX7_init_104 ?_
  refine qc_eqw (fun q _ => qc_md_up ho q) ?_
  exact qc_ret dX7_init_105 rfl rfl rfl
