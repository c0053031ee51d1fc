-- HungStreams.child (II)I
abbrev kd_X6_child : Nat := 4
theorem yd_X6_child : (yX6_child).cls ≠ "java/lang/invoke/MethodHandle" ∧ (yX6_child).cls ≠ "java/lang/invoke/VarHandle" ∧ (parseMethodDescriptor (yX6_child).desc).map (fun d => d.parameters.length) = some 2 := by decide +kernel
def fn_X6_child (σ : qm_M) (v1 : Int32) (v2 : Int32) : Option (Int32 × qm_M) :=
  (fn_X3_isNode σ 0 v1).bind (fun r1 => if (qm_b r1) = 0 then (fn_X6_refuse σ (-2)).bind (fun r2 => some (r2.1, r2.2)) else if 0 ≤ v2 then (fn_X3_childAt σ 0 v1 v2).bind (fun r3 => some (r3, σ)) else (fn_X6_refuse σ (-2)).bind (fun r4 => some (r4.1, r4.2)))
set_option maxRecDepth 20000 in
theorem wf_X6_child {l : Launch} {E : qm_E} (σ : qm_M) (v1 : Int32) (v2 : Int32) {x : Int32 × qm_M} (h : fn_X6_child σ v1 v2 = some x) {r : Option Value × qm_M} (hT : (fun x r => (some (.int x.1), x.2) = r) x r) : qm_Wp l E kd_X6_child "HungStreams" cX6_child 3 0 [(0, .ref (qm_a E 200)), (1, .int v1), (2, .int v2)] [] σ r := by
  unfold fn_X6_child at h
  refine qr_aload_n dX6_child_0 rfl 0 rfl ?_
  refine qr_get4 (k := 0) (v := .ref (qm_a E 0)) rfl (by decide) rfl qw_216 dX6_child_1 ?_
  refine qr_iload_n dX6_child_4 rfl 1 rfl ?_
  obtain ⟨r1, er1, h⟩ := qm_bind h
  refine qr_call1 (st1 := [.int (qm_b r1)]) rfl (qr_callV (id := 0) (c := 1) (As := [.int v1]) (st := []) rfl (by decide) rfl (ct_X3_isNode (l := l) (E := E) σ 0 v1 rfl er1) qw_254 qw_2 qw_251 qw_252 qw_253 yd_X3_isNode (by decide) (by decide) rfl (Nat.le_of_ble_eq_true rfl) dX6_child_5) ?_
  refine qr_if_eq (tgt := 15) dX6_child_8 (by decide) (fun c6 => ?_) (fun c6 => ?_)
  · rw [if_pos c6] at h
    refine qr_aload_n dX6_child_15 rfl 0 rfl ?_
    refine qr_bipush (v := (-2)) dX6_child_16 (by decide) ?_
    obtain ⟨r2, er2, h⟩ := qm_bind h
    refine qr_call1 (st1 := [.int r2.1]) rfl (qr_callV (id := 200) (c := 4) (As := [.int (-2)]) (st := []) rfl (by decide) rfl (ct_X6_refuse (l := l) (E := E) σ (-2) er2) qw_266 qw_1 qw_263 qw_265 qs_0 yd_X6_refuse (by decide) (by decide) rfl (Nat.le_of_ble_eq_true rfl) dX6_child_18) ?_
    obtain rfl := Option.some.inj h
    cases hT
    exact qr_iret dX6_child_21
  · rw [if_neg c6] at h
    refine qr_iload_n dX6_child_11 rfl 2 rfl ?_
    refine qr_if_ge (tgt := 22) dX6_child_12 (by decide) (fun c5 => ?_) (fun c5 => ?_)
    · rw [if_pos c5] at h
      refine qr_aload_n dX6_child_22 rfl 0 rfl ?_
      refine qr_get4 (k := 0) (v := .ref (qm_a E 0)) rfl (by decide) rfl qw_216 dX6_child_23 ?_
      refine qr_iload_n dX6_child_26 rfl 1 rfl ?_
      refine qr_iload_n dX6_child_27 rfl 2 rfl ?_
      obtain ⟨r3, er3, h⟩ := qm_bind h
      refine qr_call1 (st1 := [.int r3]) rfl (qr_callV (id := 0) (c := 1) (As := [.int v1, .int v2]) (st := []) rfl (by decide) rfl (ct_X3_childAt (l := l) (E := E) σ 0 v1 v2 rfl er3) qw_399 qw_2 qw_396 qw_397 qw_398 yd_X3_childAt (by decide) (by decide) rfl (Nat.le_of_ble_eq_true rfl) dX6_child_28) ?_
      obtain rfl := Option.some.inj h
      cases hT
      exact qr_iret dX6_child_31
    · rw [if_neg c5] at h
      refine qr_aload_n dX6_child_15 rfl 0 rfl ?_
      refine qr_bipush (v := (-2)) dX6_child_16 (by decide) ?_
      obtain ⟨r4, er4, h⟩ := qm_bind h
      refine qr_call1 (st1 := [.int r4.1]) rfl (qr_callV (id := 200) (c := 4) (As := [.int (-2)]) (st := []) rfl (by decide) rfl (ct_X6_refuse (l := l) (E := E) σ (-2) er4) qw_266 qw_1 qw_263 qw_265 qs_0 yd_X6_refuse (by decide) (by decide) rfl (Nat.le_of_ble_eq_true rfl) dX6_child_18) ?_
      obtain rfl := Option.some.inj h
      cases hT
      exact qr_iret dX6_child_21
theorem ct_X6_child {l : Launch} {E : qm_E} (σ : qm_M) (v1 : Int32) (v2 : Int32) {x : Int32 × qm_M} (h : fn_X6_child σ v1 v2 = some x) : qm_Ct l E kd_X6_child yX6_child cX6_child 3 (some .int) [.ref (qm_a E 200), .int v1, .int v2] σ (some (.int x.1), x.2) := qm_ofWp rfl (Nat.le_of_ble_eq_true rfl) (Or.inl rfl) (wf_X6_child σ v1 v2  h rfl)
-- HungStreams.common (II)I
abbrev kd_X6_common : Nat := 3
theorem yd_X6_common : (yX6_common).cls ≠ "java/lang/invoke/MethodHandle" ∧ (yX6_common).cls ≠ "java/lang/invoke/VarHandle" ∧ (parseMethodDescriptor (yX6_common).desc).map (fun d => d.parameters.length) = some 2 := by decide +kernel
def fn_X6_common (σ : qm_M) (v1 : Int32) (v2 : Int32) : Option (Int32 × qm_M) :=
  (fn_X3_isThere σ 0 v1).bind (fun r1 => if (qm_b r1) = 0 then (fn_X6_refuse σ (-2)).bind (fun r2 => some (r2.1, r2.2)) else (fn_X3_isThere σ 0 v2).bind (fun r3 => if (qm_b r3) = 0 then (fn_X6_refuse σ (-2)).bind (fun r5 => some (r5.1, r5.2)) else (fn_X3_deepestShared σ 0 v1 v2).bind (fun r4 => some (r4, σ))))
set_option maxRecDepth 20000 in
theorem wf_X6_common {l : Launch} {E : qm_E} (σ : qm_M) (v1 : Int32) (v2 : Int32) {x : Int32 × qm_M} (h : fn_X6_common σ v1 v2 = some x) {r : Option Value × qm_M} (hT : (fun x r => (some (.int x.1), x.2) = r) x r) : qm_Wp l E kd_X6_common "HungStreams" cX6_common 3 0 [(0, .ref (qm_a E 200)), (1, .int v1), (2, .int v2)] [] σ r := by
  unfold fn_X6_common at h
  refine qr_aload_n dX6_common_0 rfl 0 rfl ?_
  refine qr_get4 (k := 0) (v := .ref (qm_a E 0)) rfl (by decide) rfl qw_216 dX6_common_1 ?_
  refine qr_iload_n dX6_common_4 rfl 1 rfl ?_
  obtain ⟨r1, er1, h⟩ := qm_bind h
  refine qr_call1 (st1 := [.int (qm_b r1)]) rfl (qr_callV (id := 0) (c := 1) (As := [.int v1]) (st := []) rfl (by decide) rfl (ct_X3_isThere (l := l) (E := E) σ 0 v1 rfl er1) qw_258 qw_2 qw_267 qw_256 qw_257 yd_X3_isThere (by decide) (by decide) rfl (Nat.le_of_ble_eq_true rfl) dX6_common_5) ?_
  refine qr_if_eq (tgt := 22) dX6_common_8 (by decide) (fun c7 => ?_) (fun c7 => ?_)
  · rw [if_pos c7] at h
    refine qr_aload_n dX6_common_22 rfl 0 rfl ?_
    refine qr_bipush (v := (-2)) dX6_common_23 (by decide) ?_
    obtain ⟨r2, er2, h⟩ := qm_bind h
    refine qr_call1 (st1 := [.int r2.1]) rfl (qr_callV (id := 200) (c := 4) (As := [.int (-2)]) (st := []) rfl (by decide) rfl (ct_X6_refuse (l := l) (E := E) σ (-2) er2) qw_266 qw_1 qw_263 qw_265 qs_0 yd_X6_refuse (by decide) (by decide) rfl (Nat.le_of_ble_eq_true rfl) dX6_common_25) ?_
    obtain rfl := Option.some.inj h
    cases hT
    exact qr_iret dX6_common_28
  · rw [if_neg c7] at h
    refine qr_aload_n dX6_common_11 rfl 0 rfl ?_
    refine qr_get4 (k := 0) (v := .ref (qm_a E 0)) rfl (by decide) rfl qw_216 dX6_common_12 ?_
    refine qr_iload_n dX6_common_15 rfl 2 rfl ?_
    obtain ⟨r3, er3, h⟩ := qm_bind h
    refine qr_call1 (st1 := [.int (qm_b r3)]) rfl (qr_callV (id := 0) (c := 1) (As := [.int v2]) (st := []) rfl (by decide) rfl (ct_X3_isThere (l := l) (E := E) σ 0 v2 rfl er3) qw_258 qw_2 qw_267 qw_256 qw_257 yd_X3_isThere (by decide) (by decide) rfl (Nat.le_of_ble_eq_true rfl) dX6_common_16) ?_
    refine qr_if_ne (tgt := 29) dX6_common_19 (by decide) (fun c6 => ?_) (fun c6 => ?_)
    · rw [if_neg c6] at h
      refine qr_aload_n dX6_common_29 rfl 0 rfl ?_
      refine qr_get4 (k := 0) (v := .ref (qm_a E 0)) rfl (by decide) rfl qw_216 dX6_common_30 ?_
      refine qr_iload_n dX6_common_33 rfl 1 rfl ?_
      refine qr_iload_n dX6_common_34 rfl 2 rfl ?_
      obtain ⟨r4, er4, h⟩ := qm_bind h
      refine qr_call1 (st1 := [.int r4]) rfl (qr_callV (id := 0) (c := 1) (As := [.int v1, .int v2]) (st := []) rfl (by decide) rfl (ct_X3_deepestShared (l := l) (E := E) σ 0 v1 v2 rfl er4) qw_407 qw_2 qw_404 qw_405 qw_406 yd_X3_deepestShared (by decide) (by decide) rfl (Nat.le_of_ble_eq_true rfl) dX6_common_35) ?_
      obtain rfl := Option.some.inj h
      cases hT
      exact qr_iret dX6_common_38
    · rw [if_pos c6] at h
      refine qr_aload_n dX6_common_22 rfl 0 rfl ?_
      refine qr_bipush (v := (-2)) dX6_common_23 (by decide) ?_
      obtain ⟨r5, er5, h⟩ := qm_bind h
      refine qr_call1 (st1 := [.int r5.1]) rfl (qr_callV (id := 200) (c := 4) (As := [.int (-2)]) (st := []) rfl (by decide) rfl (ct_X6_refuse (l := l) (E := E) σ (-2) er5) qw_266 qw_1 qw_263 qw_265 qs_0 yd_X6_refuse (by decide) (by decide) rfl (Nat.le_of_ble_eq_true rfl) dX6_common_25) ?_
      obtain rfl := Option.some.inj h
      cases hT
      exact qr_iret dX6_common_28
theorem ct_X6_common {l : Launch} {E : qm_E} (σ : qm_M) (v1 : Int32) (v2 : Int32) {x : Int32 × qm_M} (h : fn_X6_common σ v1 v2 = some x) : qm_Ct l E kd_X6_common yX6_common cX6_common 3 (some .int) [.ref (qm_a E 200), .int v1, .int v2] σ (some (.int x.1), x.2) := qm_ofWp rfl (Nat.le_of_ble_eq_true rfl) (Or.inl rfl) (wf_X6_common σ v1 v2  h rfl)
-- HungStreams.readies (II)I
abbrev kd_X6_readies : Nat := 4
theorem yd_X6_readies : (yX6_readies).cls ≠ "java/lang/invoke/MethodHandle" ∧ (yX6_readies).cls ≠ "java/lang/invoke/VarHandle" ∧ (parseMethodDescriptor (yX6_readies).desc).map (fun d => d.parameters.length) = some 2 := by decide +kernel
def fn_X6_readies (σ : qm_M) (v1 : Int32) (v2 : Int32) : Option (Int32 × qm_M) :=
  (fn_X3_isThere σ 0 v1).bind (fun r1 => if (qm_b r1) = 0 then (fn_X6_refuse σ (-2)).bind (fun r2 => some (r2.1, r2.2)) else (fn_X6_within σ v2 1 9999).bind (fun r3 => if (qm_b r3) = 0 then (fn_X6_refuse σ (-2)).bind (fun r11 => some (r11.1, r11.2)) else if ¬ (v1 < 0 ∨ 13 ≤ v1.toNatClampNeg) then if (σ.1 (0 + 1 + 1 + v1.toNatClampNeg) 6) = 0 then (fn_X6_refuse σ (-3)).bind (fun r5 => some (r5.1, r5.2)) else if ((σ.1 (0 + 1 + 1 + v1.toNatClampNeg) 2) + v2) ≤ 9999 then (fn_X6_leaveState σ ).bind (fun r6 => (some (qm_si r6 (0 + 1 + 1 + v1.toNatClampNeg) 2 ((r6.1 (0 + 1 + 1 + v1.toNatClampNeg) 2) + v2))).bind (fun σ7 => some (σ7.1 (0 + 1 + 1 + v1.toNatClampNeg) 2, σ7))) else (fn_X6_refuse σ (-3)).bind (fun r8 => some (r8.1, r8.2)) else none))
set_option maxRecDepth 20000 in
theorem wf_X6_readies {l : Launch} {E : qm_E} (σ : qm_M) (v1 : Int32) (v2 : Int32) {x : Int32 × qm_M} (h : fn_X6_readies σ v1 v2 = some x) {r : Option Value × qm_M} (hT : (fun x r => (some (.int x.1), x.2) = r) x r) : qm_Wp l E kd_X6_readies "HungStreams" cX6_readies 4 0 [(0, .ref (qm_a E 200)), (1, .int v1), (2, .int v2)] [] σ r := by
  unfold fn_X6_readies at h
  refine qr_aload_n dX6_readies_0 rfl 0 rfl ?_
  refine qr_get4 (k := 0) (v := .ref (qm_a E 0)) rfl (by decide) rfl qw_216 dX6_readies_1 ?_
  refine qr_iload_n dX6_readies_4 rfl 1 rfl ?_
  obtain ⟨r1, er1, h⟩ := qm_bind h
  refine qr_call1 (st1 := [.int (qm_b r1)]) rfl (qr_callV (id := 0) (c := 1) (As := [.int v1]) (st := []) rfl (by decide) rfl (ct_X3_isThere (l := l) (E := E) σ 0 v1 rfl er1) qw_258 qw_2 qw_267 qw_256 qw_257 yd_X3_isThere (by decide) (by decide) rfl (Nat.le_of_ble_eq_true rfl) dX6_readies_5) ?_
  refine qr_if_eq (tgt := 22) dX6_readies_8 (by decide) (fun c13 => ?_) (fun c13 => ?_)
  · rw [if_pos c13] at h
    refine qr_aload_n dX6_readies_22 rfl 0 rfl ?_
    refine qr_bipush (v := (-2)) dX6_readies_23 (by decide) ?_
    obtain ⟨r2, er2, h⟩ := qm_bind h
    refine qr_call1 (st1 := [.int r2.1]) rfl (qr_callV (id := 200) (c := 4) (As := [.int (-2)]) (st := []) rfl (by decide) rfl (ct_X6_refuse (l := l) (E := E) σ (-2) er2) qw_266 qw_1 qw_263 qw_265 qs_0 yd_X6_refuse (by decide) (by decide) rfl (Nat.le_of_ble_eq_true rfl) dX6_readies_25) ?_
    obtain rfl := Option.some.inj h
    cases hT
    exact qr_iret dX6_readies_28
  · rw [if_neg c13] at h
    refine qr_iload_n dX6_readies_11 rfl 2 rfl ?_
    refine qr_iconst (v := 1) dX6_readies_12 (by decide) ?_
    refine qr_sipush (v := 9999) dX6_readies_13 (by decide) ?_
    obtain ⟨r3, er3, h⟩ := qm_bind h
    refine qr_call1 (st1 := [.int (qm_b r3)]) rfl (qr_callS (As := [.int v2, .int 1, .int 9999]) (st := []) (ct_X6_within (l := l) (E := E) σ v2 1 9999 er3) qw_250 qw_1 qw_248 qw_249 yd_X6_within (by decide) (by decide) rfl (Nat.le_of_ble_eq_true rfl) dX6_readies_16) ?_
    refine qr_if_ne (tgt := 29) dX6_readies_19 (by decide) (fun c12 => ?_) (fun c12 => ?_)
    · rw [if_neg c12] at h
      refine qr_aload_n dX6_readies_29 rfl 0 rfl ?_
      refine qr_get4 (k := 0) (v := .ref (qm_a E 0)) rfl (by decide) rfl qw_216 dX6_readies_30 ?_
      refine qr_get1 (k := 0) (v := .ref (qm_a E (0 + 1))) rfl (by decide) rfl qw_110 dX6_readies_33 ?_
      refine qr_iload_n dX6_readies_36 rfl 1 rfl ?_
      obtain ⟨c4, h⟩ := qm_chk h
      refine qr_aalds (qm_k_arr rfl) c4 dX6_readies_37 ?_
      refine qr_astore_n (lv' := [(3, .ref (qm_a E (0 + 1 + 1 + v1.toNatClampNeg))), (0, .ref (qm_a E 200)), (1, .int v1), (2, .int v2)]) dX6_readies_38 rfl (by decide) rfl ?_
      refine qr_aload_n dX6_readies_39 rfl 0 rfl ?_
      refine qr_get0 (k := 6) (v := .int (σ.1 (0 + 1 + 1 + v1.toNatClampNeg) 6)) (qm_k_str (qm_k_arr rfl) c4) (by decide) rfl qw_54 dX6_readies_40 ?_
      refine qr_if_eq (tgt := 58) dX6_readies_43 (by decide) (fun c10 => ?_) (fun c10 => ?_)
      · rw [if_pos c10] at h
        refine qr_aload_n dX6_readies_58 rfl 1 rfl ?_
        refine qr_bipush (v := (-3)) dX6_readies_59 (by decide) ?_
        obtain ⟨r5, er5, h⟩ := qm_bind h
        refine qr_call1 (st1 := [.int r5.1]) rfl (qr_callV (id := 200) (c := 4) (As := [.int (-3)]) (st := []) rfl (by decide) rfl (ct_X6_refuse (l := l) (E := E) σ (-3) er5) qw_266 qw_1 qw_263 qw_265 qs_0 yd_X6_refuse (by decide) (by decide) rfl (Nat.le_of_ble_eq_true rfl) dX6_readies_61) ?_
        obtain rfl := Option.some.inj h
        cases hT
        exact qr_iret dX6_readies_64
      · rw [if_neg c10] at h
        refine qr_aload_n dX6_readies_46 rfl 0 rfl ?_
        refine qr_get0 (k := 2) (v := .int (σ.1 (0 + 1 + 1 + v1.toNatClampNeg) 2)) (qm_k_str (qm_k_arr rfl) c4) (by decide) rfl qw_44 dX6_readies_47 ?_
        refine qr_iload_n dX6_readies_50 rfl 3 rfl ?_
        refine qr_iadd dX6_readies_51 ?_
        refine qr_sipush (v := 9999) dX6_readies_52 (by decide) ?_
        refine qr_icmp_le (tgt := 65) dX6_readies_55 (by decide) (fun c9 => ?_) (fun c9 => ?_)
        · rw [if_pos c9] at h
          refine qr_aload_n dX6_readies_65 rfl 1 rfl ?_
          obtain ⟨r6, er6, h⟩ := qm_bind h
          refine qr_call1 (st1 := []) rfl (qr_callV (id := 200) (c := 4) (As := []) (st := []) rfl (by decide) rfl (ct_X6_leaveState (l := l) (E := E) σ  er6) qw_271 qw_1 qw_268 qw_270 qs_1 yd_X6_leaveState (by decide) (by decide) rfl (Nat.le_of_ble_eq_true rfl) dX6_readies_66) ?_
          refine qr_aload_n dX6_readies_69 rfl 0 rfl ?_
          refine qr_dup dX6_readies_70 rfl ?_
          refine qr_get0 (k := 2) (v := .int (r6.1 (0 + 1 + 1 + v1.toNatClampNeg) 2)) (qm_k_str (qm_k_arr rfl) c4) (by decide) rfl qw_44 dX6_readies_71 ?_
          refine qr_iload_n dX6_readies_74 rfl 3 rfl ?_
          refine qr_iadd dX6_readies_75 ?_
          obtain ⟨σ7, eσ7, h⟩ := qm_bind h
          refine qr_put0_2 (qm_k_str (qm_k_arr rfl) c4) qw_44 dX6_readies_76 (qr_eqm (Option.some.inj eσ7) ?_)
          refine qr_aload_n dX6_readies_79 rfl 0 rfl ?_
          refine qr_get0 (k := 2) (v := .int (σ7.1 (0 + 1 + 1 + v1.toNatClampNeg) 2)) (qm_k_str (qm_k_arr rfl) c4) (by decide) rfl qw_44 dX6_readies_80 ?_
          obtain rfl := Option.some.inj h
          cases hT
          exact qr_iret dX6_readies_83
        · rw [if_neg c9] at h
          refine qr_aload_n dX6_readies_58 rfl 1 rfl ?_
          refine qr_bipush (v := (-3)) dX6_readies_59 (by decide) ?_
          obtain ⟨r8, er8, h⟩ := qm_bind h
          refine qr_call1 (st1 := [.int r8.1]) rfl (qr_callV (id := 200) (c := 4) (As := [.int (-3)]) (st := []) rfl (by decide) rfl (ct_X6_refuse (l := l) (E := E) σ (-3) er8) qw_266 qw_1 qw_263 qw_265 qs_0 yd_X6_refuse (by decide) (by decide) rfl (Nat.le_of_ble_eq_true rfl) dX6_readies_61) ?_
          obtain rfl := Option.some.inj h
          cases hT
          exact qr_iret dX6_readies_64
    · rw [if_pos c12] at h
      refine qr_aload_n dX6_readies_22 rfl 0 rfl ?_
      refine qr_bipush (v := (-2)) dX6_readies_23 (by decide) ?_
      obtain ⟨r11, er11, h⟩ := qm_bind h
      refine qr_call1 (st1 := [.int r11.1]) rfl (qr_callV (id := 200) (c := 4) (As := [.int (-2)]) (st := []) rfl (by decide) rfl (ct_X6_refuse (l := l) (E := E) σ (-2) er11) qw_266 qw_1 qw_263 qw_265 qs_0 yd_X6_refuse (by decide) (by decide) rfl (Nat.le_of_ble_eq_true rfl) dX6_readies_25) ?_
      obtain rfl := Option.some.inj h
      cases hT
      exact qr_iret dX6_readies_28
theorem ct_X6_readies {l : Launch} {E : qm_E} (σ : qm_M) (v1 : Int32) (v2 : Int32) {x : Int32 × qm_M} (h : fn_X6_readies σ v1 v2 = some x) : qm_Ct l E kd_X6_readies yX6_readies cX6_readies 4 (some .int) [.ref (qm_a E 200), .int v1, .int v2] σ (some (.int x.1), x.2) := qm_ofWp rfl (Nat.le_of_ble_eq_true rfl) (Or.inl rfl) (wf_X6_readies σ v1 v2  h rfl)
-- HungStreams.window (II)I
abbrev kd_X6_window : Nat := 4
theorem yd_X6_window : (yX6_window).cls ≠ "java/lang/invoke/MethodHandle" ∧ (yX6_window).cls ≠ "java/lang/invoke/VarHandle" ∧ (parseMethodDescriptor (yX6_window).desc).map (fun d => d.parameters.length) = some 2 := by decide +kernel
def fn_X6_window (σ : qm_M) (v1 : Int32) (v2 : Int32) : Option (Int32 × qm_M) :=
  (fn_X3_isThere σ 0 v1).bind (fun r1 => if (qm_b r1) = 0 then (fn_X6_refuse σ (-2)).bind (fun r2 => some (r2.1, r2.2)) else (fn_X6_within σ v2 0 9999).bind (fun r3 => if (qm_b r3) = 0 then (fn_X6_refuse σ (-2)).bind (fun r9 => some (r9.1, r9.2)) else (fn_X6_leaveState σ ).bind (fun r4 => if ¬ (v1 < 0 ∨ 13 ≤ v1.toNatClampNeg) then (some (r4.1 (0 + 1 + 1 + v1.toNatClampNeg) 3)).bind (fun z6 => if ¬ (v1 < 0 ∨ 13 ≤ v1.toNatClampNeg) then (some (qm_si r4 (0 + 1 + 1 + v1.toNatClampNeg) 3 v2)).bind (fun σ8 => some (z6, σ8)) else none) else none)))
set_option maxRecDepth 20000 in
theorem wf_X6_window {l : Launch} {E : qm_E} (σ : qm_M) (v1 : Int32) (v2 : Int32) {x : Int32 × qm_M} (h : fn_X6_window σ v1 v2 = some x) {r : Option Value × qm_M} (hT : (fun x r => (some (.int x.1), x.2) = r) x r) : qm_Wp l E kd_X6_window "HungStreams" cX6_window 4 0 [(0, .ref (qm_a E 200)), (1, .int v1), (2, .int v2)] [] σ r := by
  unfold fn_X6_window at h
  refine qr_aload_n dX6_window_0 rfl 0 rfl ?_
  refine qr_get4 (k := 0) (v := .ref (qm_a E 0)) rfl (by decide) rfl qw_216 dX6_window_1 ?_
  refine qr_iload_n dX6_window_4 rfl 1 rfl ?_
  obtain ⟨r1, er1, h⟩ := qm_bind h
  refine qr_call1 (st1 := [.int (qm_b r1)]) rfl (qr_callV (id := 0) (c := 1) (As := [.int v1]) (st := []) rfl (by decide) rfl (ct_X3_isThere (l := l) (E := E) σ 0 v1 rfl er1) qw_258 qw_2 qw_267 qw_256 qw_257 yd_X3_isThere (by decide) (by decide) rfl (Nat.le_of_ble_eq_true rfl) dX6_window_5) ?_
  refine qr_if_eq (tgt := 22) dX6_window_8 (by decide) (fun c11 => ?_) (fun c11 => ?_)
  · rw [if_pos c11] at h
    refine qr_aload_n dX6_window_22 rfl 0 rfl ?_
    refine qr_bipush (v := (-2)) dX6_window_23 (by decide) ?_
    obtain ⟨r2, er2, h⟩ := qm_bind h
    refine qr_call1 (st1 := [.int r2.1]) rfl (qr_callV (id := 200) (c := 4) (As := [.int (-2)]) (st := []) rfl (by decide) rfl (ct_X6_refuse (l := l) (E := E) σ (-2) er2) qw_266 qw_1 qw_263 qw_265 qs_0 yd_X6_refuse (by decide) (by decide) rfl (Nat.le_of_ble_eq_true rfl) dX6_window_25) ?_
    obtain rfl := Option.some.inj h
    cases hT
    exact qr_iret dX6_window_28
  · rw [if_neg c11] at h
    refine qr_iload_n dX6_window_11 rfl 2 rfl ?_
    refine qr_iconst (v := 0) dX6_window_12 (by decide) ?_
    refine qr_sipush (v := 9999) dX6_window_13 (by decide) ?_
    obtain ⟨r3, er3, h⟩ := qm_bind h
    refine qr_call1 (st1 := [.int (qm_b r3)]) rfl (qr_callS (As := [.int v2, .int 0, .int 9999]) (st := []) (ct_X6_within (l := l) (E := E) σ v2 0 9999 er3) qw_250 qw_1 qw_248 qw_249 yd_X6_within (by decide) (by decide) rfl (Nat.le_of_ble_eq_true rfl) dX6_window_16) ?_
    refine qr_if_ne (tgt := 29) dX6_window_19 (by decide) (fun c10 => ?_) (fun c10 => ?_)
    · rw [if_neg c10] at h
      refine qr_aload_n dX6_window_29 rfl 0 rfl ?_
      obtain ⟨r4, er4, h⟩ := qm_bind h
      refine qr_call1 (st1 := []) rfl (qr_callV (id := 200) (c := 4) (As := []) (st := []) rfl (by decide) rfl (ct_X6_leaveState (l := l) (E := E) σ  er4) qw_271 qw_1 qw_268 qw_270 qs_1 yd_X6_leaveState (by decide) (by decide) rfl (Nat.le_of_ble_eq_true rfl) dX6_window_30) ?_
      refine qr_aload_n dX6_window_33 rfl 0 rfl ?_
      refine qr_get4 (k := 0) (v := .ref (qm_a E 0)) rfl (by decide) rfl qw_216 dX6_window_34 ?_
      refine qr_get1 (k := 0) (v := .ref (qm_a E (0 + 1))) rfl (by decide) rfl qw_110 dX6_window_37 ?_
      refine qr_iload_n dX6_window_40 rfl 1 rfl ?_
      obtain ⟨c5, h⟩ := qm_chk h
      refine qr_aalds (qm_k_arr rfl) c5 dX6_window_41 ?_
      refine qr_get0 (k := 3) (v := .int (r4.1 (0 + 1 + 1 + v1.toNatClampNeg) 3)) (qm_k_str (qm_k_arr rfl) c5) (by decide) rfl qw_48 dX6_window_42 ?_
      obtain ⟨z6, ez6, h⟩ := qm_bind h
      refine qr_eqi (Option.some.inj ez6) ?_
      refine qr_istore_n (lv' := [(3, .int z6), (0, .ref (qm_a E 200)), (1, .int v1), (2, .int v2)]) dX6_window_45 rfl (by decide) rfl ?_
      refine qr_aload_n dX6_window_46 rfl 1 rfl ?_
      refine qr_get4 (k := 0) (v := .ref (qm_a E 0)) rfl (by decide) rfl qw_216 dX6_window_47 ?_
      refine qr_get1 (k := 0) (v := .ref (qm_a E (0 + 1))) rfl (by decide) rfl qw_110 dX6_window_50 ?_
      refine qr_iload_n dX6_window_53 rfl 2 rfl ?_
      obtain ⟨c7, h⟩ := qm_chk h
      refine qr_aalds (qm_k_arr rfl) c7 dX6_window_54 ?_
      refine qr_iload_n dX6_window_55 rfl 3 rfl ?_
      obtain ⟨σ8, eσ8, h⟩ := qm_bind h
      refine qr_put0_3 (qm_k_str (qm_k_arr rfl) c7) qw_48 dX6_window_56 (qr_eqm (Option.some.inj eσ8) ?_)
      refine qr_iload_n dX6_window_59 rfl 0 rfl ?_
      obtain rfl := Option.some.inj h
      cases hT
      exact qr_iret dX6_window_60
    · rw [if_pos c10] at h
      refine qr_aload_n dX6_window_22 rfl 0 rfl ?_
      refine qr_bipush (v := (-2)) dX6_window_23 (by decide) ?_
      obtain ⟨r9, er9, h⟩ := qm_bind h
      refine qr_call1 (st1 := [.int r9.1]) rfl (qr_callV (id := 200) (c := 4) (As := [.int (-2)]) (st := []) rfl (by decide) rfl (ct_X6_refuse (l := l) (E := E) σ (-2) er9) qw_266 qw_1 qw_263 qw_265 qs_0 yd_X6_refuse (by decide) (by decide) rfl (Nat.le_of_ble_eq_true rfl) dX6_window_25) ?_
      obtain rfl := Option.some.inj h
      cases hT
      exact qr_iret dX6_window_28
theorem ct_X6_window {l : Launch} {E : qm_E} (σ : qm_M) (v1 : Int32) (v2 : Int32) {x : Int32 × qm_M} (h : fn_X6_window σ v1 v2 = some x) : qm_Ct l E kd_X6_window yX6_window cX6_window 4 (some .int) [.ref (qm_a E 200), .int v1, .int v2] σ (some (.int x.1), x.2) := qm_ofWp rfl (Nat.le_of_ble_eq_true rfl) (Or.inl rfl) (wf_X6_window σ v1 v2  h rfl)
-- HungStreams.settings (II)I
abbrev kd_X6_settings : Nat := 7
theorem yd_X6_settings : (yX6_settings).cls ≠ "java/lang/invoke/MethodHandle" ∧ (yX6_settings).cls ≠ "java/lang/invoke/VarHandle" ∧ (parseMethodDescriptor (yX6_settings).desc).map (fun d => d.parameters.length) = some 2 := by decide +kernel
def fn_X6_settings (σ : qm_M) (v1 : Int32) (v2 : Int32) : Option (Int32 × qm_M) :=
  (fn_X6_within σ v1 0 3).bind (fun r1 => if (qm_b r1) = 0 then (fn_X6_refuse σ (-2)).bind (fun r2 => some (r2.1, r2.2)) else if ¬ (v1 < 0 ∨ 4 ≤ v1.toNatClampNeg) then if ¬ (v1 < 0 ∨ 4 ≤ v1.toNatClampNeg) then (fn_X6_within σ v2 (qm_sv 2 v1.toNatClampNeg) (qm_sv 3 v1.toNatClampNeg)).bind (fun r5 => if (qm_b r5) = 0 then (fn_X6_refuse σ (-2)).bind (fun r8 => some (r8.1, r8.2)) else (fn_X6_leaveState σ ).bind (fun r6 => (fn_X3_changeSetting r6 0 v1 v2).bind (fun r7 => some (r7.1, r7.2)))) else none else none)
set_option maxRecDepth 20000 in
theorem wf_X6_settings {l : Launch} {E : qm_E} (σ : qm_M) (v1 : Int32) (v2 : Int32) {x : Int32 × qm_M} (h : fn_X6_settings σ v1 v2 = some x) {r : Option Value × qm_M} (hT : (fun x r => (some (.int x.1), x.2) = r) x r) : qm_Wp l E kd_X6_settings "HungStreams" cX6_settings 3 0 [(0, .ref (qm_a E 200)), (1, .int v1), (2, .int v2)] [] σ r := by
  unfold fn_X6_settings at h
  refine qr_iload_n dX6_settings_0 rfl 1 rfl ?_
  refine qr_iconst (v := 0) dX6_settings_1 (by decide) ?_
  refine qr_iconst (v := 3) dX6_settings_2 (by decide) ?_
  obtain ⟨r1, er1, h⟩ := qm_bind h
  refine qr_call1 (st1 := [.int (qm_b r1)]) rfl (qr_callS (As := [.int v1, .int 0, .int 3]) (st := []) (ct_X6_within (l := l) (E := E) σ v1 0 3 er1) qw_250 qw_1 qw_248 qw_249 yd_X6_within (by decide) (by decide) rfl (Nat.le_of_ble_eq_true rfl) dX6_settings_3) ?_
  refine qr_if_eq (tgt := 26) dX6_settings_6 (by decide) (fun c10 => ?_) (fun c10 => ?_)
  · rw [if_pos c10] at h
    refine qr_aload_n dX6_settings_26 rfl 0 rfl ?_
    refine qr_bipush (v := (-2)) dX6_settings_27 (by decide) ?_
    obtain ⟨r2, er2, h⟩ := qm_bind h
    refine qr_call1 (st1 := [.int r2.1]) rfl (qr_callV (id := 200) (c := 4) (As := [.int (-2)]) (st := []) rfl (by decide) rfl (ct_X6_refuse (l := l) (E := E) σ (-2) er2) qw_266 qw_1 qw_263 qw_265 qs_0 yd_X6_refuse (by decide) (by decide) rfl (Nat.le_of_ble_eq_true rfl) dX6_settings_29) ?_
    obtain rfl := Option.some.inj h
    cases hT
    exact qr_iret dX6_settings_32
  · rw [if_neg c10] at h
    refine qr_iload_n dX6_settings_9 rfl 2 rfl ?_
    refine qr_gets (i := 2) (by decide) rfl qw_420 dX6_settings_10 ?_
    refine qr_iload_n dX6_settings_13 rfl 1 rfl ?_
    obtain ⟨c3, h⟩ := qm_chk h
    refine qr_srd (k := 2) (by decide) c3 dX6_settings_14 ?_
    refine qr_gets (i := 3) (by decide) rfl qw_422 dX6_settings_15 ?_
    refine qr_iload_n dX6_settings_18 rfl 1 rfl ?_
    obtain ⟨c4, h⟩ := qm_chk h
    refine qr_srd (k := 3) (by decide) c4 dX6_settings_19 ?_
    obtain ⟨r5, er5, h⟩ := qm_bind h
    refine qr_call1 (st1 := [.int (qm_b r5)]) rfl (qr_callS (As := [.int v2, .int (qm_sv 2 v1.toNatClampNeg), .int (qm_sv 3 v1.toNatClampNeg)]) (st := []) (ct_X6_within (l := l) (E := E) σ v2 (qm_sv 2 v1.toNatClampNeg) (qm_sv 3 v1.toNatClampNeg) er5) qw_250 qw_1 qw_248 qw_249 yd_X6_within (by decide) (by decide) rfl (Nat.le_of_ble_eq_true rfl) dX6_settings_20) ?_
    refine qr_if_ne (tgt := 33) dX6_settings_23 (by decide) (fun c9 => ?_) (fun c9 => ?_)
    · rw [if_neg c9] at h
      refine qr_aload_n dX6_settings_33 rfl 0 rfl ?_
      obtain ⟨r6, er6, h⟩ := qm_bind h
      refine qr_call1 (st1 := []) rfl (qr_callV (id := 200) (c := 4) (As := []) (st := []) rfl (by decide) rfl (ct_X6_leaveState (l := l) (E := E) σ  er6) qw_271 qw_1 qw_268 qw_270 qs_1 yd_X6_leaveState (by decide) (by decide) rfl (Nat.le_of_ble_eq_true rfl) dX6_settings_34) ?_
      refine qr_aload_n dX6_settings_37 rfl 0 rfl ?_
      refine qr_get4 (k := 0) (v := .ref (qm_a E 0)) rfl (by decide) rfl qw_216 dX6_settings_38 ?_
      refine qr_iload_n dX6_settings_41 rfl 1 rfl ?_
      refine qr_iload_n dX6_settings_42 rfl 2 rfl ?_
      obtain ⟨r7, er7, h⟩ := qm_bind h
      refine qr_call1 (st1 := [.int r7.1]) rfl (qr_callV (id := 0) (c := 1) (As := [.int v1, .int v2]) (st := []) rfl (by decide) rfl (ct_X3_changeSetting (l := l) (E := E) r6 0 v1 v2 rfl er7) qw_427 qw_2 qw_424 qw_425 qw_426 yd_X3_changeSetting (by decide) (by decide) rfl (Nat.le_of_ble_eq_true rfl) dX6_settings_43) ?_
      obtain rfl := Option.some.inj h
      cases hT
      exact qr_iret dX6_settings_46
    · rw [if_pos c9] at h
      refine qr_aload_n dX6_settings_26 rfl 0 rfl ?_
      refine qr_bipush (v := (-2)) dX6_settings_27 (by decide) ?_
      obtain ⟨r8, er8, h⟩ := qm_bind h
      refine qr_call1 (st1 := [.int r8.1]) rfl (qr_callV (id := 200) (c := 4) (As := [.int (-2)]) (st := []) rfl (by decide) rfl (ct_X6_refuse (l := l) (E := E) σ (-2) er8) qw_266 qw_1 qw_263 qw_265 qs_0 yd_X6_refuse (by decide) (by decide) rfl (Nat.le_of_ble_eq_true rfl) dX6_settings_29) ?_
      obtain rfl := Option.some.inj h
      cases hT
      exact qr_iret dX6_settings_32
theorem ct_X6_settings {l : Launch} {E : qm_E} (σ : qm_M) (v1 : Int32) (v2 : Int32) {x : Int32 × qm_M} (h : fn_X6_settings σ v1 v2 = some x) : qm_Ct l E kd_X6_settings yX6_settings cX6_settings 3 (some .int) [.ref (qm_a E 200), .int v1, .int v2] σ (some (.int x.1), x.2) := qm_ofWp rfl (Nat.le_of_ble_eq_true rfl) (Or.inl rfl) (wf_X6_settings σ v1 v2  h rfl)
-- HungStreams.sends (I)I
abbrev kd_X6_sends : Nat := 7
theorem yd_X6_sends : (yX6_sends).cls ≠ "java/lang/invoke/MethodHandle" ∧ (yX6_sends).cls ≠ "java/lang/invoke/VarHandle" ∧ (parseMethodDescriptor (yX6_sends).desc).map (fun d => d.parameters.length) = some 1 := by decide +kernel
abbrev pp_X6_sends_23 (l : Launch) (E : qm_E) (v1 : Int32) : (Int32 × qm_M) → Option Value × qm_M → Prop := fun s r => qm_Wp l E kd_X6_sends "HungStreams" cX6_sends 3 23 [(0, .ref (qm_a E 200)), (1, .int v1), (2, .int s.1)] [] s.2 r
def bb_X6_sends_23 (σ : qm_M) (v1 : Int32) (v2 : Int32) : Option ((Int32 × qm_M) ⊕ (Int32 × qm_M)) :=
  if v1 ≤ v2 then (some (v2, σ)).bind (fun y => some (.inr y)) else (fn_X0_tryOne σ 0).bind (fun r4 => if (qm_b r4.1) = 0 then (some (v2, r4.2)).bind (fun y => some (.inr y)) else (some (v2 + 1)).bind (fun z6 => some (.inl (z6, r4.2))))
set_option maxRecDepth 20000 in
theorem wb_X6_sends_23 {l : Launch} {E : qm_E} (σ : qm_M) (v1 : Int32) (v2 : Int32) {x : (Int32 × qm_M) ⊕ (Int32 × qm_M)} (h : bb_X6_sends_23 σ v1 v2 = some x) {r : Option Value × qm_M} (hT : (qm_T (pp_X6_sends_23 l E v1) (fun x r => (some (.int x.1), x.2) = r)) x r) : qm_Wp l E kd_X6_sends "HungStreams" cX6_sends 3 23 [(0, .ref (qm_a E 200)), (1, .int v1), (2, .int v2)] [] σ r := by
  unfold bb_X6_sends_23 at h
  refine qr_iload_n dX6_sends_23 rfl 2 rfl ?_
  refine qr_iload_n dX6_sends_24 rfl 1 rfl ?_
  refine qr_icmp_ge (tgt := 44) dX6_sends_25 (by decide) (fun c8 => ?_) (fun c8 => ?_)
  · rw [if_pos c8] at h
    obtain ⟨y3, h1, hx⟩ := qm_bind h
    clear h
    cases hx
    have h := h1
    refine qr_iload_n dX6_sends_44 rfl 2 rfl ?_
    obtain rfl := Option.some.inj h
    cases hT
    exact qr_iret dX6_sends_45
  · rw [if_neg c8] at h
    refine qr_aload_n dX6_sends_28 rfl 0 rfl ?_
    refine qr_get4 (k := 0) (v := .ref (qm_a E 0)) rfl (by decide) rfl qw_216 dX6_sends_29 ?_
    obtain ⟨r4, er4, h⟩ := qm_bind h
    refine qr_call1 (st1 := [.int (qm_b r4.1)]) rfl (qr_callS (As := [.ref (qm_a E 0)]) (st := []) (ct_X0_tryOne (l := l) (E := E) σ 0 rfl er4) qw_435 qw_9 qw_433 qw_434 yd_X0_tryOne (by decide) (by decide) rfl (Nat.le_of_ble_eq_true rfl) dX6_sends_32) ?_
    refine qr_if_eq (tgt := 44) dX6_sends_35 (by decide) (fun c7 => ?_) (fun c7 => ?_)
    · rw [if_pos c7] at h
      obtain ⟨y5, h1, hx⟩ := qm_bind h
      clear h
      cases hx
      have h := h1
      refine qr_iload_n dX6_sends_44 rfl 2 rfl ?_
      obtain rfl := Option.some.inj h
      cases hT
      exact qr_iret dX6_sends_45
    · rw [if_neg c7] at h
      obtain ⟨z6, ez6, h⟩ := qm_bind h
      refine qr_iinc (q := 2) (v := z6) (lv' := [(2, .int z6), (0, .ref (qm_a E 200)), (1, .int v1)]) dX6_sends_38 rfl (Option.some.inj ez6) (by decide) rfl ?_
      refine qr_goto (tgt := 23) dX6_sends_41 (by decide) ?_
      obtain rfl := Option.some.inj h
      exact qr_sub [1, 2, 0] rfl hT
def lp_X6_sends_23 (σ : qm_M) (v1 : Int32) (v2 : Int32) : Option (Int32 × qm_M) := qm_loop (fun s : Int32 × qm_M => bb_X6_sends_23 s.2 v1 s.1) 1000 (v2, σ)
theorem wl_X6_sends_23 {l : Launch} {E : qm_E} (σ : qm_M) (v1 : Int32) (v2 : Int32) {x : Int32 × qm_M} (h : lp_X6_sends_23 σ v1 v2 = some x) {r : Option Value × qm_M} (hT : (fun x r => (some (.int x.1), x.2) = r) x r) : qm_Wp l E kd_X6_sends "HungStreams" cX6_sends 3 23 [(0, .ref (qm_a E 200)), (1, .int v1), (2, .int v2)] [] σ r :=
  qm_loop_T (P := pp_X6_sends_23 l E v1) (T1 := (fun x r => (some (.int x.1), x.2) = r)) (fun s x h r hT => wb_X6_sends_23 (l := l) (E := E) s.2 v1 s.1  h hT) h hT
def fn_X6_sends (σ : qm_M) (v1 : Int32) : Option (Int32 × qm_M) :=
  (fn_X6_within σ v1 1 100).bind (fun r1 => if (qm_b r1) = 0 then (fn_X6_refuse σ (-2)).bind (fun r9 => some (r9.1, r9.2)) else (fn_X6_leaveState σ ).bind (fun r2 => lp_X6_sends_23 r2 v1 0))
set_option maxRecDepth 20000 in
theorem wf_X6_sends {l : Launch} {E : qm_E} (σ : qm_M) (v1 : Int32) {x : Int32 × qm_M} (h : fn_X6_sends σ v1 = some x) {r : Option Value × qm_M} (hT : (fun x r => (some (.int x.1), x.2) = r) x r) : qm_Wp l E kd_X6_sends "HungStreams" cX6_sends 3 0 [(0, .ref (qm_a E 200)), (1, .int v1)] [] σ r := by
  unfold fn_X6_sends at h
  refine qr_iload_n dX6_sends_0 rfl 1 rfl ?_
  refine qr_iconst (v := 1) dX6_sends_1 (by decide) ?_
  refine qr_bipush (v := 100) dX6_sends_2 (by decide) ?_
  obtain ⟨r1, er1, h⟩ := qm_bind h
  refine qr_call1 (st1 := [.int (qm_b r1)]) rfl (qr_callS (As := [.int v1, .int 1, .int 100]) (st := []) (ct_X6_within (l := l) (E := E) σ v1 1 100 er1) qw_250 qw_1 qw_248 qw_249 yd_X6_within (by decide) (by decide) rfl (Nat.le_of_ble_eq_true rfl) dX6_sends_4) ?_
  refine qr_if_ne (tgt := 17) dX6_sends_7 (by decide) (fun c10 => ?_) (fun c10 => ?_)
  · rw [if_neg c10] at h
    refine qr_aload_n dX6_sends_17 rfl 0 rfl ?_
    obtain ⟨r2, er2, h⟩ := qm_bind h
    refine qr_call1 (st1 := []) rfl (qr_callV (id := 200) (c := 4) (As := []) (st := []) rfl (by decide) rfl (ct_X6_leaveState (l := l) (E := E) σ  er2) qw_271 qw_1 qw_268 qw_270 qs_1 yd_X6_leaveState (by decide) (by decide) rfl (Nat.le_of_ble_eq_true rfl) dX6_sends_18) ?_
    refine qr_iconst (v := 0) dX6_sends_21 (by decide) ?_
    refine qr_istore_n (lv' := [(2, .int 0), (0, .ref (qm_a E 200)), (1, .int v1)]) dX6_sends_22 rfl (by decide) rfl ?_
    exact qr_sub [1, 2, 0] rfl (wl_X6_sends_23 (l := l) (E := E) r2 v1 0 h hT)
  · rw [if_pos c10] at h
    refine qr_aload_n dX6_sends_10 rfl 0 rfl ?_
    refine qr_bipush (v := (-2)) dX6_sends_11 (by decide) ?_
    obtain ⟨r9, er9, h⟩ := qm_bind h
    refine qr_call1 (st1 := [.int r9.1]) rfl (qr_callV (id := 200) (c := 4) (As := [.int (-2)]) (st := []) rfl (by decide) rfl (ct_X6_refuse (l := l) (E := E) σ (-2) er9) qw_266 qw_1 qw_263 qw_265 qs_0 yd_X6_refuse (by decide) (by decide) rfl (Nat.le_of_ble_eq_true rfl) dX6_sends_13) ?_
    obtain rfl := Option.some.inj h
    cases hT
    exact qr_iret dX6_sends_16
theorem ct_X6_sends {l : Launch} {E : qm_E} (σ : qm_M) (v1 : Int32) {x : Int32 × qm_M} (h : fn_X6_sends σ v1 = some x) : qm_Ct l E kd_X6_sends yX6_sends cX6_sends 3 (some .int) [.ref (qm_a E 200), .int v1] σ (some (.int x.1), x.2) := qm_ofWp rfl (Nat.le_of_ble_eq_true rfl) (Or.inl rfl) (wf_X6_sends σ v1  h rfl)
-- HungStreams.next ()I
abbrev kd_X6_next : Nat := 6
theorem yd_X6_next : (yX6_next).cls ≠ "java/lang/invoke/MethodHandle" ∧ (yX6_next).cls ≠ "java/lang/invoke/VarHandle" ∧ (parseMethodDescriptor (yX6_next).desc).map (fun d => d.parameters.length) = some 0 := by decide +kernel
def fn_X6_next (σ : qm_M)  : Option (Int32) :=
  (fn_X3_canBits σ 0).bind (fun r1 => (fn_X3_liveBits σ 0 r1).bind (fun r2 => (fn_X0_sender σ 0 r1 r2).bind (fun r3 => some r3)))
set_option maxRecDepth 20000 in
theorem wf_X6_next {l : Launch} {E : qm_E} (σ : qm_M)  {x : Int32} (h : fn_X6_next σ  = some x) {r : Option Value × qm_M} (hT : (fun x r => (some (.int x), σ) = r) x r) : qm_Wp l E kd_X6_next "HungStreams" cX6_next 2 0 [(0, .ref (qm_a E 200))] [] σ r := by
  unfold fn_X6_next at h
  refine qr_aload_n dX6_next_0 rfl 0 rfl ?_
  refine qr_get4 (k := 0) (v := .ref (qm_a E 0)) rfl (by decide) rfl qw_216 dX6_next_1 ?_
  obtain ⟨r1, er1, h⟩ := qm_bind h
  refine qr_call1 (st1 := [.int r1]) rfl (qr_callV (id := 0) (c := 1) (As := []) (st := []) rfl (by decide) rfl (ct_X3_canBits (l := l) (E := E) σ 0 rfl er1) qw_377 qw_2 qw_374 qw_375 qw_376 yd_X3_canBits (by decide) (by decide) rfl (Nat.le_of_ble_eq_true rfl) dX6_next_4) ?_
  refine qr_istore_n (lv' := [(1, .int r1), (0, .ref (qm_a E 200))]) dX6_next_7 rfl (by decide) rfl ?_
  refine qr_aload_n dX6_next_8 rfl 1 rfl ?_
  refine qr_get4 (k := 0) (v := .ref (qm_a E 0)) rfl (by decide) rfl qw_216 dX6_next_9 ?_
  refine qr_iload_n dX6_next_12 rfl 0 rfl ?_
  refine qr_aload_n dX6_next_13 rfl 1 rfl ?_
  refine qr_get4 (k := 0) (v := .ref (qm_a E 0)) rfl (by decide) rfl qw_216 dX6_next_14 ?_
  refine qr_iload_n dX6_next_17 rfl 0 rfl ?_
  obtain ⟨r2, er2, h⟩ := qm_bind h
  refine qr_call1 (st1 := [.int r2, .int r1, .ref (qm_a E 0)]) rfl (qr_callV (id := 0) (c := 1) (As := [.int r1]) (st := [.int r1, .ref (qm_a E 0)]) rfl (by decide) rfl (ct_X3_liveBits (l := l) (E := E) σ 0 r1 rfl er2) qw_382 qw_2 qw_379 qw_380 qw_381 yd_X3_liveBits (by decide) (by decide) rfl (Nat.le_of_ble_eq_true rfl) dX6_next_18) ?_
  obtain ⟨r3, er3, h⟩ := qm_bind h
  refine qr_call1 (st1 := [.int r3]) rfl (qr_callS (As := [.ref (qm_a E 0), .int r1, .int r2]) (st := []) (ct_X0_sender (l := l) (E := E) σ 0 r1 r2 rfl er3) qw_448 qw_9 qw_490 qw_447 yd_X0_sender (by decide) (by decide) rfl (Nat.le_of_ble_eq_true rfl) dX6_next_21) ?_
  obtain rfl := Option.some.inj h
  cases hT
  exact qr_iret dX6_next_24
theorem ct_X6_next {l : Launch} {E : qm_E} (σ : qm_M)  {x : Int32} (h : fn_X6_next σ  = some x) : qm_Ct l E kd_X6_next yX6_next cX6_next 2 (some .int) [.ref (qm_a E 200)] σ (some (.int x), σ) := qm_ofWp rfl (Nat.le_of_ble_eq_true rfl) (Or.inl rfl) (wf_X6_next σ   h rfl)
-- HungStreams.share (II)J
abbrev kd_X6_share : Nat := 5
theorem yd_X6_share : (yX6_share).cls ≠ "java/lang/invoke/MethodHandle" ∧ (yX6_share).cls ≠ "java/lang/invoke/VarHandle" ∧ (parseMethodDescriptor (yX6_share).desc).map (fun d => d.parameters.length) = some 2 := by decide +kernel
def fn_X6_share (σ : qm_M) (v1 : Int32) (v2 : Int32) : Option (Int64 × qm_M) :=
  (fn_X3_isThere σ 0 v1).bind (fun r1 => if (qm_b r1) = 0 then (fn_X6_refuse σ (-2)).bind (fun r2 => some (r2.1.toInt64, r2.2)) else (fn_X6_within σ v2 0 1).bind (fun r3 => if (qm_b r3) = 0 then (fn_X6_refuse σ (-2)).bind (fun r7 => some (r7.1.toInt64, r7.2)) else if v2 = 0 then (fn_X1_term σ 0 v1 1).bind (fun r5 => some (r5, σ)) else (fn_X1_term σ 0 v1 0).bind (fun r4 => some (r4, σ))))
set_option maxRecDepth 20000 in
theorem wf_X6_share {l : Launch} {E : qm_E} (σ : qm_M) (v1 : Int32) (v2 : Int32) {x : Int64 × qm_M} (h : fn_X6_share σ v1 v2 = some x) {r : Option Value × qm_M} (hT : (fun x r => (some (.long x.1), x.2) = r) x r) : qm_Wp l E kd_X6_share "HungStreams" cX6_share 3 0 [(0, .ref (qm_a E 200)), (1, .int v1), (2, .int v2)] [] σ r := by
  unfold fn_X6_share at h
  refine qr_aload_n dX6_share_0 rfl 0 rfl ?_
  refine qr_get4 (k := 0) (v := .ref (qm_a E 0)) rfl (by decide) rfl qw_216 dX6_share_1 ?_
  refine qr_iload_n dX6_share_4 rfl 1 rfl ?_
  obtain ⟨r1, er1, h⟩ := qm_bind h
  refine qr_call1 (st1 := [.int (qm_b r1)]) rfl (qr_callV (id := 0) (c := 1) (As := [.int v1]) (st := []) rfl (by decide) rfl (ct_X3_isThere (l := l) (E := E) σ 0 v1 rfl er1) qw_258 qw_2 qw_267 qw_256 qw_257 yd_X3_isThere (by decide) (by decide) rfl (Nat.le_of_ble_eq_true rfl) dX6_share_5) ?_
  refine qr_if_eq (tgt := 20) dX6_share_8 (by decide) (fun c9 => ?_) (fun c9 => ?_)
  · rw [if_pos c9] at h
    refine qr_aload_n dX6_share_20 rfl 0 rfl ?_
    refine qr_bipush (v := (-2)) dX6_share_21 (by decide) ?_
    obtain ⟨r2, er2, h⟩ := qm_bind h
    refine qr_call1 (st1 := [.int r2.1]) rfl (qr_callV (id := 200) (c := 4) (As := [.int (-2)]) (st := []) rfl (by decide) rfl (ct_X6_refuse (l := l) (E := E) σ (-2) er2) qw_266 qw_1 qw_263 qw_265 qs_0 yd_X6_refuse (by decide) (by decide) rfl (Nat.le_of_ble_eq_true rfl) dX6_share_23) ?_
    refine qr_i2l dX6_share_26 ?_
    obtain rfl := Option.some.inj h
    cases hT
    exact qr_lret dX6_share_27
  · rw [if_neg c9] at h
    refine qr_iload_n dX6_share_11 rfl 2 rfl ?_
    refine qr_iconst (v := 0) dX6_share_12 (by decide) ?_
    refine qr_iconst (v := 1) dX6_share_13 (by decide) ?_
    obtain ⟨r3, er3, h⟩ := qm_bind h
    refine qr_call1 (st1 := [.int (qm_b r3)]) rfl (qr_callS (As := [.int v2, .int 0, .int 1]) (st := []) (ct_X6_within (l := l) (E := E) σ v2 0 1 er3) qw_250 qw_1 qw_248 qw_249 yd_X6_within (by decide) (by decide) rfl (Nat.le_of_ble_eq_true rfl) dX6_share_14) ?_
    refine qr_if_ne (tgt := 28) dX6_share_17 (by decide) (fun c8 => ?_) (fun c8 => ?_)
    · rw [if_neg c8] at h
      refine qr_aload_n dX6_share_28 rfl 0 rfl ?_
      refine qr_get4 (k := 0) (v := .ref (qm_a E 0)) rfl (by decide) rfl qw_216 dX6_share_29 ?_
      refine qr_iload_n dX6_share_32 rfl 1 rfl ?_
      refine qr_iload_n dX6_share_33 rfl 2 rfl ?_
      refine qr_if_ne (tgt := 41) dX6_share_34 (by decide) (fun c6 => ?_) (fun c6 => ?_)
      · rw [if_neg c6] at h
        refine qr_iconst (v := 0) dX6_share_41 (by decide) ?_
        obtain ⟨r4, er4, h⟩ := qm_bind h
        refine qr_call1 (st1 := [.long r4]) rfl (qr_callS (As := [.ref (qm_a E 0), .int v1, .int 0]) (st := []) (ct_X1_term (l := l) (E := E) σ 0 v1 0 rfl er4) qw_497 qw_10 qw_495 qw_496 yd_X1_term (by decide) (by decide) rfl (Nat.le_of_ble_eq_true rfl) dX6_share_42) ?_
        obtain rfl := Option.some.inj h
        cases hT
        exact qr_lret dX6_share_45
      · rw [if_pos c6] at h
        refine qr_iconst (v := 1) dX6_share_37 (by decide) ?_
        refine qr_goto (tgt := 42) dX6_share_38 (by decide) ?_
        obtain ⟨r5, er5, h⟩ := qm_bind h
        refine qr_call1 (st1 := [.long r5]) rfl (qr_callS (As := [.ref (qm_a E 0), .int v1, .int 1]) (st := []) (ct_X1_term (l := l) (E := E) σ 0 v1 1 rfl er5) qw_497 qw_10 qw_495 qw_496 yd_X1_term (by decide) (by decide) rfl (Nat.le_of_ble_eq_true rfl) dX6_share_42) ?_
        obtain rfl := Option.some.inj h
        cases hT
        exact qr_lret dX6_share_45
    · rw [if_pos c8] at h
      refine qr_aload_n dX6_share_20 rfl 0 rfl ?_
      refine qr_bipush (v := (-2)) dX6_share_21 (by decide) ?_
      obtain ⟨r7, er7, h⟩ := qm_bind h
      refine qr_call1 (st1 := [.int r7.1]) rfl (qr_callV (id := 200) (c := 4) (As := [.int (-2)]) (st := []) rfl (by decide) rfl (ct_X6_refuse (l := l) (E := E) σ (-2) er7) qw_266 qw_1 qw_263 qw_265 qs_0 yd_X6_refuse (by decide) (by decide) rfl (Nat.le_of_ble_eq_true rfl) dX6_share_23) ?_
      refine qr_i2l dX6_share_26 ?_
      obtain rfl := Option.some.inj h
      cases hT
      exact qr_lret dX6_share_27
theorem ct_X6_share {l : Launch} {E : qm_E} (σ : qm_M) (v1 : Int32) (v2 : Int32) {x : Int64 × qm_M} (h : fn_X6_share σ v1 v2 = some x) : qm_Ct l E kd_X6_share yX6_share cX6_share 3 (some .long) [.ref (qm_a E 200), .int v1, .int v2] σ (some (.long x.1), x.2) := qm_ofWp rfl (Nat.le_of_ble_eq_true rfl) (rfl) (wf_X6_share σ v1 v2  h rfl)
-- HungStreams.all (I)I
abbrev kd_X6_all : Nat := 3
theorem yd_X6_all : (yX6_all).cls ≠ "java/lang/invoke/MethodHandle" ∧ (yX6_all).cls ≠ "java/lang/invoke/VarHandle" ∧ (parseMethodDescriptor (yX6_all).desc).map (fun d => d.parameters.length) = some 1 := by decide +kernel
def fn_X6_all (σ : qm_M) (v1 : Int32) : Option (Int32 × qm_M) :=
  if v1 = 0 then some (σ.1 0 1, σ) else if v1 = 1 then (fn_X3_canBits σ 0).bind (fun r2 => some (r2, σ)) else if v1 = 2 then (fn_X3_canBits σ 0).bind (fun r4 => (fn_X3_liveBits σ 0 r4).bind (fun r5 => some (r5, σ))) else if v1 = 3 then (fn_X3_sentTogether σ 0).bind (fun r7 => some (r7, σ)) else if v1 = 4 then (fn_X3_greatestLongest σ 0).bind (fun r9 => some (r9, σ)) else if v1 = 5 then some (σ.1 0 8, σ) else if v1 = 6 then some (σ.1 0 9, σ) else (fn_X6_refuse σ (-2)).bind (fun r13 => some (r13.1, r13.2))
set_option maxRecDepth 20000 in
theorem wf_X6_all {l : Launch} {E : qm_E} (σ : qm_M) (v1 : Int32) {x : Int32 × qm_M} (h : fn_X6_all σ v1 = some x) {r : Option Value × qm_M} (hT : (fun x r => (some (.int x.1), x.2) = r) x r) : qm_Wp l E kd_X6_all "HungStreams" cX6_all 2 0 [(0, .ref (qm_a E 200)), (1, .int v1)] [] σ r := by
  unfold fn_X6_all at h
  refine qr_iload_n dX6_all_0 rfl 1 rfl ?_
  by_cases c1 : v1 = 0
  · rw [if_pos c1] at h
    have tc1 : (v1).toInt = 0 := by rw [c1]; rfl
    refine qr_tableIn (tgt := 44) dX6_all_1 (by omega) (by omega) (by rw [tc1]; rfl) (by decide) ?_
    refine qr_aload_n dX6_all_44 rfl 0 rfl ?_
    refine qr_get4 (k := 0) (v := .ref (qm_a E 0)) rfl (by decide) rfl qw_216 dX6_all_45 ?_
    refine qr_get1 (k := 1) (v := .int (σ.1 0 1)) rfl (by decide) rfl qw_112 dX6_all_48 ?_
    obtain rfl := Option.some.inj h
    cases hT
    exact qr_iret dX6_all_51
  rw [if_neg c1] at h
  by_cases c3 : v1 = 1
  · rw [if_pos c3] at h
    have tc3 : (v1).toInt = 1 := by rw [c3]; rfl
    refine qr_tableIn (tgt := 52) dX6_all_1 (by omega) (by omega) (by rw [tc3]; rfl) (by decide) ?_
    refine qr_aload_n dX6_all_52 rfl 0 rfl ?_
    refine qr_get4 (k := 0) (v := .ref (qm_a E 0)) rfl (by decide) rfl qw_216 dX6_all_53 ?_
    obtain ⟨r2, er2, h⟩ := qm_bind h
    refine qr_call1 (st1 := [.int r2]) rfl (qr_callV (id := 0) (c := 1) (As := []) (st := []) rfl (by decide) rfl (ct_X3_canBits (l := l) (E := E) σ 0 rfl er2) qw_377 qw_2 qw_374 qw_375 qw_376 yd_X3_canBits (by decide) (by decide) rfl (Nat.le_of_ble_eq_true rfl) dX6_all_56) ?_
    obtain rfl := Option.some.inj h
    cases hT
    exact qr_iret dX6_all_59
  rw [if_neg c3] at h
  by_cases c6 : v1 = 2
  · rw [if_pos c6] at h
    have tc6 : (v1).toInt = 2 := by rw [c6]; rfl
    refine qr_tableIn (tgt := 60) dX6_all_1 (by omega) (by omega) (by rw [tc6]; rfl) (by decide) ?_
    refine qr_aload_n dX6_all_60 rfl 0 rfl ?_
    refine qr_get4 (k := 0) (v := .ref (qm_a E 0)) rfl (by decide) rfl qw_216 dX6_all_61 ?_
    refine qr_aload_n dX6_all_64 rfl 0 rfl ?_
    refine qr_get4 (k := 0) (v := .ref (qm_a E 0)) rfl (by decide) rfl qw_216 dX6_all_65 ?_
    obtain ⟨r4, er4, h⟩ := qm_bind h
    refine qr_call1 (st1 := [.int r4, .ref (qm_a E 0)]) rfl (qr_callV (id := 0) (c := 1) (As := []) (st := [.ref (qm_a E 0)]) rfl (by decide) rfl (ct_X3_canBits (l := l) (E := E) σ 0 rfl er4) qw_377 qw_2 qw_374 qw_375 qw_376 yd_X3_canBits (by decide) (by decide) rfl (Nat.le_of_ble_eq_true rfl) dX6_all_68) ?_
    obtain ⟨r5, er5, h⟩ := qm_bind h
    refine qr_call1 (st1 := [.int r5]) rfl (qr_callV (id := 0) (c := 1) (As := [.int r4]) (st := []) rfl (by decide) rfl (ct_X3_liveBits (l := l) (E := E) σ 0 r4 rfl er5) qw_382 qw_2 qw_379 qw_380 qw_381 yd_X3_liveBits (by decide) (by decide) rfl (Nat.le_of_ble_eq_true rfl) dX6_all_71) ?_
    obtain rfl := Option.some.inj h
    cases hT
    exact qr_iret dX6_all_74
  rw [if_neg c6] at h
  by_cases c8 : v1 = 3
  · rw [if_pos c8] at h
    have tc8 : (v1).toInt = 3 := by rw [c8]; rfl
    refine qr_tableIn (tgt := 75) dX6_all_1 (by omega) (by omega) (by rw [tc8]; rfl) (by decide) ?_
    refine qr_aload_n dX6_all_75 rfl 0 rfl ?_
    refine qr_get4 (k := 0) (v := .ref (qm_a E 0)) rfl (by decide) rfl qw_216 dX6_all_76 ?_
    obtain ⟨r7, er7, h⟩ := qm_bind h
    refine qr_call1 (st1 := [.int r7]) rfl (qr_callV (id := 0) (c := 1) (As := []) (st := []) rfl (by decide) rfl (ct_X3_sentTogether (l := l) (E := E) σ 0 rfl er7) qw_514 qw_2 qw_511 qw_512 qw_513 yd_X3_sentTogether (by decide) (by decide) rfl (Nat.le_of_ble_eq_true rfl) dX6_all_79) ?_
    obtain rfl := Option.some.inj h
    cases hT
    exact qr_iret dX6_all_82
  rw [if_neg c8] at h
  by_cases c10 : v1 = 4
  · rw [if_pos c10] at h
    have tc10 : (v1).toInt = 4 := by rw [c10]; rfl
    refine qr_tableIn (tgt := 83) dX6_all_1 (by omega) (by omega) (by rw [tc10]; rfl) (by decide) ?_
    refine qr_aload_n dX6_all_83 rfl 0 rfl ?_
    refine qr_get4 (k := 0) (v := .ref (qm_a E 0)) rfl (by decide) rfl qw_216 dX6_all_84 ?_
    obtain ⟨r9, er9, h⟩ := qm_bind h
    refine qr_call1 (st1 := [.int r9]) rfl (qr_callV (id := 0) (c := 1) (As := []) (st := []) rfl (by decide) rfl (ct_X3_greatestLongest (l := l) (E := E) σ 0 rfl er9) qw_518 qw_2 qw_515 qw_516 qw_517 yd_X3_greatestLongest (by decide) (by decide) rfl (Nat.le_of_ble_eq_true rfl) dX6_all_87) ?_
    obtain rfl := Option.some.inj h
    cases hT
    exact qr_iret dX6_all_90
  rw [if_neg c10] at h
  by_cases c11 : v1 = 5
  · rw [if_pos c11] at h
    have tc11 : (v1).toInt = 5 := by rw [c11]; rfl
    refine qr_tableIn (tgt := 91) dX6_all_1 (by omega) (by omega) (by rw [tc11]; rfl) (by decide) ?_
    refine qr_aload_n dX6_all_91 rfl 0 rfl ?_
    refine qr_get4 (k := 0) (v := .ref (qm_a E 0)) rfl (by decide) rfl qw_216 dX6_all_92 ?_
    refine qr_get1 (k := 8) (v := .int (σ.1 0 8)) rfl (by decide) rfl qw_132 dX6_all_95 ?_
    obtain rfl := Option.some.inj h
    cases hT
    exact qr_iret dX6_all_98
  rw [if_neg c11] at h
  by_cases c12 : v1 = 6
  · rw [if_pos c12] at h
    have tc12 : (v1).toInt = 6 := by rw [c12]; rfl
    refine qr_tableIn (tgt := 99) dX6_all_1 (by omega) (by omega) (by rw [tc12]; rfl) (by decide) ?_
    refine qr_aload_n dX6_all_99 rfl 0 rfl ?_
    refine qr_get4 (k := 0) (v := .ref (qm_a E 0)) rfl (by decide) rfl qw_216 dX6_all_100 ?_
    refine qr_get1 (k := 9) (v := .int (σ.1 0 9)) rfl (by decide) rfl qw_135 dX6_all_103 ?_
    obtain rfl := Option.some.inj h
    cases hT
    exact qr_iret dX6_all_106
  rw [if_neg c12] at h
  have nc1 := lv_neT c1 (show (0 : Int32).toInt = 0 from rfl)
  have nc3 := lv_neT c3 (show (1 : Int32).toInt = 1 from rfl)
  have nc6 := lv_neT c6 (show (2 : Int32).toInt = 2 from rfl)
  have nc8 := lv_neT c8 (show (3 : Int32).toInt = 3 from rfl)
  have nc10 := lv_neT c10 (show (4 : Int32).toInt = 4 from rfl)
  have nc11 := lv_neT c11 (show (5 : Int32).toInt = 5 from rfl)
  have nc12 := lv_neT c12 (show (6 : Int32).toInt = 6 from rfl)
  refine qr_tableOut (tgt := 107) dX6_all_1 (by omega) (by decide) ?_
  refine qr_aload_n dX6_all_107 rfl 0 rfl ?_
  refine qr_bipush (v := (-2)) dX6_all_108 (by decide) ?_
  obtain ⟨r13, er13, h⟩ := qm_bind h
  refine qr_call1 (st1 := [.int r13.1]) rfl (qr_callV (id := 200) (c := 4) (As := [.int (-2)]) (st := []) rfl (by decide) rfl (ct_X6_refuse (l := l) (E := E) σ (-2) er13) qw_266 qw_1 qw_263 qw_265 qs_0 yd_X6_refuse (by decide) (by decide) rfl (Nat.le_of_ble_eq_true rfl) dX6_all_110) ?_
  obtain rfl := Option.some.inj h
  cases hT
  exact qr_iret dX6_all_113
theorem ct_X6_all {l : Launch} {E : qm_E} (σ : qm_M) (v1 : Int32) {x : Int32 × qm_M} (h : fn_X6_all σ v1 = some x) : qm_Ct l E kd_X6_all yX6_all cX6_all 2 (some .int) [.ref (qm_a E 200), .int v1] σ (some (.int x.1), x.2) := qm_ofWp rfl (Nat.le_of_ble_eq_true rfl) (Or.inl rfl) (wf_X6_all σ v1  h rfl)
-- HungStreams.type (I)I
abbrev kd_X6_type : Nat := 2
theorem yd_X6_type : (yX6_type).cls ≠ "java/lang/invoke/MethodHandle" ∧ (yX6_type).cls ≠ "java/lang/invoke/VarHandle" ∧ (parseMethodDescriptor (yX6_type).desc).map (fun d => d.parameters.length) = some 1 := by decide +kernel
def fn_X6_type (σ : qm_M) (v1 : Int32) : Option (Int32 × qm_M) :=
  (fn_X6_within σ v1 0 127).bind (fun r1 => if (qm_b r1) = 0 then (fn_X6_refuse σ (-2)).bind (fun r5 => some (r5.1, r5.2)) else if (σ.1 202 1) < 120 then (fn_X5_append σ v1).bind (fun r2 => some (r2.1 202 1, r2)) else (fn_X6_refuse σ (-4)).bind (fun r3 => some (r3.1, r3.2)))
set_option maxRecDepth 20000 in
theorem wf_X6_type {l : Launch} {E : qm_E} (σ : qm_M) (v1 : Int32) {x : Int32 × qm_M} (h : fn_X6_type σ v1 = some x) {r : Option Value × qm_M} (hT : (fun x r => (some (.int x.1), x.2) = r) x r) : qm_Wp l E kd_X6_type "HungStreams" cX6_type 2 0 [(0, .ref (qm_a E 200)), (1, .int v1)] [] σ r := by
  unfold fn_X6_type at h
  refine qr_iload_n dX6_type_0 rfl 1 rfl ?_
  refine qr_iconst (v := 0) dX6_type_1 (by decide) ?_
  refine qr_bipush (v := 127) dX6_type_2 (by decide) ?_
  obtain ⟨r1, er1, h⟩ := qm_bind h
  refine qr_call1 (st1 := [.int (qm_b r1)]) rfl (qr_callS (As := [.int v1, .int 0, .int 127]) (st := []) (ct_X6_within (l := l) (E := E) σ v1 0 127 er1) qw_250 qw_1 qw_248 qw_249 yd_X6_within (by decide) (by decide) rfl (Nat.le_of_ble_eq_true rfl) dX6_type_4) ?_
  refine qr_if_ne (tgt := 17) dX6_type_7 (by decide) (fun c6 => ?_) (fun c6 => ?_)
  · rw [if_neg c6] at h
    refine qr_aload_n dX6_type_17 rfl 0 rfl ?_
    refine qr_get4 (k := 4) (v := .ref (qm_a E 202)) rfl (by decide) rfl qw_220 dX6_type_18 ?_
    refine qr_get3 (k := 1) (v := .int (σ.1 202 1)) rfl (by decide) rfl qw_166 dX6_type_21 ?_
    refine qr_bipush (v := 120) dX6_type_24 (by decide) ?_
    refine qr_icmp_lt (tgt := 36) dX6_type_26 (by decide) (fun c4 => ?_) (fun c4 => ?_)
    · rw [if_pos c4] at h
      refine qr_aload_n dX6_type_36 rfl 0 rfl ?_
      refine qr_get4 (k := 4) (v := .ref (qm_a E 202)) rfl (by decide) rfl qw_220 dX6_type_37 ?_
      refine qr_iload_n dX6_type_40 rfl 1 rfl ?_
      obtain ⟨r2, er2, h⟩ := qm_bind h
      refine qr_call1 (st1 := []) rfl (qr_callV (id := 202) (c := 3) (As := [.int v1]) (st := []) rfl (by decide) rfl (ct_X5_append (l := l) (E := E) σ v1 er2) qw_527 qw_4 qw_524 qw_525 qw_526 yd_X5_append (by decide) (by decide) rfl (Nat.le_of_ble_eq_true rfl) dX6_type_41) ?_
      refine qr_aload_n dX6_type_44 rfl 0 rfl ?_
      refine qr_get4 (k := 4) (v := .ref (qm_a E 202)) rfl (by decide) rfl qw_220 dX6_type_45 ?_
      refine qr_get3 (k := 1) (v := .int (r2.1 202 1)) rfl (by decide) rfl qw_166 dX6_type_48 ?_
      obtain rfl := Option.some.inj h
      cases hT
      exact qr_iret dX6_type_51
    · rw [if_neg c4] at h
      refine qr_aload_n dX6_type_29 rfl 0 rfl ?_
      refine qr_bipush (v := (-4)) dX6_type_30 (by decide) ?_
      obtain ⟨r3, er3, h⟩ := qm_bind h
      refine qr_call1 (st1 := [.int r3.1]) rfl (qr_callV (id := 200) (c := 4) (As := [.int (-4)]) (st := []) rfl (by decide) rfl (ct_X6_refuse (l := l) (E := E) σ (-4) er3) qw_266 qw_1 qw_263 qw_265 qs_0 yd_X6_refuse (by decide) (by decide) rfl (Nat.le_of_ble_eq_true rfl) dX6_type_32) ?_
      obtain rfl := Option.some.inj h
      cases hT
      exact qr_iret dX6_type_35
  · rw [if_pos c6] at h
    refine qr_aload_n dX6_type_10 rfl 0 rfl ?_
    refine qr_bipush (v := (-2)) dX6_type_11 (by decide) ?_
    obtain ⟨r5, er5, h⟩ := qm_bind h
    refine qr_call1 (st1 := [.int r5.1]) rfl (qr_callV (id := 200) (c := 4) (As := [.int (-2)]) (st := []) rfl (by decide) rfl (ct_X6_refuse (l := l) (E := E) σ (-2) er5) qw_266 qw_1 qw_263 qw_265 qs_0 yd_X6_refuse (by decide) (by decide) rfl (Nat.le_of_ble_eq_true rfl) dX6_type_13) ?_
    obtain rfl := Option.some.inj h
    cases hT
    exact qr_iret dX6_type_16
theorem ct_X6_type {l : Launch} {E : qm_E} (σ : qm_M) (v1 : Int32) {x : Int32 × qm_M} (h : fn_X6_type σ v1 = some x) : qm_Ct l E kd_X6_type yX6_type cX6_type 2 (some .int) [.ref (qm_a E 200), .int v1] σ (some (.int x.1), x.2) := qm_ofWp rfl (Nat.le_of_ble_eq_true rfl) (Or.inl rfl) (wf_X6_type σ v1  h rfl)
-- HungStreams.clear ()I
abbrev kd_X6_clear : Nat := 1
theorem yd_X6_clear : (yX6_clear).cls ≠ "java/lang/invoke/MethodHandle" ∧ (yX6_clear).cls ≠ "java/lang/invoke/VarHandle" ∧ (parseMethodDescriptor (yX6_clear).desc).map (fun d => d.parameters.length) = some 0 := by decide +kernel
def fn_X6_clear (σ : qm_M)  : Option (Int32 × qm_M) :=
  (some (σ.1 202 1)).bind (fun z1 => (some (qm_si σ 202 1 0)).bind (fun σ2 => some (z1, σ2)))
set_option maxRecDepth 20000 in
theorem wf_X6_clear {l : Launch} {E : qm_E} (σ : qm_M)  {x : Int32 × qm_M} (h : fn_X6_clear σ  = some x) {r : Option Value × qm_M} (hT : (fun x r => (some (.int x.1), x.2) = r) x r) : qm_Wp l E kd_X6_clear "HungStreams" cX6_clear 2 0 [(0, .ref (qm_a E 200))] [] σ r := by
  unfold fn_X6_clear at h
  refine qr_aload_n dX6_clear_0 rfl 0 rfl ?_
  refine qr_get4 (k := 4) (v := .ref (qm_a E 202)) rfl (by decide) rfl qw_220 dX6_clear_1 ?_
  refine qr_get3 (k := 1) (v := .int (σ.1 202 1)) rfl (by decide) rfl qw_166 dX6_clear_4 ?_
  obtain ⟨z1, ez1, h⟩ := qm_bind h
  refine qr_eqi (Option.some.inj ez1) ?_
  refine qr_istore_n (lv' := [(1, .int z1), (0, .ref (qm_a E 200))]) dX6_clear_7 rfl (by decide) rfl ?_
  refine qr_aload_n dX6_clear_8 rfl 1 rfl ?_
  refine qr_get4 (k := 4) (v := .ref (qm_a E 202)) rfl (by decide) rfl qw_220 dX6_clear_9 ?_
  refine qr_iconst (v := 0) dX6_clear_12 (by decide) ?_
  obtain ⟨σ2, eσ2, h⟩ := qm_bind h
  refine qr_put3_1 rfl qw_166 dX6_clear_13 (qr_eqm (Option.some.inj eσ2) ?_)
  refine qr_iload_n dX6_clear_16 rfl 0 rfl ?_
  obtain rfl := Option.some.inj h
  cases hT
  exact qr_iret dX6_clear_17
theorem ct_X6_clear {l : Launch} {E : qm_E} (σ : qm_M)  {x : Int32 × qm_M} (h : fn_X6_clear σ  = some x) : qm_Ct l E kd_X6_clear yX6_clear cX6_clear 2 (some .int) [.ref (qm_a E 200)] σ (some (.int x.1), x.2) := qm_ofWp rfl (Nat.le_of_ble_eq_true rfl) (Or.inl rfl) (wf_X6_clear σ   h rfl)
-- HungStreams.builds ()I
abbrev kd_X6_builds : Nat := 6
theorem yd_X6_builds : (yX6_builds).cls ≠ "java/lang/invoke/MethodHandle" ∧ (yX6_builds).cls ≠ "java/lang/invoke/VarHandle" ∧ (parseMethodDescriptor (yX6_builds).desc).map (fun d => d.parameters.length) = some 0 := by decide +kernel
abbrev pp_X6_builds_31 (l : Launch) (E : qm_E) : (Int32 × qm_M) → Option Value × qm_M → Prop := fun s r => qm_Wp l E kd_X6_builds "HungStreams" cX6_builds 3 31 [(0, .ref (qm_a E 200)), (2, .int s.1)] [] s.2 r
def bb_X6_builds_31 (σ : qm_M) (v2 : Int32) : Option ((Int32 × qm_M) ⊕ (Int32 × qm_M)) :=
  if (σ.1 202 5) ≤ v2 then (some (σ.1 202 5, σ)).bind (fun y => some (.inr y)) else if ¬ (v2 < 0 ∨ 12 ≤ v2.toNatClampNeg) then if ¬ (v2 < 0 ∨ 12 ≤ v2.toNatClampNeg) then (fn_X3_enter σ 0 (σ.1 204 v2.toNatClampNeg) (σ.1 205 v2.toNatClampNeg)).bind (fun r7 => if ¬ (v2 < 0 ∨ 12 ≤ v2.toNatClampNeg) then if ¬ (v2 < 0 ∨ 12 ≤ v2.toNatClampNeg) then (fn_X3_hang r7 0 (r7.1 204 v2.toNatClampNeg) (r7.1 206 v2.toNatClampNeg)).bind (fun r10 => (some (v2 + 1)).bind (fun z11 => some (.inl (z11, r10)))) else none else none) else none else none
set_option maxRecDepth 20000 in
theorem wb_X6_builds_31 {l : Launch} {E : qm_E} (σ : qm_M) (v2 : Int32) {x : (Int32 × qm_M) ⊕ (Int32 × qm_M)} (h : bb_X6_builds_31 σ v2 = some x) {r : Option Value × qm_M} (hT : (qm_T (pp_X6_builds_31 l E) (fun x r => (some (.int x.1), x.2) = r)) x r) : qm_Wp l E kd_X6_builds "HungStreams" cX6_builds 3 31 [(0, .ref (qm_a E 200)), (2, .int v2)] [] σ r := by
  unfold bb_X6_builds_31 at h
  refine qr_iload_n dX6_builds_31 rfl 1 rfl ?_
  refine qr_aload_n dX6_builds_32 rfl 0 rfl ?_
  refine qr_get4 (k := 4) (v := .ref (qm_a E 202)) rfl (by decide) rfl qw_220 dX6_builds_33 ?_
  refine qr_get3 (k := 5) (v := .int (σ.1 202 5)) rfl (by decide) rfl qw_174 dX6_builds_36 ?_
  refine qr_icmp_ge (tgt := 98) dX6_builds_39 (by decide) (fun c12 => ?_) (fun c12 => ?_)
  · rw [if_pos c12] at h
    obtain ⟨y4, h1, hx⟩ := qm_bind h
    clear h
    cases hx
    have h := h1
    refine qr_aload_n dX6_builds_98 rfl 0 rfl ?_
    refine qr_get4 (k := 4) (v := .ref (qm_a E 202)) rfl (by decide) rfl qw_220 dX6_builds_99 ?_
    refine qr_get3 (k := 5) (v := .int (σ.1 202 5)) rfl (by decide) rfl qw_174 dX6_builds_102 ?_
    obtain rfl := Option.some.inj h
    cases hT
    exact qr_iret dX6_builds_105
  · rw [if_neg c12] at h
    refine qr_aload_n dX6_builds_42 rfl 0 rfl ?_
    refine qr_get4 (k := 0) (v := .ref (qm_a E 0)) rfl (by decide) rfl qw_216 dX6_builds_43 ?_
    refine qr_aload_n dX6_builds_46 rfl 0 rfl ?_
    refine qr_get4 (k := 4) (v := .ref (qm_a E 202)) rfl (by decide) rfl qw_220 dX6_builds_47 ?_
    refine qr_get3 (k := 2) (v := .ref (qm_a E 204)) rfl (by decide) rfl qw_168 dX6_builds_50 ?_
    refine qr_iload_n dX6_builds_53 rfl 1 rfl ?_
    obtain ⟨c5, h⟩ := qm_chk h
    refine qr_iald rfl c5 dX6_builds_54 ?_
    refine qr_aload_n dX6_builds_55 rfl 0 rfl ?_
    refine qr_get4 (k := 4) (v := .ref (qm_a E 202)) rfl (by decide) rfl qw_220 dX6_builds_56 ?_
    refine qr_get3 (k := 3) (v := .ref (qm_a E 205)) rfl (by decide) rfl qw_170 dX6_builds_59 ?_
    refine qr_iload_n dX6_builds_62 rfl 1 rfl ?_
    obtain ⟨c6, h⟩ := qm_chk h
    refine qr_iald rfl c6 dX6_builds_63 ?_
    obtain ⟨r7, er7, h⟩ := qm_bind h
    refine qr_call1 (st1 := []) rfl (qr_callV (id := 0) (c := 1) (As := [.int (σ.1 204 v2.toNatClampNeg), .int (σ.1 205 v2.toNatClampNeg)]) (st := []) rfl (by decide) rfl (ct_X3_enter (l := l) (E := E) σ 0 (σ.1 204 v2.toNatClampNeg) (σ.1 205 v2.toNatClampNeg) rfl er7) qw_283 qw_2 qw_280 qw_281 qw_282 yd_X3_enter (by decide) (by decide) rfl (Nat.le_of_ble_eq_true rfl) dX6_builds_64) ?_
    refine qr_aload_n dX6_builds_67 rfl 0 rfl ?_
    refine qr_get4 (k := 0) (v := .ref (qm_a E 0)) rfl (by decide) rfl qw_216 dX6_builds_68 ?_
    refine qr_aload_n dX6_builds_71 rfl 0 rfl ?_
    refine qr_get4 (k := 4) (v := .ref (qm_a E 202)) rfl (by decide) rfl qw_220 dX6_builds_72 ?_
    refine qr_get3 (k := 2) (v := .ref (qm_a E 204)) rfl (by decide) rfl qw_168 dX6_builds_75 ?_
    refine qr_iload_n dX6_builds_78 rfl 1 rfl ?_
    obtain ⟨c8, h⟩ := qm_chk h
    refine qr_iald rfl c8 dX6_builds_79 ?_
    refine qr_aload_n dX6_builds_80 rfl 0 rfl ?_
    refine qr_get4 (k := 4) (v := .ref (qm_a E 202)) rfl (by decide) rfl qw_220 dX6_builds_81 ?_
    refine qr_get3 (k := 4) (v := .ref (qm_a E 206)) rfl (by decide) rfl qw_172 dX6_builds_84 ?_
    refine qr_iload_n dX6_builds_87 rfl 1 rfl ?_
    obtain ⟨c9, h⟩ := qm_chk h
    refine qr_iald rfl c9 dX6_builds_88 ?_
    obtain ⟨r10, er10, h⟩ := qm_bind h
    refine qr_call1 (st1 := []) rfl (qr_callV (id := 0) (c := 1) (As := [.int (r7.1 204 v2.toNatClampNeg), .int (r7.1 206 v2.toNatClampNeg)]) (st := []) rfl (by decide) rfl (ct_X3_hang (l := l) (E := E) r7 0 (r7.1 204 v2.toNatClampNeg) (r7.1 206 v2.toNatClampNeg) rfl er10) qw_303 qw_2 qw_320 qw_301 qw_302 yd_X3_hang (by decide) (by decide) rfl (Nat.le_of_ble_eq_true rfl) dX6_builds_89) ?_
    obtain ⟨z11, ez11, h⟩ := qm_bind h
    refine qr_iinc (q := 1) (v := z11) (lv' := [(2, .int z11), (0, .ref (qm_a E 200))]) dX6_builds_92 rfl (Option.some.inj ez11) (by decide) rfl ?_
    refine qr_goto (tgt := 31) dX6_builds_95 (by decide) ?_
    obtain rfl := Option.some.inj h
    exact qr_sub [1, 0] rfl hT
def lp_X6_builds_31 (σ : qm_M) (v2 : Int32) : Option (Int32 × qm_M) := qm_loop (fun s : Int32 × qm_M => bb_X6_builds_31 s.2 s.1) 1000 (v2, σ)
theorem wl_X6_builds_31 {l : Launch} {E : qm_E} (σ : qm_M) (v2 : Int32) {x : Int32 × qm_M} (h : lp_X6_builds_31 σ v2 = some x) {r : Option Value × qm_M} (hT : (fun x r => (some (.int x.1), x.2) = r) x r) : qm_Wp l E kd_X6_builds "HungStreams" cX6_builds 3 31 [(0, .ref (qm_a E 200)), (2, .int v2)] [] σ r :=
  qm_loop_T (P := pp_X6_builds_31 l E) (T1 := (fun x r => (some (.int x.1), x.2) = r)) (fun s x h r hT => wb_X6_builds_31 (l := l) (E := E) s.2 s.1  h hT) h hT
def fn_X6_builds (σ : qm_M)  : Option (Int32 × qm_M) :=
  (fn_X5_read σ ).bind (fun r1 => if r1.1 = (-1) then (fn_X6_leaveState r1.2 ).bind (fun r2 => (fn_X3_empty r2 0).bind (fun r3 => lp_X6_builds_31 r3 0)) else some ((-10) - r1.1, r1.2))
set_option maxRecDepth 20000 in
theorem wf_X6_builds {l : Launch} {E : qm_E} (σ : qm_M)  {x : Int32 × qm_M} (h : fn_X6_builds σ  = some x) {r : Option Value × qm_M} (hT : (fun x r => (some (.int x.1), x.2) = r) x r) : qm_Wp l E kd_X6_builds "HungStreams" cX6_builds 3 0 [(0, .ref (qm_a E 200))] [] σ r := by
  unfold fn_X6_builds at h
  refine qr_aload_n dX6_builds_0 rfl 0 rfl ?_
  refine qr_get4 (k := 4) (v := .ref (qm_a E 202)) rfl (by decide) rfl qw_220 dX6_builds_1 ?_
  obtain ⟨r1, er1, h⟩ := qm_bind h
  refine qr_call1 (st1 := [.int r1.1]) rfl (qr_callV (id := 202) (c := 3) (As := []) (st := []) rfl (by decide) rfl (ct_X5_read (l := l) (E := E) σ  er1) qw_539 qw_4 qw_536 qw_537 qw_538 yd_X5_read (by decide) (by decide) rfl (Nat.le_of_ble_eq_true rfl) dX6_builds_4) ?_
  refine qr_istore_n (lv' := [(1, .int r1.1), (0, .ref (qm_a E 200))]) dX6_builds_7 rfl (by decide) rfl ?_
  refine qr_iload_n dX6_builds_8 rfl 0 rfl ?_
  refine qr_iconst (v := (-1)) dX6_builds_9 (by decide) ?_
  refine qr_icmp_eq (tgt := 18) dX6_builds_10 (by decide) (fun c13 => ?_) (fun c13 => ?_)
  · rw [if_pos c13] at h
    refine qr_aload_n dX6_builds_18 rfl 1 rfl ?_
    obtain ⟨r2, er2, h⟩ := qm_bind h
    refine qr_call1 (st1 := []) rfl (qr_callV (id := 200) (c := 4) (As := []) (st := []) rfl (by decide) rfl (ct_X6_leaveState (l := l) (E := E) r1.2  er2) qw_271 qw_1 qw_268 qw_270 qs_1 yd_X6_leaveState (by decide) (by decide) rfl (Nat.le_of_ble_eq_true rfl) dX6_builds_19) ?_
    refine qr_aload_n dX6_builds_22 rfl 1 rfl ?_
    refine qr_get4 (k := 0) (v := .ref (qm_a E 0)) rfl (by decide) rfl qw_216 dX6_builds_23 ?_
    obtain ⟨r3, er3, h⟩ := qm_bind h
    refine qr_call1 (st1 := []) rfl (qr_callV (id := 0) (c := 1) (As := []) (st := []) rfl (by decide) rfl (ct_X3_empty (l := l) (E := E) r2 0 rfl er3) qw_568 qw_2 qw_565 qw_566 qw_567 yd_X3_empty (by decide) (by decide) rfl (Nat.le_of_ble_eq_true rfl) dX6_builds_26) ?_
    refine qr_iconst (v := 0) dX6_builds_29 (by decide) ?_
    refine qr_istore_n (lv' := [(2, .int 0), (1, .int r1.1), (0, .ref (qm_a E 200))]) dX6_builds_30 rfl (by decide) rfl ?_
    exact qr_sub [2, 0] rfl (wl_X6_builds_31 (l := l) (E := E) r3 0 h hT)
  · rw [if_neg c13] at h
    refine qr_bipush (v := (-10)) dX6_builds_13 (by decide) ?_
    refine qr_iload_n dX6_builds_15 rfl 0 rfl ?_
    refine qr_isub dX6_builds_16 ?_
    obtain rfl := Option.some.inj h
    cases hT
    exact qr_iret dX6_builds_17
theorem ct_X6_builds {l : Launch} {E : qm_E} (σ : qm_M)  {x : Int32 × qm_M} (h : fn_X6_builds σ  = some x) : qm_Ct l E kd_X6_builds yX6_builds cX6_builds 3 (some .int) [.ref (qm_a E 200)] σ (some (.int x.1), x.2) := qm_ofWp rfl (Nat.le_of_ble_eq_true rfl) (Or.inl rfl) (wf_X6_builds σ   h rfl)
-- HungStreams.shown (I)I
abbrev kd_X6_shown : Nat := 26
theorem yd_X6_shown : (yX6_shown).cls ≠ "java/lang/invoke/MethodHandle" ∧ (yX6_shown).cls ≠ "java/lang/invoke/VarHandle" ∧ (parseMethodDescriptor (yX6_shown).desc).map (fun d => d.parameters.length) = some 1 := by decide +kernel
def fn_X6_shown (σ : qm_M) (v1 : Int32) : Option (Int32 × qm_M) :=
  if 0 ≤ v1 then (fn_X4_write σ 0).bind (fun r1 => if (r1.1 208 1) ≤ v1 then some ((-1), r1) else if ¬ (v1 < 0 ∨ 120 ≤ v1.toNatClampNeg) then some (r1.1 209 v1.toNatClampNeg, r1) else none) else (fn_X6_refuse σ (-2)).bind (fun r4 => some (r4.1, r4.2))
set_option maxRecDepth 20000 in
theorem wf_X6_shown {l : Launch} {E : qm_E} (σ : qm_M) (v1 : Int32) {x : Int32 × qm_M} (h : fn_X6_shown σ v1 = some x) {r : Option Value × qm_M} (hT : (fun x r => (some (.int x.1), x.2) = r) x r) : qm_Wp l E kd_X6_shown "HungStreams" cX6_shown 2 0 [(0, .ref (qm_a E 200)), (1, .int v1)] [] σ r := by
  unfold fn_X6_shown at h
  refine qr_iload_n dX6_shown_0 rfl 1 rfl ?_
  refine qr_if_ge (tgt := 11) dX6_shown_1 (by decide) (fun c5 => ?_) (fun c5 => ?_)
  · rw [if_pos c5] at h
    refine qr_aload_n dX6_shown_11 rfl 0 rfl ?_
    refine qr_get4 (k := 5) (v := .ref (qm_a E 208)) rfl (by decide) rfl qw_221 dX6_shown_12 ?_
    refine qr_aload_n dX6_shown_15 rfl 0 rfl ?_
    refine qr_get4 (k := 0) (v := .ref (qm_a E 0)) rfl (by decide) rfl qw_216 dX6_shown_16 ?_
    obtain ⟨r1, er1, h⟩ := qm_bind h
    refine qr_call1 (st1 := []) rfl (qr_callV (id := 208) (c := 2) (As := [.ref (qm_a E 0)]) (st := []) rfl (by decide) rfl (ct_X4_write (l := l) (E := E) σ 0 rfl er1) qw_576 qw_5 qw_573 qw_574 qw_575 yd_X4_write (by decide) (by decide) rfl (Nat.le_of_ble_eq_true rfl) dX6_shown_19) ?_
    refine qr_iload_n dX6_shown_22 rfl 1 rfl ?_
    refine qr_aload_n dX6_shown_23 rfl 0 rfl ?_
    refine qr_get4 (k := 5) (v := .ref (qm_a E 208)) rfl (by decide) rfl qw_221 dX6_shown_24 ?_
    refine qr_get2 (k := 1) (v := .int (r1.1 208 1)) rfl (by decide) rfl qw_210 dX6_shown_27 ?_
    refine qr_icmp_ge (tgt := 45) dX6_shown_30 (by decide) (fun c3 => ?_) (fun c3 => ?_)
    · rw [if_pos c3] at h
      refine qr_iconst (v := (-1)) dX6_shown_45 (by decide) ?_
      obtain rfl := Option.some.inj h
      cases hT
      exact qr_iret dX6_shown_46
    · rw [if_neg c3] at h
      refine qr_aload_n dX6_shown_33 rfl 0 rfl ?_
      refine qr_get4 (k := 5) (v := .ref (qm_a E 208)) rfl (by decide) rfl qw_221 dX6_shown_34 ?_
      refine qr_get2 (k := 0) (v := .ref (qm_a E 209)) rfl (by decide) rfl qw_208 dX6_shown_37 ?_
      refine qr_iload_n dX6_shown_40 rfl 1 rfl ?_
      obtain ⟨c2, h⟩ := qm_chk h
      refine qr_iald rfl c2 dX6_shown_41 ?_
      refine qr_goto (tgt := 46) dX6_shown_42 (by decide) ?_
      obtain rfl := Option.some.inj h
      cases hT
      exact qr_iret dX6_shown_46
  · rw [if_neg c5] at h
    refine qr_aload_n dX6_shown_4 rfl 0 rfl ?_
    refine qr_bipush (v := (-2)) dX6_shown_5 (by decide) ?_
    obtain ⟨r4, er4, h⟩ := qm_bind h
    refine qr_call1 (st1 := [.int r4.1]) rfl (qr_callV (id := 200) (c := 4) (As := [.int (-2)]) (st := []) rfl (by decide) rfl (ct_X6_refuse (l := l) (E := E) σ (-2) er4) qw_266 qw_1 qw_263 qw_265 qs_0 yd_X6_refuse (by decide) (by decide) rfl (Nat.le_of_ble_eq_true rfl) dX6_shown_7) ?_
    obtain rfl := Option.some.inj h
    cases hT
    exact qr_iret dX6_shown_10
theorem ct_X6_shown {l : Launch} {E : qm_E} (σ : qm_M) (v1 : Int32) {x : Int32 × qm_M} (h : fn_X6_shown σ v1 = some x) : qm_Ct l E kd_X6_shown yX6_shown cX6_shown 2 (some .int) [.ref (qm_a E 200), .int v1] σ (some (.int x.1), x.2) := qm_ofWp rfl (Nat.le_of_ble_eq_true rfl) (Or.inl rfl) (wf_X6_shown σ v1  h rfl)
-- HungStreams.back ()I
abbrev kd_X6_back : Nat := 3
theorem yd_X6_back : (yX6_back).cls ≠ "java/lang/invoke/MethodHandle" ∧ (yX6_back).cls ≠ "java/lang/invoke/VarHandle" ∧ (parseMethodDescriptor (yX6_back).desc).map (fun d => d.parameters.length) = some 0 := by decide +kernel
def fn_X6_back (σ : qm_M)  : Option (Int32 × qm_M) :=
  if (σ.1 200 3) = 0 then (fn_X6_refuse σ (-3)).bind (fun r4 => some (r4.1, r4.2)) else (some (qm_si σ 200 3 ((σ.1 200 3) - 1))).bind (fun σ1 => if ¬ ((((σ1.1 200 2) + (σ1.1 200 3)) - ((σ1.1 200 2) + (σ1.1 200 3)) / 5 * 5) < 0 ∨ 5 ≤ (((σ1.1 200 2) + (σ1.1 200 3)) - ((σ1.1 200 2) + (σ1.1 200 3)) / 5 * 5).toNatClampNeg) then (fn_X3_copyFrom σ1 0 (32 * ((((σ1.1 200 2) + (σ1.1 200 3)) - ((σ1.1 200 2) + (σ1.1 200 3)) / 5 * 5).toNatClampNeg + 1))).bind (fun r3 => some (r3.1 200 3, r3)) else none)
set_option maxRecDepth 20000 in
theorem wf_X6_back {l : Launch} {E : qm_E} (σ : qm_M)  {x : Int32 × qm_M} (h : fn_X6_back σ  = some x) {r : Option Value × qm_M} (hT : (fun x r => (some (.int x.1), x.2) = r) x r) : qm_Wp l E kd_X6_back "HungStreams" cX6_back 1 0 [(0, .ref (qm_a E 200))] [] σ r := by
  unfold fn_X6_back at h
  refine qr_aload_n dX6_back_0 rfl 0 rfl ?_
  refine qr_get4 (k := 3) (v := .int (σ.1 200 3)) rfl (by decide) rfl qw_219 dX6_back_1 ?_
  refine qr_if_ne (tgt := 14) dX6_back_4 (by decide) (fun c5 => ?_) (fun c5 => ?_)
  · rw [if_neg c5] at h
    refine qr_aload_n dX6_back_14 rfl 0 rfl ?_
    refine qr_dup dX6_back_15 rfl ?_
    refine qr_get4 (k := 3) (v := .int (σ.1 200 3)) rfl (by decide) rfl qw_219 dX6_back_16 ?_
    refine qr_iconst (v := 1) dX6_back_19 (by decide) ?_
    refine qr_isub dX6_back_20 ?_
    obtain ⟨σ1, eσ1, h⟩ := qm_bind h
    refine qr_put4_3 rfl qw_219 dX6_back_21 (qr_eqm (Option.some.inj eσ1) ?_)
    refine qr_aload_n dX6_back_24 rfl 0 rfl ?_
    refine qr_get4 (k := 0) (v := .ref (qm_a E 0)) rfl (by decide) rfl qw_216 dX6_back_25 ?_
    refine qr_aload_n dX6_back_28 rfl 0 rfl ?_
    refine qr_get4 (k := 1) (v := .ref (qm_a E 201)) rfl (by decide) rfl qw_217 dX6_back_29 ?_
    refine qr_aload_n dX6_back_32 rfl 0 rfl ?_
    refine qr_get4 (k := 2) (v := .int (σ1.1 200 2)) rfl (by decide) rfl qw_218 dX6_back_33 ?_
    refine qr_aload_n dX6_back_36 rfl 0 rfl ?_
    refine qr_get4 (k := 3) (v := .int (σ1.1 200 3)) rfl (by decide) rfl qw_219 dX6_back_37 ?_
    refine qr_iadd dX6_back_40 ?_
    refine qr_iconst (v := 5) dX6_back_41 (by decide) ?_
    refine qr_irem dX6_back_42 (by decide) ?_
    obtain ⟨c2, h⟩ := qm_chk h
    refine qr_aaldt rfl c2 dX6_back_43 ?_
    obtain ⟨r3, er3, h⟩ := qm_bind h
    refine qr_call1 (st1 := []) rfl (qr_callV (id := 0) (c := 1) (As := [.ref (qm_a E (32 * ((((σ1.1 200 2) + (σ1.1 200 3)) - ((σ1.1 200 2) + (σ1.1 200 3)) / 5 * 5).toNatClampNeg + 1)))]) (st := []) rfl (by decide) rfl (ct_X3_copyFrom (l := l) (E := E) σ1 0 (32 * ((((σ1.1 200 2) + (σ1.1 200 3)) - ((σ1.1 200 2) + (σ1.1 200 3)) / 5 * 5).toNatClampNeg + 1)) rfl (qm_k_tree c2) er3) qw_275 qw_2 qw_272 qw_273 qw_274 yd_X3_copyFrom (by decide) (by decide) rfl (Nat.le_of_ble_eq_true rfl) dX6_back_44) ?_
    refine qr_aload_n dX6_back_47 rfl 0 rfl ?_
    refine qr_get4 (k := 3) (v := .int (r3.1 200 3)) rfl (by decide) rfl qw_219 dX6_back_48 ?_
    obtain rfl := Option.some.inj h
    cases hT
    exact qr_iret dX6_back_51
  · rw [if_pos c5] at h
    refine qr_aload_n dX6_back_7 rfl 0 rfl ?_
    refine qr_bipush (v := (-3)) dX6_back_8 (by decide) ?_
    obtain ⟨r4, er4, h⟩ := qm_bind h
    refine qr_call1 (st1 := [.int r4.1]) rfl (qr_callV (id := 200) (c := 4) (As := [.int (-3)]) (st := []) rfl (by decide) rfl (ct_X6_refuse (l := l) (E := E) σ (-3) er4) qw_266 qw_1 qw_263 qw_265 qs_0 yd_X6_refuse (by decide) (by decide) rfl (Nat.le_of_ble_eq_true rfl) dX6_back_10) ?_
    obtain rfl := Option.some.inj h
    cases hT
    exact qr_iret dX6_back_13
theorem ct_X6_back {l : Launch} {E : qm_E} (σ : qm_M)  {x : Int32 × qm_M} (h : fn_X6_back σ  = some x) : qm_Ct l E kd_X6_back yX6_back cX6_back 1 (some .int) [.ref (qm_a E 200)] σ (some (.int x.1), x.2) := qm_ofWp rfl (Nat.le_of_ble_eq_true rfl) (Or.inl rfl) (wf_X6_back σ   h rfl)
-- HungStreams.told (I)I
abbrev kd_X6_told : Nat := 2
theorem yd_X6_told : (yX6_told).cls ≠ "java/lang/invoke/MethodHandle" ∧ (yX6_told).cls ≠ "java/lang/invoke/VarHandle" ∧ (parseMethodDescriptor (yX6_told).desc).map (fun d => d.parameters.length) = some 1 := by decide +kernel
def fn_X6_told (σ : qm_M) (v1 : Int32) : Option (Int32 × qm_M) :=
  if v1 = 0 then some (σ.1 200 6, σ) else if v1 = 1 then some (σ.1 200 7, σ) else if v1 = 2 then some (σ.1 200 8, σ) else if v1 = 3 then some (σ.1 202 1, σ) else if v1 = 4 then some (σ.1 0 3, σ) else if v1 = 5 then some (σ.1 0 4, σ) else if v1 = 6 then some (σ.1 0 5, σ) else if v1 = 7 then some (σ.1 0 6, σ) else if v1 = 8 then some (σ.1 0 7, σ) else if v1 = 9 then some (σ.1 200 3, σ) else (fn_X6_refuse σ (-2)).bind (fun r11 => some (r11.1, r11.2))
set_option maxRecDepth 20000 in
theorem wf_X6_told {l : Launch} {E : qm_E} (σ : qm_M) (v1 : Int32) {x : Int32 × qm_M} (h : fn_X6_told σ v1 = some x) {r : Option Value × qm_M} (hT : (fun x r => (some (.int x.1), x.2) = r) x r) : qm_Wp l E kd_X6_told "HungStreams" cX6_told 2 0 [(0, .ref (qm_a E 200)), (1, .int v1)] [] σ r := by
  unfold fn_X6_told at h
  refine qr_iload_n dX6_told_0 rfl 1 rfl ?_
  by_cases c1 : v1 = 0
  · rw [if_pos c1] at h
    have tc1 : (v1).toInt = 0 := by rw [c1]; rfl
    refine qr_tableIn (tgt := 56) dX6_told_1 (by omega) (by omega) (by rw [tc1]; rfl) (by decide) ?_
    refine qr_aload_n dX6_told_56 rfl 0 rfl ?_
    refine qr_get4 (k := 6) (v := .int (σ.1 200 6)) rfl (by decide) rfl qw_222 dX6_told_57 ?_
    obtain rfl := Option.some.inj h
    cases hT
    exact qr_iret dX6_told_60
  rw [if_neg c1] at h
  by_cases c2 : v1 = 1
  · rw [if_pos c2] at h
    have tc2 : (v1).toInt = 1 := by rw [c2]; rfl
    refine qr_tableIn (tgt := 61) dX6_told_1 (by omega) (by omega) (by rw [tc2]; rfl) (by decide) ?_
    refine qr_aload_n dX6_told_61 rfl 0 rfl ?_
    refine qr_get4 (k := 7) (v := .int (σ.1 200 7)) rfl (by decide) rfl qw_223 dX6_told_62 ?_
    obtain rfl := Option.some.inj h
    cases hT
    exact qr_iret dX6_told_65
  rw [if_neg c2] at h
  by_cases c3 : v1 = 2
  · rw [if_pos c3] at h
    have tc3 : (v1).toInt = 2 := by rw [c3]; rfl
    refine qr_tableIn (tgt := 66) dX6_told_1 (by omega) (by omega) (by rw [tc3]; rfl) (by decide) ?_
    refine qr_aload_n dX6_told_66 rfl 0 rfl ?_
    refine qr_get4 (k := 8) (v := .int (σ.1 200 8)) rfl (by decide) rfl qw_224 dX6_told_67 ?_
    obtain rfl := Option.some.inj h
    cases hT
    exact qr_iret dX6_told_70
  rw [if_neg c3] at h
  by_cases c4 : v1 = 3
  · rw [if_pos c4] at h
    have tc4 : (v1).toInt = 3 := by rw [c4]; rfl
    refine qr_tableIn (tgt := 71) dX6_told_1 (by omega) (by omega) (by rw [tc4]; rfl) (by decide) ?_
    refine qr_aload_n dX6_told_71 rfl 0 rfl ?_
    refine qr_get4 (k := 4) (v := .ref (qm_a E 202)) rfl (by decide) rfl qw_220 dX6_told_72 ?_
    refine qr_get3 (k := 1) (v := .int (σ.1 202 1)) rfl (by decide) rfl qw_166 dX6_told_75 ?_
    obtain rfl := Option.some.inj h
    cases hT
    exact qr_iret dX6_told_78
  rw [if_neg c4] at h
  by_cases c5 : v1 = 4
  · rw [if_pos c5] at h
    have tc5 : (v1).toInt = 4 := by rw [c5]; rfl
    refine qr_tableIn (tgt := 79) dX6_told_1 (by omega) (by omega) (by rw [tc5]; rfl) (by decide) ?_
    refine qr_aload_n dX6_told_79 rfl 0 rfl ?_
    refine qr_get4 (k := 0) (v := .ref (qm_a E 0)) rfl (by decide) rfl qw_216 dX6_told_80 ?_
    refine qr_get1 (k := 3) (v := .int (σ.1 0 3)) rfl (by decide) rfl qw_118 dX6_told_83 ?_
    obtain rfl := Option.some.inj h
    cases hT
    exact qr_iret dX6_told_86
  rw [if_neg c5] at h
  by_cases c6 : v1 = 5
  · rw [if_pos c6] at h
    have tc6 : (v1).toInt = 5 := by rw [c6]; rfl
    refine qr_tableIn (tgt := 87) dX6_told_1 (by omega) (by omega) (by rw [tc6]; rfl) (by decide) ?_
    refine qr_aload_n dX6_told_87 rfl 0 rfl ?_
    refine qr_get4 (k := 0) (v := .ref (qm_a E 0)) rfl (by decide) rfl qw_216 dX6_told_88 ?_
    refine qr_get1 (k := 4) (v := .int (σ.1 0 4)) rfl (by decide) rfl qw_121 dX6_told_91 ?_
    obtain rfl := Option.some.inj h
    cases hT
    exact qr_iret dX6_told_94
  rw [if_neg c6] at h
  by_cases c7 : v1 = 6
  · rw [if_pos c7] at h
    have tc7 : (v1).toInt = 6 := by rw [c7]; rfl
    refine qr_tableIn (tgt := 95) dX6_told_1 (by omega) (by omega) (by rw [tc7]; rfl) (by decide) ?_
    refine qr_aload_n dX6_told_95 rfl 0 rfl ?_
    refine qr_get4 (k := 0) (v := .ref (qm_a E 0)) rfl (by decide) rfl qw_216 dX6_told_96 ?_
    refine qr_get1 (k := 5) (v := .int (σ.1 0 5)) rfl (by decide) rfl qw_123 dX6_told_99 ?_
    obtain rfl := Option.some.inj h
    cases hT
    exact qr_iret dX6_told_102
  rw [if_neg c7] at h
  by_cases c8 : v1 = 7
  · rw [if_pos c8] at h
    have tc8 : (v1).toInt = 7 := by rw [c8]; rfl
    refine qr_tableIn (tgt := 103) dX6_told_1 (by omega) (by omega) (by rw [tc8]; rfl) (by decide) ?_
    refine qr_aload_n dX6_told_103 rfl 0 rfl ?_
    refine qr_get4 (k := 0) (v := .ref (qm_a E 0)) rfl (by decide) rfl qw_216 dX6_told_104 ?_
    refine qr_get1 (k := 6) (v := .int (σ.1 0 6)) rfl (by decide) rfl qw_126 dX6_told_107 ?_
    obtain rfl := Option.some.inj h
    cases hT
    exact qr_iret dX6_told_110
  rw [if_neg c8] at h
  by_cases c9 : v1 = 8
  · rw [if_pos c9] at h
    have tc9 : (v1).toInt = 8 := by rw [c9]; rfl
    refine qr_tableIn (tgt := 111) dX6_told_1 (by omega) (by omega) (by rw [tc9]; rfl) (by decide) ?_
    refine qr_aload_n dX6_told_111 rfl 0 rfl ?_
    refine qr_get4 (k := 0) (v := .ref (qm_a E 0)) rfl (by decide) rfl qw_216 dX6_told_112 ?_
    refine qr_get1 (k := 7) (v := .int (σ.1 0 7)) rfl (by decide) rfl qw_129 dX6_told_115 ?_
    obtain rfl := Option.some.inj h
    cases hT
    exact qr_iret dX6_told_118
  rw [if_neg c9] at h
  by_cases c10 : v1 = 9
  · rw [if_pos c10] at h
    have tc10 : (v1).toInt = 9 := by rw [c10]; rfl
    refine qr_tableIn (tgt := 119) dX6_told_1 (by omega) (by omega) (by rw [tc10]; rfl) (by decide) ?_
    refine qr_aload_n dX6_told_119 rfl 0 rfl ?_
    refine qr_get4 (k := 3) (v := .int (σ.1 200 3)) rfl (by decide) rfl qw_219 dX6_told_120 ?_
    obtain rfl := Option.some.inj h
    cases hT
    exact qr_iret dX6_told_123
  rw [if_neg c10] at h
  have nc1 := lv_neT c1 (show (0 : Int32).toInt = 0 from rfl)
  have nc2 := lv_neT c2 (show (1 : Int32).toInt = 1 from rfl)
  have nc3 := lv_neT c3 (show (2 : Int32).toInt = 2 from rfl)
  have nc4 := lv_neT c4 (show (3 : Int32).toInt = 3 from rfl)
  have nc5 := lv_neT c5 (show (4 : Int32).toInt = 4 from rfl)
  have nc6 := lv_neT c6 (show (5 : Int32).toInt = 5 from rfl)
  have nc7 := lv_neT c7 (show (6 : Int32).toInt = 6 from rfl)
  have nc8 := lv_neT c8 (show (7 : Int32).toInt = 7 from rfl)
  have nc9 := lv_neT c9 (show (8 : Int32).toInt = 8 from rfl)
  have nc10 := lv_neT c10 (show (9 : Int32).toInt = 9 from rfl)
  refine qr_tableOut (tgt := 124) dX6_told_1 (by omega) (by decide) ?_
  refine qr_aload_n dX6_told_124 rfl 0 rfl ?_
  refine qr_bipush (v := (-2)) dX6_told_125 (by decide) ?_
  obtain ⟨r11, er11, h⟩ := qm_bind h
  refine qr_call1 (st1 := [.int r11.1]) rfl (qr_callV (id := 200) (c := 4) (As := [.int (-2)]) (st := []) rfl (by decide) rfl (ct_X6_refuse (l := l) (E := E) σ (-2) er11) qw_266 qw_1 qw_263 qw_265 qs_0 yd_X6_refuse (by decide) (by decide) rfl (Nat.le_of_ble_eq_true rfl) dX6_told_127) ?_
  obtain rfl := Option.some.inj h
  cases hT
  exact qr_iret dX6_told_130
theorem ct_X6_told {l : Launch} {E : qm_E} (σ : qm_M) (v1 : Int32) {x : Int32 × qm_M} (h : fn_X6_told σ v1 = some x) : qm_Ct l E kd_X6_told yX6_told cX6_told 2 (some .int) [.ref (qm_a E 200), .int v1] σ (some (.int x.1), x.2) := qm_ofWp rfl (Nat.le_of_ble_eq_true rfl) (Or.inl rfl) (wf_X6_told σ v1  h rfl)
