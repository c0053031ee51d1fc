-- HungStreams$Tree.empty ()V
abbrev kd_X3_empty : Nat := 1
theorem yd_X3_empty : (yX3_empty).cls ≠ "java/lang/invoke/MethodHandle" ∧ (yX3_empty).cls ≠ "java/lang/invoke/VarHandle" ∧ (parseMethodDescriptor (yX3_empty).desc).map (fun d => d.parameters.length) = some 0 := by decide +kernel
def fn_X3_empty (σ : qm_M) (v0 : Nat) : Option (qm_M) :=
  (some (qm_si σ v0 1 0)).bind (fun σ1 => (some (qm_sl σ1 (v0 + 1 + 1 + (0 : Int32).toNatClampNeg) 13 0)).bind (fun σ3 => some σ3))
set_option maxRecDepth 20000 in
theorem wf_X3_empty {l : Launch} {E : qm_E} (σ : qm_M) (v0 : Nat) (hk0 : qm_kind v0 = 2) {x : qm_M} (h : fn_X3_empty σ v0 = some x) {r : Option Value × qm_M} (hT : (fun x r => (none, x) = r) x r) : qm_Wp l E kd_X3_empty "HungStreams$Tree" cX3_empty 1 0 [(0, .ref (qm_a E v0))] [] σ r := by
  unfold fn_X3_empty at h
  refine qr_aload_n dX3_empty_0 rfl 0 rfl ?_
  refine qr_iconst (v := 0) dX3_empty_1 (by decide) ?_
  obtain ⟨σ1, eσ1, h⟩ := qm_bind h
  refine qr_put1_1 hk0 qw_111 dX3_empty_2 (qr_eqm (Option.some.inj eσ1) ?_)
  refine qr_aload_n dX3_empty_5 rfl 0 rfl ?_
  refine qr_get1 (k := 0) (v := .ref (qm_a E (v0 + 1))) hk0 (by decide) rfl qw_106 dX3_empty_6 ?_
  refine qr_iconst (v := 0) dX3_empty_9 (by decide) ?_
  refine qr_aalds (qm_k_arr hk0) (by unfold vp_in; decide) dX3_empty_10 ?_
  refine qr_lconst (v := 0) dX3_empty_11 (by decide) ?_
  obtain ⟨σ3, eσ3, h⟩ := qm_bind h
  refine qr_put0_13 (qm_k_str (qm_k_arr hk0) (by unfold vp_in; decide)) qw_76 dX3_empty_12 (qr_eqm (Option.some.inj eσ3) ?_)
  obtain rfl := Option.some.inj h
  cases hT
  exact qr_vret dX3_empty_15
theorem ct_X3_empty {l : Launch} {E : qm_E} (σ : qm_M) (v0 : Nat) (hk0 : qm_kind v0 = 2) {x : qm_M} (h : fn_X3_empty σ v0 = some x) : qm_Ct l E kd_X3_empty yX3_empty cX3_empty 1 none [.ref (qm_a E v0)] σ (none, x) := qm_ofWp rfl (Nat.le_of_ble_eq_true rfl) (rfl) (wf_X3_empty σ v0 hk0 h rfl)
-- HungStreams$TreeWriter.put (I)V
abbrev kd_X4_put : Nat := 1
theorem yd_X4_put : (yX4_put).cls ≠ "java/lang/invoke/MethodHandle" ∧ (yX4_put).cls ≠ "java/lang/invoke/VarHandle" ∧ (parseMethodDescriptor (yX4_put).desc).map (fun d => d.parameters.length) = some 1 := by decide +kernel
def fn_X4_put (σ : qm_M) (v1 : Int32) : Option (qm_M) :=
  if 120 ≤ (σ.1 208 1) then some σ else if ¬ ((σ.1 208 1) < 0 ∨ 120 ≤ (σ.1 208 1).toNatClampNeg) then (some (qm_si σ 209 (σ.1 208 1).toNatClampNeg v1)).bind (fun σ2 => (some (qm_si σ2 208 1 ((σ2.1 208 1) + 1))).bind (fun σ3 => some σ3)) else none
set_option maxRecDepth 20000 in
theorem wf_X4_put {l : Launch} {E : qm_E} (σ : qm_M) (v1 : Int32) {x : qm_M} (h : fn_X4_put σ v1 = some x) {r : Option Value × qm_M} (hT : (fun x r => (none, x) = r) x r) : qm_Wp l E kd_X4_put "HungStreams$TreeWriter" cX4_put 2 0 [(0, .ref (qm_a E 208)), (1, .int v1)] [] σ r := by
  unfold fn_X4_put at h
  refine qr_aload_n dX4_put_0 rfl 0 rfl ?_
  refine qr_get2 (k := 1) (v := .int (σ.1 208 1)) rfl (by decide) rfl qw_209 dX4_put_1 ?_
  refine qr_aload_n dX4_put_4 rfl 0 rfl ?_
  refine qr_get2 (k := 0) (v := .ref (qm_a E 209)) rfl (by decide) rfl qw_207 dX4_put_5 ?_
  refine qr_alen (v := 120) rfl (by decide) dX4_put_8 ?_
  refine qr_icmp_ge (tgt := 32) dX4_put_9 (by decide) (fun c4 => ?_) (fun c4 => ?_)
  · rw [if_pos c4] at h
    obtain rfl := Option.some.inj h
    cases hT
    exact qr_vret dX4_put_32
  · rw [if_neg c4] at h
    refine qr_aload_n dX4_put_12 rfl 0 rfl ?_
    refine qr_get2 (k := 0) (v := .ref (qm_a E 209)) rfl (by decide) rfl qw_207 dX4_put_13 ?_
    refine qr_aload_n dX4_put_16 rfl 0 rfl ?_
    refine qr_get2 (k := 1) (v := .int (σ.1 208 1)) rfl (by decide) rfl qw_209 dX4_put_17 ?_
    refine qr_iload_n dX4_put_20 rfl 1 rfl ?_
    obtain ⟨c1, h⟩ := qm_chk h
    obtain ⟨σ2, eσ2, h⟩ := qm_bind h
    refine qr_iast rfl c1 dX4_put_21 (qr_eqm (Option.some.inj eσ2) ?_)
    refine qr_aload_n dX4_put_22 rfl 0 rfl ?_
    refine qr_dup dX4_put_23 rfl ?_
    refine qr_get2 (k := 1) (v := .int (σ2.1 208 1)) rfl (by decide) rfl qw_209 dX4_put_24 ?_
    refine qr_iconst (v := 1) dX4_put_27 (by decide) ?_
    refine qr_iadd dX4_put_28 ?_
    obtain ⟨σ3, eσ3, h⟩ := qm_bind h
    refine qr_put2_1 rfl qw_209 dX4_put_29 (qr_eqm (Option.some.inj eσ3) ?_)
    obtain rfl := Option.some.inj h
    cases hT
    exact qr_vret dX4_put_32
theorem ct_X4_put {l : Launch} {E : qm_E} (σ : qm_M) (v1 : Int32) {x : qm_M} (h : fn_X4_put σ v1 = some x) : qm_Ct l E kd_X4_put yX4_put cX4_put 2 none [.ref (qm_a E 208), .int v1] σ (none, x) := qm_ofWp rfl (Nat.le_of_ble_eq_true rfl) (rfl) (wf_X4_put σ v1  h rfl)
-- HungStreams$TreeWriter.putNumber (I)V
abbrev kd_X4_putNumber : Nat := 2
theorem yd_X4_putNumber : (yX4_putNumber).cls ≠ "java/lang/invoke/MethodHandle" ∧ (yX4_putNumber).cls ≠ "java/lang/invoke/VarHandle" ∧ (parseMethodDescriptor (yX4_putNumber).desc).map (fun d => d.parameters.length) = some 1 := by decide +kernel
def bb_X4_putNumber_17 (σ : qm_M) (v1 : Int32) : Option (qm_M) :=
  (fn_X4_put σ (48 + (v1 - v1 / 10 * 10))).bind (fun r1 => some r1)
set_option maxRecDepth 20000 in
theorem wb_X4_putNumber_17 {l : Launch} {E : qm_E} (σ : qm_M) (v1 : Int32) {x : qm_M} (h : bb_X4_putNumber_17 σ v1 = some x) {r : Option Value × qm_M} (hT : (fun x r => (none, x) = r) x r) : qm_Wp l E kd_X4_putNumber "HungStreams$TreeWriter" cX4_putNumber 2 17 [(0, .ref (qm_a E 208)), (1, .int v1)] [] σ r := by
  unfold bb_X4_putNumber_17 at h
  refine qr_aload_n dX4_putNumber_17 rfl 0 rfl ?_
  refine qr_bipush (v := 48) dX4_putNumber_18 (by decide) ?_
  refine qr_iload_n dX4_putNumber_20 rfl 1 rfl ?_
  refine qr_bipush (v := 10) dX4_putNumber_21 (by decide) ?_
  refine qr_irem dX4_putNumber_23 (by decide) ?_
  refine qr_iadd dX4_putNumber_24 ?_
  obtain ⟨r1, er1, h⟩ := qm_bind h
  refine qr_call1 (st1 := []) rfl (qr_callV (id := 208) (c := 2) (As := [.int (48 + (v1 - v1 / 10 * 10))]) (st := []) rfl (by decide) rfl (ct_X4_put (l := l) (E := E) σ (48 + (v1 - v1 / 10 * 10)) er1) qw_585 qw_5 qw_582 qw_584 qs_3 yd_X4_put (by decide) (by decide) rfl (Nat.le_of_ble_eq_true rfl) dX4_putNumber_25) ?_
  obtain rfl := Option.some.inj h
  cases hT
  exact qr_vret dX4_putNumber_28
def fn_X4_putNumber (σ : qm_M) (v1 : Int32) : Option (qm_M) :=
  if v1 < 10 then bb_X4_putNumber_17 σ v1 else (fn_X4_put σ (48 + (v1 / 10))).bind (fun r2 => bb_X4_putNumber_17 r2 v1)
set_option maxRecDepth 20000 in
theorem wf_X4_putNumber {l : Launch} {E : qm_E} (σ : qm_M) (v1 : Int32) {x : qm_M} (h : fn_X4_putNumber σ v1 = some x) {r : Option Value × qm_M} (hT : (fun x r => (none, x) = r) x r) : qm_Wp l E kd_X4_putNumber "HungStreams$TreeWriter" cX4_putNumber 2 0 [(0, .ref (qm_a E 208)), (1, .int v1)] [] σ r := by
  unfold fn_X4_putNumber at h
  refine qr_iload_n dX4_putNumber_0 rfl 1 rfl ?_
  refine qr_bipush (v := 10) dX4_putNumber_1 (by decide) ?_
  refine qr_icmp_lt (tgt := 17) dX4_putNumber_3 (by decide) (fun c3 => ?_) (fun c3 => ?_)
  · rw [if_pos c3] at h
    exact qr_sub [0, 1] rfl (wb_X4_putNumber_17 (l := l) (E := E) σ v1 h hT)
  · rw [if_neg c3] at h
    refine qr_aload_n dX4_putNumber_6 rfl 0 rfl ?_
    refine qr_bipush (v := 48) dX4_putNumber_7 (by decide) ?_
    refine qr_iload_n dX4_putNumber_9 rfl 1 rfl ?_
    refine qr_bipush (v := 10) dX4_putNumber_10 (by decide) ?_
    refine qr_idiv dX4_putNumber_12 (by decide) ?_
    refine qr_iadd dX4_putNumber_13 ?_
    obtain ⟨r2, er2, h⟩ := qm_bind h
    refine qr_call1 (st1 := []) rfl (qr_callV (id := 208) (c := 2) (As := [.int (48 + (v1 / 10))]) (st := []) rfl (by decide) rfl (ct_X4_put (l := l) (E := E) σ (48 + (v1 / 10)) er2) qw_585 qw_5 qw_582 qw_584 qs_3 yd_X4_put (by decide) (by decide) rfl (Nat.le_of_ble_eq_true rfl) dX4_putNumber_14) ?_
    exact qr_sub [0, 1] rfl (wb_X4_putNumber_17 (l := l) (E := E) r2 v1 h hT)
theorem ct_X4_putNumber {l : Launch} {E : qm_E} (σ : qm_M) (v1 : Int32) {x : qm_M} (h : fn_X4_putNumber σ v1 = some x) : qm_Ct l E kd_X4_putNumber yX4_putNumber cX4_putNumber 2 none [.ref (qm_a E 208), .int v1] σ (none, x) := qm_ofWp rfl (Nat.le_of_ble_eq_true rfl) (rfl) (wf_X4_putNumber σ v1  h rfl)
-- HungStreams$TreeWriter.writeChildren (LHungStreams$Tree;II)V
theorem yd_X4_writeChildren : (yX4_writeChildren).cls ≠ "java/lang/invoke/MethodHandle" ∧ (yX4_writeChildren).cls ≠ "java/lang/invoke/VarHandle" ∧ (parseMethodDescriptor (yX4_writeChildren).desc).map (fun d => d.parameters.length) = some 3 := by decide +kernel
abbrev pp_X4_writeChildren_13 (l : Launch) (E : qm_E) (dd : Nat) (v1 : Nat) (v2 : Int32) (v3 : Int32) : (Int32 × Int32 × qm_M) → Option Value × qm_M → Prop := fun s r => qm_Wp l E (dd + 5) "HungStreams$TreeWriter" cX4_writeChildren 6 13 [(0, .ref (qm_a E 208)), (1, .ref (qm_a E v1)), (2, .int v2), (3, .int v3), (4, .int s.1), (5, .int s.2.1)] [] s.2.2 r
def bb_X4_writeChildren_41 (fr : qm_M → Nat → Int32 → Int32 → Option qm_M) (σ : qm_M) (v1 : Nat) (v2 : Int32) (v3 : Int32) (v5 : Int32) : Option ((Int32 × Int32 × qm_M) ⊕ (qm_M)) :=
  (fn_X4_putNumber σ v5).bind (fun r4 => (fn_X4_put r4 58).bind (fun r5 => if ¬ (v5 < 0 ∨ 13 ≤ v5.toNatClampNeg) then (fn_X4_putNumber r5 (r5.1 (v1 + 1 + 1 + v5.toNatClampNeg) 1)).bind (fun r7 => (fn_X3_childCount r7 v1 v5).bind (fun r8 => if r8 ≤ 0 then (some (v5 + 1)).bind (fun z9 => some (.inl (0, z9, r7))) else (fn_X4_put r7 40).bind (fun r10 => (fr r10 v1 v5 (v3 + 1)).bind (fun r11 => (fn_X4_put r11 41).bind (fun r12 => (some (v5 + 1)).bind (fun z13 => some (.inl (0, z13, r12)))))))) else none))
set_option maxRecDepth 20000 in
theorem wb_X4_writeChildren_41 {l : Launch} {E : qm_E} (dd : Nat) (fr : qm_M → Nat → Int32 → Int32 → Option qm_M) (IH : ∀ (σ : qm_M) (v1 : Nat) (v2 : Int32) (v3 : Int32) (hk1 : qm_kind v1 = 2) (x : qm_M), fr σ v1 v2 v3 = some x → qm_Ct l E (dd + 4) yX4_writeChildren cX4_writeChildren 6 none [.ref (qm_a E 208), .ref (qm_a E v1), .int v2, .int v3] σ (none, x)) (σ : qm_M) (v1 : Nat) (v2 : Int32) (v3 : Int32) (v5 : Int32) (hk1 : qm_kind v1 = 2) {x : (Int32 × Int32 × qm_M) ⊕ (qm_M)} (h : bb_X4_writeChildren_41 fr σ v1 v2 v3 v5 = some x) {r : Option Value × qm_M} (hT : (qm_T (pp_X4_writeChildren_13 l E dd v1 v2 v3) (fun x r => (none, x) = r)) x r) : qm_Wp l E (dd + 5) "HungStreams$TreeWriter" cX4_writeChildren 6 41 [(0, .ref (qm_a E 208)), (1, .ref (qm_a E v1)), (2, .int v2), (3, .int v3), (5, .int v5)] [] σ r := by
  unfold bb_X4_writeChildren_41 at h
  refine qr_iconst (v := 0) dX4_writeChildren_41 (by decide) ?_
  refine qr_istore (lv' := [(4, .int 0), (0, .ref (qm_a E 208)), (1, .ref (qm_a E v1)), (2, .int v2), (3, .int v3), (5, .int v5)]) dX4_writeChildren_42 (by decide) rfl ?_
  refine qr_aload_n dX4_writeChildren_44 rfl 1 rfl ?_
  refine qr_iload dX4_writeChildren_45 5 rfl ?_
  obtain ⟨r4, er4, h⟩ := qm_bind h
  refine qr_call1 (st1 := []) rfl (qr_callV (id := 208) (c := 2) (As := [.int v5]) (st := []) rfl (by decide) rfl (ct_X4_putNumber (l := l) (E := E) σ v5 er4) qw_589 qw_5 qw_586 qw_588 qs_4 yd_X4_putNumber (by decide) (show 2 + 1 ≤ dd + 5 by omega) rfl (Nat.le_of_ble_eq_true rfl) dX4_writeChildren_47) ?_
  refine qr_aload_n dX4_writeChildren_50 rfl 1 rfl ?_
  refine qr_bipush (v := 58) dX4_writeChildren_51 (by decide) ?_
  obtain ⟨r5, er5, h⟩ := qm_bind h
  refine qr_call1 (st1 := []) rfl (qr_callV (id := 208) (c := 2) (As := [.int 58]) (st := []) rfl (by decide) rfl (ct_X4_put (l := l) (E := E) r4 58 er5) qw_585 qw_5 qw_582 qw_584 qs_3 yd_X4_put (by decide) (show 1 + 1 ≤ dd + 5 by omega) rfl (Nat.le_of_ble_eq_true rfl) dX4_writeChildren_53) ?_
  refine qr_aload_n dX4_writeChildren_56 rfl 1 rfl ?_
  refine qr_aload_n dX4_writeChildren_57 rfl 2 rfl ?_
  refine qr_get1 (k := 0) (v := .ref (qm_a E (v1 + 1))) hk1 (by decide) rfl qw_109 dX4_writeChildren_58 ?_
  refine qr_iload dX4_writeChildren_61 5 rfl ?_
  obtain ⟨c6, h⟩ := qm_chk h
  refine qr_aalds (qm_k_arr hk1) c6 dX4_writeChildren_63 ?_
  refine qr_get0 (k := 1) (v := .int (r5.1 (v1 + 1 + 1 + v5.toNatClampNeg) 1)) (qm_k_str (qm_k_arr hk1) c6) (by decide) rfl qw_39 dX4_writeChildren_64 ?_
  obtain ⟨r7, er7, h⟩ := qm_bind h
  refine qr_call1 (st1 := []) rfl (qr_callV (id := 208) (c := 2) (As := [.int (r5.1 (v1 + 1 + 1 + v5.toNatClampNeg) 1)]) (st := []) rfl (by decide) rfl (ct_X4_putNumber (l := l) (E := E) r5 (r5.1 (v1 + 1 + 1 + v5.toNatClampNeg) 1) er7) qw_589 qw_5 qw_586 qw_588 qs_4 yd_X4_putNumber (by decide) (show 2 + 1 ≤ dd + 5 by omega) rfl (Nat.le_of_ble_eq_true rfl) dX4_writeChildren_67) ?_
  refine qr_aload_n dX4_writeChildren_70 rfl 2 rfl ?_
  refine qr_iload dX4_writeChildren_71 5 rfl ?_
  obtain ⟨r8, er8, h⟩ := qm_bind h
  refine qr_call1 (st1 := [.int r8]) rfl (qr_callV (id := v1) (c := 1) (As := [.int v5]) (st := []) hk1 (by decide) rfl (ct_X3_childCount (l := l) (E := E) r7 v1 v5 hk1 er8) qw_307 qw_2 qw_590 qw_305 qw_306 yd_X3_childCount (by decide) (show 3 + 1 ≤ dd + 5 by omega) rfl (Nat.le_of_ble_eq_true rfl) dX4_writeChildren_73) ?_
  refine qr_if_le (tgt := 101) dX4_writeChildren_76 (by decide) (fun c14 => ?_) (fun c14 => ?_)
  · rw [if_pos c14] at h
    obtain ⟨z9, ez9, h⟩ := qm_bind h
    refine qr_iinc (q := 5) (v := z9) (lv' := [(5, .int z9), (4, .int 0), (0, .ref (qm_a E 208)), (1, .ref (qm_a E v1)), (2, .int v2), (3, .int v3)]) dX4_writeChildren_101 rfl (Option.some.inj ez9) (by decide) rfl ?_
    refine qr_goto (tgt := 13) dX4_writeChildren_104 (by decide) ?_
    obtain rfl := Option.some.inj h
    exact qr_sub [2, 3, 4, 5, 1, 0] rfl hT
  · rw [if_neg c14] at h
    refine qr_aload_n dX4_writeChildren_79 rfl 1 rfl ?_
    refine qr_bipush (v := 40) dX4_writeChildren_80 (by decide) ?_
    obtain ⟨r10, er10, h⟩ := qm_bind h
    refine qr_call1 (st1 := []) rfl (qr_callV (id := 208) (c := 2) (As := [.int 40]) (st := []) rfl (by decide) rfl (ct_X4_put (l := l) (E := E) r7 40 er10) qw_585 qw_5 qw_582 qw_584 qs_3 yd_X4_put (by decide) (show 1 + 1 ≤ dd + 5 by omega) rfl (Nat.le_of_ble_eq_true rfl) dX4_writeChildren_82) ?_
    refine qr_aload_n dX4_writeChildren_85 rfl 1 rfl ?_
    refine qr_aload_n dX4_writeChildren_86 rfl 2 rfl ?_
    refine qr_iload dX4_writeChildren_87 5 rfl ?_
    refine qr_iload_n dX4_writeChildren_89 rfl 4 rfl ?_
    refine qr_iconst (v := 1) dX4_writeChildren_90 (by decide) ?_
    refine qr_iadd dX4_writeChildren_91 ?_
    obtain ⟨r11, er11, h⟩ := qm_bind h
    refine qr_call1 (st1 := []) rfl (qr_callV (id := 208) (c := 2) (As := [.ref (qm_a E v1), .int v5, .int (v3 + 1)]) (st := []) rfl (by decide) rfl (IH r10 v1 v5 (v3 + 1) hk1 _ er11) qw_580 qw_5 qw_577 qw_579 qs_2 yd_X4_writeChildren (by decide) (by omega) rfl (Nat.le_of_ble_eq_true rfl) dX4_writeChildren_92) ?_
    refine qr_aload_n dX4_writeChildren_95 rfl 1 rfl ?_
    refine qr_bipush (v := 41) dX4_writeChildren_96 (by decide) ?_
    obtain ⟨r12, er12, h⟩ := qm_bind h
    refine qr_call1 (st1 := []) rfl (qr_callV (id := 208) (c := 2) (As := [.int 41]) (st := []) rfl (by decide) rfl (ct_X4_put (l := l) (E := E) r11 41 er12) qw_585 qw_5 qw_582 qw_584 qs_3 yd_X4_put (by decide) (show 1 + 1 ≤ dd + 5 by omega) rfl (Nat.le_of_ble_eq_true rfl) dX4_writeChildren_98) ?_
    obtain ⟨z13, ez13, h⟩ := qm_bind h
    refine qr_iinc (q := 5) (v := z13) (lv' := [(5, .int z13), (4, .int 0), (0, .ref (qm_a E 208)), (1, .ref (qm_a E v1)), (2, .int v2), (3, .int v3)]) dX4_writeChildren_101 rfl (Option.some.inj ez13) (by decide) rfl ?_
    refine qr_goto (tgt := 13) dX4_writeChildren_104 (by decide) ?_
    obtain rfl := Option.some.inj h
    exact qr_sub [2, 3, 4, 5, 1, 0] rfl hT
def bb_X4_writeChildren_13 (fr : qm_M → Nat → Int32 → Int32 → Option qm_M) (σ : qm_M) (v1 : Nat) (v2 : Int32) (v3 : Int32) (v4 : Int32) (v5 : Int32) : Option ((Int32 × Int32 × qm_M) ⊕ (qm_M)) :=
  if 12 < v5 then (some σ).bind (fun y => some (.inr y)) else (fn_X3_isChild σ v1 v5 v2).bind (fun r2 => if (qm_b r2) = 0 then (some (v5 + 1)).bind (fun z3 => some (.inl (v4, z3, σ))) else if v4 = 0 then (fn_X4_put σ 32).bind (fun r15 => bb_X4_writeChildren_41 fr r15 v1 v2 v3 v5) else bb_X4_writeChildren_41 fr σ v1 v2 v3 v5)
set_option maxRecDepth 20000 in
theorem wb_X4_writeChildren_13 {l : Launch} {E : qm_E} (dd : Nat) (fr : qm_M → Nat → Int32 → Int32 → Option qm_M) (IH : ∀ (σ : qm_M) (v1 : Nat) (v2 : Int32) (v3 : Int32) (hk1 : qm_kind v1 = 2) (x : qm_M), fr σ v1 v2 v3 = some x → qm_Ct l E (dd + 4) yX4_writeChildren cX4_writeChildren 6 none [.ref (qm_a E 208), .ref (qm_a E v1), .int v2, .int v3] σ (none, x)) (σ : qm_M) (v1 : Nat) (v2 : Int32) (v3 : Int32) (v4 : Int32) (v5 : Int32) (hk1 : qm_kind v1 = 2) {x : (Int32 × Int32 × qm_M) ⊕ (qm_M)} (h : bb_X4_writeChildren_13 fr σ v1 v2 v3 v4 v5 = some x) {r : Option Value × qm_M} (hT : (qm_T (pp_X4_writeChildren_13 l E dd v1 v2 v3) (fun x r => (none, x) = r)) x r) : qm_Wp l E (dd + 5) "HungStreams$TreeWriter" cX4_writeChildren 6 13 [(0, .ref (qm_a E 208)), (1, .ref (qm_a E v1)), (2, .int v2), (3, .int v3), (4, .int v4), (5, .int v5)] [] σ r := by
  unfold bb_X4_writeChildren_13 at h
  refine qr_iload dX4_writeChildren_13 5 rfl ?_
  refine qr_bipush (v := 12) dX4_writeChildren_15 (by decide) ?_
  refine qr_icmp_gt (tgt := 107) dX4_writeChildren_17 (by decide) (fun c18 => ?_) (fun c18 => ?_)
  · rw [if_pos c18] at h
    obtain ⟨y1, h1, hx⟩ := qm_bind h
    clear h
    cases hx
    have h := h1
    obtain rfl := Option.some.inj h
    cases hT
    exact qr_vret dX4_writeChildren_107
  · rw [if_neg c18] at h
    refine qr_aload_n dX4_writeChildren_20 rfl 1 rfl ?_
    refine qr_iload dX4_writeChildren_21 5 rfl ?_
    refine qr_iload_n dX4_writeChildren_23 rfl 2 rfl ?_
    obtain ⟨r2, er2, h⟩ := qm_bind h
    refine qr_call1 (st1 := [.int (qm_b r2)]) rfl (qr_callV (id := v1) (c := 1) (As := [.int v5, .int v2]) (st := []) hk1 (by decide) rfl (ct_X3_isChild (l := l) (E := E) σ v1 v5 v2 hk1 er2) qw_299 qw_2 qw_581 qw_297 qw_298 yd_X3_isChild (by decide) (show 2 + 1 ≤ dd + 5 by omega) rfl (Nat.le_of_ble_eq_true rfl) dX4_writeChildren_24) ?_
    refine qr_if_eq (tgt := 101) dX4_writeChildren_27 (by decide) (fun c17 => ?_) (fun c17 => ?_)
    · rw [if_pos c17] at h
      obtain ⟨z3, ez3, h⟩ := qm_bind h
      refine qr_iinc (q := 5) (v := z3) (lv' := [(5, .int z3), (0, .ref (qm_a E 208)), (1, .ref (qm_a E v1)), (2, .int v2), (3, .int v3), (4, .int v4)]) dX4_writeChildren_101 rfl (Option.some.inj ez3) (by decide) rfl ?_
      refine qr_goto (tgt := 13) dX4_writeChildren_104 (by decide) ?_
      obtain rfl := Option.some.inj h
      exact qr_sub [1, 2, 3, 4, 5, 0] rfl hT
    · rw [if_neg c17] at h
      refine qr_iload dX4_writeChildren_30 4 rfl ?_
      refine qr_if_ne (tgt := 41) dX4_writeChildren_32 (by decide) (fun c16 => ?_) (fun c16 => ?_)
      · rw [if_neg c16] at h
        exact qr_sub [0, 1, 2, 3, 5] rfl (wb_X4_writeChildren_41 (l := l) (E := E) dd fr IH σ v1 v2 v3 v5 hk1 h hT)
      · rw [if_pos c16] at h
        refine qr_aload_n dX4_writeChildren_35 rfl 0 rfl ?_
        refine qr_bipush (v := 32) dX4_writeChildren_36 (by decide) ?_
        obtain ⟨r15, er15, h⟩ := qm_bind h
        refine qr_call1 (st1 := []) rfl (qr_callV (id := 208) (c := 2) (As := [.int 32]) (st := []) rfl (by decide) rfl (ct_X4_put (l := l) (E := E) σ 32 er15) qw_585 qw_5 qw_582 qw_584 qs_3 yd_X4_put (by decide) (show 1 + 1 ≤ dd + 5 by omega) rfl (Nat.le_of_ble_eq_true rfl) dX4_writeChildren_38) ?_
        exact qr_sub [0, 1, 2, 3, 5] rfl (wb_X4_writeChildren_41 (l := l) (E := E) dd fr IH r15 v1 v2 v3 v5 hk1 h hT)
def lp_X4_writeChildren_13 (fr : qm_M → Nat → Int32 → Int32 → Option qm_M) (σ : qm_M) (v1 : Nat) (v2 : Int32) (v3 : Int32) (v4 : Int32) (v5 : Int32) : Option (qm_M) := qm_loop (fun s : Int32 × Int32 × qm_M => bb_X4_writeChildren_13 fr s.2.2 v1 v2 v3 s.1 s.2.1) 1000 (v4, v5, σ)
theorem wl_X4_writeChildren_13 {l : Launch} {E : qm_E} (dd : Nat) (fr : qm_M → Nat → Int32 → Int32 → Option qm_M) (IH : ∀ (σ : qm_M) (v1 : Nat) (v2 : Int32) (v3 : Int32) (hk1 : qm_kind v1 = 2) (x : qm_M), fr σ v1 v2 v3 = some x → qm_Ct l E (dd + 4) yX4_writeChildren cX4_writeChildren 6 none [.ref (qm_a E 208), .ref (qm_a E v1), .int v2, .int v3] σ (none, x)) (σ : qm_M) (v1 : Nat) (v2 : Int32) (v3 : Int32) (v4 : Int32) (v5 : Int32) (hk1 : qm_kind v1 = 2) {x : qm_M} (h : lp_X4_writeChildren_13 fr σ v1 v2 v3 v4 v5 = some x) {r : Option Value × qm_M} (hT : (fun x r => (none, x) = r) x r) : qm_Wp l E (dd + 5) "HungStreams$TreeWriter" cX4_writeChildren 6 13 [(0, .ref (qm_a E 208)), (1, .ref (qm_a E v1)), (2, .int v2), (3, .int v3), (4, .int v4), (5, .int v5)] [] σ r :=
  qm_loop_T (P := pp_X4_writeChildren_13 l E dd v1 v2 v3) (T1 := (fun x r => (none, x) = r)) (fun s x h r hT => wb_X4_writeChildren_13 (l := l) (E := E) dd fr IH s.2.2 v1 v2 v3 s.1 s.2.1 hk1 h hT) h hT
def fb_X4_writeChildren (fr : qm_M → Nat → Int32 → Int32 → Option qm_M) (σ : qm_M) (v1 : Nat) (v2 : Int32) (v3 : Int32) : Option (qm_M) :=
  if v3 ≤ 12 then lp_X4_writeChildren_13 fr σ v1 v2 v3 1 1 else some σ
set_option maxRecDepth 20000 in
theorem wf_X4_writeChildren {l : Launch} {E : qm_E} (dd : Nat) (fr : qm_M → Nat → Int32 → Int32 → Option qm_M) (IH : ∀ (σ : qm_M) (v1 : Nat) (v2 : Int32) (v3 : Int32) (hk1 : qm_kind v1 = 2) (x : qm_M), fr σ v1 v2 v3 = some x → qm_Ct l E (dd + 4) yX4_writeChildren cX4_writeChildren 6 none [.ref (qm_a E 208), .ref (qm_a E v1), .int v2, .int v3] σ (none, x)) (σ : qm_M) (v1 : Nat) (v2 : Int32) (v3 : Int32) (hk1 : qm_kind v1 = 2) {x : qm_M} (h : fb_X4_writeChildren fr σ v1 v2 v3 = some x) {r : Option Value × qm_M} (hT : (fun x r => (none, x) = r) x r) : qm_Wp l E (dd + 5) "HungStreams$TreeWriter" cX4_writeChildren 6 0 [(0, .ref (qm_a E 208)), (1, .ref (qm_a E v1)), (2, .int v2), (3, .int v3)] [] σ r := by
  unfold fb_X4_writeChildren at h
  refine qr_iload_n dX4_writeChildren_0 rfl 3 rfl ?_
  refine qr_bipush (v := 12) dX4_writeChildren_1 (by decide) ?_
  refine qr_icmp_le (tgt := 7) dX4_writeChildren_3 (by decide) (fun c19 => ?_) (fun c19 => ?_)
  · rw [if_pos c19] at h
    refine qr_iconst (v := 1) dX4_writeChildren_7 (by decide) ?_
    refine qr_istore (lv' := [(4, .int 1), (0, .ref (qm_a E 208)), (1, .ref (qm_a E v1)), (2, .int v2), (3, .int v3)]) dX4_writeChildren_8 (by decide) rfl ?_
    refine qr_iconst (v := 1) dX4_writeChildren_10 (by decide) ?_
    refine qr_istore (lv' := [(5, .int 1), (4, .int 1), (0, .ref (qm_a E 208)), (1, .ref (qm_a E v1)), (2, .int v2), (3, .int v3)]) dX4_writeChildren_11 (by decide) rfl ?_
    exact qr_sub [2, 3, 4, 5, 1, 0] rfl (wl_X4_writeChildren_13 (l := l) (E := E) dd fr IH σ v1 v2 v3 1 1 hk1 h hT)
  · rw [if_neg c19] at h
    obtain rfl := Option.some.inj h
    cases hT
    exact qr_vret dX4_writeChildren_6
def fn_X4_writeChildren : Nat → qm_M → Nat → Int32 → Int32 → Option qm_M
  | 0 => fun _ _ _ _ => none
  | n + 1 => fun σ v1 v2 v3 => fb_X4_writeChildren (fn_X4_writeChildren n) σ v1 v2 v3
theorem ct_X4_writeChildren {l : Launch} {E : qm_E} : ∀ (n : Nat) (σ : qm_M) (v1 : Nat) (v2 : Int32) (v3 : Int32) (hk1 : qm_kind v1 = 2) {x : qm_M} (h : fn_X4_writeChildren n σ v1 v2 v3 = some x), qm_Ct l E (n + 4) yX4_writeChildren cX4_writeChildren 6 none [.ref (qm_a E 208), .ref (qm_a E v1), .int v2, .int v3] σ (none, x)
  | 0, σ, v1, v2, v3, hk1, x, h => by cases h
  | n + 1, σ, v1, v2, v3, hk1, x, h => qm_ofWp rfl (Nat.le_of_ble_eq_true rfl) rfl (wf_X4_writeChildren (dd := n) (fr := fn_X4_writeChildren n) (IH := fun σ v1 v2 v3 hk1 x h => ct_X4_writeChildren n σ v1 v2 v3 hk1 h) σ v1 v2 v3 hk1 h rfl)
-- HungStreams$TreeWriter.write (LHungStreams$Tree;)V
abbrev kd_X4_write : Nat := 25
theorem yd_X4_write : (yX4_write).cls ≠ "java/lang/invoke/MethodHandle" ∧ (yX4_write).cls ≠ "java/lang/invoke/VarHandle" ∧ (parseMethodDescriptor (yX4_write).desc).map (fun d => d.parameters.length) = some 1 := by decide +kernel
def fn_X4_write (σ : qm_M) (v1 : Nat) : Option (qm_M) :=
  (some (qm_si σ 208 1 0)).bind (fun σ1 => (fn_X4_writeChildren 20 σ1 v1 0 0).bind (fun r2 => some r2))
set_option maxRecDepth 20000 in
theorem wf_X4_write {l : Launch} {E : qm_E} (σ : qm_M) (v1 : Nat) (hk1 : qm_kind v1 = 2) {x : qm_M} (h : fn_X4_write σ v1 = some x) {r : Option Value × qm_M} (hT : (fun x r => (none, x) = r) x r) : qm_Wp l E kd_X4_write "HungStreams$TreeWriter" cX4_write 2 0 [(0, .ref (qm_a E 208)), (1, .ref (qm_a E v1))] [] σ r := by
  unfold fn_X4_write at h
  refine qr_aload_n dX4_write_0 rfl 0 rfl ?_
  refine qr_iconst (v := 0) dX4_write_1 (by decide) ?_
  obtain ⟨σ1, eσ1, h⟩ := qm_bind h
  refine qr_put2_1 rfl qw_209 dX4_write_2 (qr_eqm (Option.some.inj eσ1) ?_)
  refine qr_aload_n dX4_write_5 rfl 0 rfl ?_
  refine qr_aload_n dX4_write_6 rfl 1 rfl ?_
  refine qr_iconst (v := 0) dX4_write_7 (by decide) ?_
  refine qr_iconst (v := 0) dX4_write_8 (by decide) ?_
  obtain ⟨r2, er2, h⟩ := qm_bind h
  refine qr_call1 (st1 := []) rfl (qr_callV (id := 208) (c := 2) (As := [.ref (qm_a E v1), .int 0, .int 0]) (st := []) rfl (by decide) rfl (ct_X4_writeChildren (l := l) (E := E) 20 σ1 v1 0 0 hk1 er2) qw_580 qw_5 qw_577 qw_579 qs_2 yd_X4_writeChildren (by decide) (by decide) rfl (Nat.le_of_ble_eq_true rfl) dX4_write_9) ?_
  obtain rfl := Option.some.inj h
  cases hT
  exact qr_vret dX4_write_12
theorem ct_X4_write {l : Launch} {E : qm_E} (σ : qm_M) (v1 : Nat) (hk1 : qm_kind v1 = 2) {x : qm_M} (h : fn_X4_write σ v1 = some x) : qm_Ct l E kd_X4_write yX4_write cX4_write 2 none [.ref (qm_a E 208), .ref (qm_a E v1)] σ (none, x) := qm_ofWp rfl (Nat.le_of_ble_eq_true rfl) (rfl) (wf_X4_write σ v1 hk1 h rfl)
-- HungStreams$TypedText.append (I)V
abbrev kd_X5_append : Nat := 1
theorem yd_X5_append : (yX5_append).cls ≠ "java/lang/invoke/MethodHandle" ∧ (yX5_append).cls ≠ "java/lang/invoke/VarHandle" ∧ (parseMethodDescriptor (yX5_append).desc).map (fun d => d.parameters.length) = some 1 := by decide +kernel
def fn_X5_append (σ : qm_M) (v1 : Int32) : Option (qm_M) :=
  if 120 ≤ (σ.1 202 1) then some σ else if ¬ ((σ.1 202 1) < 0 ∨ 120 ≤ (σ.1 202 1).toNatClampNeg) then (some (qm_si σ 203 (σ.1 202 1).toNatClampNeg v1)).bind (fun σ2 => (some (qm_si σ2 202 1 ((σ2.1 202 1) + 1))).bind (fun σ3 => some σ3)) else none
set_option maxRecDepth 20000 in
theorem wf_X5_append {l : Launch} {E : qm_E} (σ : qm_M) (v1 : Int32) {x : qm_M} (h : fn_X5_append σ v1 = some x) {r : Option Value × qm_M} (hT : (fun x r => (none, x) = r) x r) : qm_Wp l E kd_X5_append "HungStreams$TypedText" cX5_append 2 0 [(0, .ref (qm_a E 202)), (1, .int v1)] [] σ r := by
  unfold fn_X5_append at h
  refine qr_aload_n dX5_append_0 rfl 0 rfl ?_
  refine qr_get3 (k := 1) (v := .int (σ.1 202 1)) rfl (by decide) rfl qw_165 dX5_append_1 ?_
  refine qr_bipush (v := 120) dX5_append_4 (by decide) ?_
  refine qr_icmp_ge (tgt := 29) dX5_append_6 (by decide) (fun c4 => ?_) (fun c4 => ?_)
  · rw [if_pos c4] at h
    obtain rfl := Option.some.inj h
    cases hT
    exact qr_vret dX5_append_29
  · rw [if_neg c4] at h
    refine qr_aload_n dX5_append_9 rfl 0 rfl ?_
    refine qr_get3 (k := 0) (v := .ref (qm_a E 203)) rfl (by decide) rfl qw_164 dX5_append_10 ?_
    refine qr_aload_n dX5_append_13 rfl 0 rfl ?_
    refine qr_get3 (k := 1) (v := .int (σ.1 202 1)) rfl (by decide) rfl qw_165 dX5_append_14 ?_
    refine qr_iload_n dX5_append_17 rfl 1 rfl ?_
    obtain ⟨c1, h⟩ := qm_chk h
    obtain ⟨σ2, eσ2, h⟩ := qm_bind h
    refine qr_iast rfl c1 dX5_append_18 (qr_eqm (Option.some.inj eσ2) ?_)
    refine qr_aload_n dX5_append_19 rfl 0 rfl ?_
    refine qr_dup dX5_append_20 rfl ?_
    refine qr_get3 (k := 1) (v := .int (σ2.1 202 1)) rfl (by decide) rfl qw_165 dX5_append_21 ?_
    refine qr_iconst (v := 1) dX5_append_24 (by decide) ?_
    refine qr_iadd dX5_append_25 ?_
    obtain ⟨σ3, eσ3, h⟩ := qm_bind h
    refine qr_put3_1 rfl qw_165 dX5_append_26 (qr_eqm (Option.some.inj eσ3) ?_)
    obtain rfl := Option.some.inj h
    cases hT
    exact qr_vret dX5_append_29
theorem ct_X5_append {l : Launch} {E : qm_E} (σ : qm_M) (v1 : Int32) {x : qm_M} (h : fn_X5_append σ v1 = some x) : qm_Ct l E kd_X5_append yX5_append cX5_append 2 none [.ref (qm_a E 202), .int v1] σ (none, x) := qm_ofWp rfl (Nat.le_of_ble_eq_true rfl) (rfl) (wf_X5_append σ v1  h rfl)
-- HungStreams$TypedText.byteHere ()I
abbrev kd_X5_byteHere : Nat := 1
theorem yd_X5_byteHere : (yX5_byteHere).cls ≠ "java/lang/invoke/MethodHandle" ∧ (yX5_byteHere).cls ≠ "java/lang/invoke/VarHandle" ∧ (parseMethodDescriptor (yX5_byteHere).desc).map (fun d => d.parameters.length) = some 0 := by decide +kernel
def fn_X5_byteHere (σ : qm_M)  : Option (Int32) :=
  if (σ.1 202 1) ≤ (σ.1 202 8) then some (-1) else if ¬ ((σ.1 202 8) < 0 ∨ 120 ≤ (σ.1 202 8).toNatClampNeg) then some (σ.1 203 (σ.1 202 8).toNatClampNeg) else none
set_option maxRecDepth 20000 in
theorem wf_X5_byteHere {l : Launch} {E : qm_E} (σ : qm_M)  {x : Int32} (h : fn_X5_byteHere σ  = some x) {r : Option Value × qm_M} (hT : (fun x r => (some (.int x), σ) = r) x r) : qm_Wp l E kd_X5_byteHere "HungStreams$TypedText" cX5_byteHere 1 0 [(0, .ref (qm_a E 202))] [] σ r := by
  unfold fn_X5_byteHere at h
  refine qr_aload_n dX5_byteHere_0 rfl 0 rfl ?_
  refine qr_get3 (k := 8) (v := .int (σ.1 202 8)) rfl (by decide) rfl qw_177 dX5_byteHere_1 ?_
  refine qr_aload_n dX5_byteHere_4 rfl 0 rfl ?_
  refine qr_get3 (k := 1) (v := .int (σ.1 202 1)) rfl (by decide) rfl qw_165 dX5_byteHere_5 ?_
  refine qr_icmp_ge (tgt := 23) dX5_byteHere_8 (by decide) (fun c2 => ?_) (fun c2 => ?_)
  · rw [if_pos c2] at h
    refine qr_iconst (v := (-1)) dX5_byteHere_23 (by decide) ?_
    obtain rfl := Option.some.inj h
    cases hT
    exact qr_iret dX5_byteHere_24
  · rw [if_neg c2] at h
    refine qr_aload_n dX5_byteHere_11 rfl 0 rfl ?_
    refine qr_get3 (k := 0) (v := .ref (qm_a E 203)) rfl (by decide) rfl qw_164 dX5_byteHere_12 ?_
    refine qr_aload_n dX5_byteHere_15 rfl 0 rfl ?_
    refine qr_get3 (k := 8) (v := .int (σ.1 202 8)) rfl (by decide) rfl qw_177 dX5_byteHere_16 ?_
    obtain ⟨c1, h⟩ := qm_chk h
    refine qr_iald rfl c1 dX5_byteHere_19 ?_
    refine qr_goto (tgt := 24) dX5_byteHere_20 (by decide) ?_
    obtain rfl := Option.some.inj h
    cases hT
    exact qr_iret dX5_byteHere_24
theorem ct_X5_byteHere {l : Launch} {E : qm_E} (σ : qm_M)  {x : Int32} (h : fn_X5_byteHere σ  = some x) : qm_Ct l E kd_X5_byteHere yX5_byteHere cX5_byteHere 1 (some .int) [.ref (qm_a E 202)] σ (some (.int x), σ) := qm_ofWp rfl (Nat.le_of_ble_eq_true rfl) (Or.inl rfl) (wf_X5_byteHere σ   h rfl)
-- HungStreams$TypedText.byteBehindBlanks ()I
abbrev kd_X5_byteBehindBlanks : Nat := 2
theorem yd_X5_byteBehindBlanks : (yX5_byteBehindBlanks).cls ≠ "java/lang/invoke/MethodHandle" ∧ (yX5_byteBehindBlanks).cls ≠ "java/lang/invoke/VarHandle" ∧ (parseMethodDescriptor (yX5_byteBehindBlanks).desc).map (fun d => d.parameters.length) = some 0 := by decide +kernel
abbrev pp_X5_byteBehindBlanks_2 (l : Launch) (E : qm_E) : (Int32 × qm_M) → Option Value × qm_M → Prop := fun s r => qm_Wp l E kd_X5_byteBehindBlanks "HungStreams$TypedText" cX5_byteBehindBlanks 2 2 [(0, .ref (qm_a E 202)), (1, .int s.1)] [] s.2 r
def bb_X5_byteBehindBlanks_2 (σ : qm_M) (v1 : Int32) : Option ((Int32 × qm_M) ⊕ (Int32 × qm_M)) :=
  if 120 ≤ v1 then ((fn_X5_byteHere σ ).bind (fun r1 => some (r1, σ))).bind (fun y => some (.inr y)) else (fn_X5_byteHere σ ).bind (fun r3 => if r3 = 32 then (some (qm_si σ 202 8 ((σ.1 202 8) + 1))).bind (fun σ6 => (some (v1 + 1)).bind (fun z7 => some (.inl (z7, σ6)))) else ((fn_X5_byteHere σ ).bind (fun r4 => some (r4, σ))).bind (fun y => some (.inr y)))
set_option maxRecDepth 20000 in
theorem wb_X5_byteBehindBlanks_2 {l : Launch} {E : qm_E} (σ : qm_M) (v1 : Int32) {x : (Int32 × qm_M) ⊕ (Int32 × qm_M)} (h : bb_X5_byteBehindBlanks_2 σ v1 = some x) {r : Option Value × qm_M} (hT : (qm_T (pp_X5_byteBehindBlanks_2 l E) (fun x r => (some (.int x.1), x.2) = r)) x r) : qm_Wp l E kd_X5_byteBehindBlanks "HungStreams$TypedText" cX5_byteBehindBlanks 2 2 [(0, .ref (qm_a E 202)), (1, .int v1)] [] σ r := by
  unfold bb_X5_byteBehindBlanks_2 at h
  refine qr_iload_n dX5_byteBehindBlanks_2 rfl 1 rfl ?_
  refine qr_bipush (v := 120) dX5_byteBehindBlanks_3 (by decide) ?_
  refine qr_icmp_ge (tgt := 33) dX5_byteBehindBlanks_5 (by decide) (fun c9 => ?_) (fun c9 => ?_)
  · rw [if_pos c9] at h
    obtain ⟨y2, h1, hx⟩ := qm_bind h
    clear h
    cases hx
    have h := h1
    refine qr_aload_n dX5_byteBehindBlanks_33 rfl 0 rfl ?_
    obtain ⟨r1, er1, h⟩ := qm_bind h
    refine qr_call1 (st1 := [.int r1]) rfl (qr_callV (id := 202) (c := 3) (As := []) (st := []) rfl (by decide) rfl (ct_X5_byteHere (l := l) (E := E) σ  er1) qw_547 qw_4 qw_544 qw_545 qw_546 yd_X5_byteHere (by decide) (by decide) rfl (Nat.le_of_ble_eq_true rfl) dX5_byteBehindBlanks_34) ?_
    obtain rfl := Option.some.inj h
    cases hT
    exact qr_iret dX5_byteBehindBlanks_37
  · rw [if_neg c9] at h
    refine qr_aload_n dX5_byteBehindBlanks_8 rfl 0 rfl ?_
    obtain ⟨r3, er3, h⟩ := qm_bind h
    refine qr_call1 (st1 := [.int r3]) rfl (qr_callV (id := 202) (c := 3) (As := []) (st := []) rfl (by decide) rfl (ct_X5_byteHere (l := l) (E := E) σ  er3) qw_547 qw_4 qw_544 qw_545 qw_546 yd_X5_byteHere (by decide) (by decide) rfl (Nat.le_of_ble_eq_true rfl) dX5_byteBehindBlanks_9) ?_
    refine qr_bipush (v := 32) dX5_byteBehindBlanks_12 (by decide) ?_
    refine qr_icmp_ne (tgt := 33) dX5_byteBehindBlanks_14 (by decide) (fun c8 => ?_) (fun c8 => ?_)
    · rw [if_neg c8] at h
      obtain ⟨y5, h1, hx⟩ := qm_bind h
      clear h
      cases hx
      have h := h1
      refine qr_aload_n dX5_byteBehindBlanks_33 rfl 0 rfl ?_
      obtain ⟨r4, er4, h⟩ := qm_bind h
      refine qr_call1 (st1 := [.int r4]) rfl (qr_callV (id := 202) (c := 3) (As := []) (st := []) rfl (by decide) rfl (ct_X5_byteHere (l := l) (E := E) σ  er4) qw_547 qw_4 qw_544 qw_545 qw_546 yd_X5_byteHere (by decide) (by decide) rfl (Nat.le_of_ble_eq_true rfl) dX5_byteBehindBlanks_34) ?_
      obtain rfl := Option.some.inj h
      cases hT
      exact qr_iret dX5_byteBehindBlanks_37
    · rw [if_pos c8] at h
      refine qr_aload_n dX5_byteBehindBlanks_17 rfl 0 rfl ?_
      refine qr_dup dX5_byteBehindBlanks_18 rfl ?_
      refine qr_get3 (k := 8) (v := .int (σ.1 202 8)) rfl (by decide) rfl qw_177 dX5_byteBehindBlanks_19 ?_
      refine qr_iconst (v := 1) dX5_byteBehindBlanks_22 (by decide) ?_
      refine qr_iadd dX5_byteBehindBlanks_23 ?_
      obtain ⟨σ6, eσ6, h⟩ := qm_bind h
      refine qr_put3_8 rfl qw_177 dX5_byteBehindBlanks_24 (qr_eqm (Option.some.inj eσ6) ?_)
      obtain ⟨z7, ez7, h⟩ := qm_bind h
      refine qr_iinc (q := 1) (v := z7) (lv' := [(1, .int z7), (0, .ref (qm_a E 202))]) dX5_byteBehindBlanks_27 rfl (Option.some.inj ez7) (by decide) rfl ?_
      refine qr_goto (tgt := 2) dX5_byteBehindBlanks_30 (by decide) ?_
      obtain rfl := Option.some.inj h
      exact qr_sub [1, 0] rfl hT
def lp_X5_byteBehindBlanks_2 (σ : qm_M) (v1 : Int32) : Option (Int32 × qm_M) := qm_loop (fun s : Int32 × qm_M => bb_X5_byteBehindBlanks_2 s.2 s.1) 1000 (v1, σ)
theorem wl_X5_byteBehindBlanks_2 {l : Launch} {E : qm_E} (σ : qm_M) (v1 : Int32) {x : Int32 × qm_M} (h : lp_X5_byteBehindBlanks_2 σ v1 = some x) {r : Option Value × qm_M} (hT : (fun x r => (some (.int x.1), x.2) = r) x r) : qm_Wp l E kd_X5_byteBehindBlanks "HungStreams$TypedText" cX5_byteBehindBlanks 2 2 [(0, .ref (qm_a E 202)), (1, .int v1)] [] σ r :=
  qm_loop_T (P := pp_X5_byteBehindBlanks_2 l E) (T1 := (fun x r => (some (.int x.1), x.2) = r)) (fun s x h r hT => wb_X5_byteBehindBlanks_2 (l := l) (E := E) s.2 s.1  h hT) h hT
def fn_X5_byteBehindBlanks (σ : qm_M)  : Option (Int32 × qm_M) :=
  lp_X5_byteBehindBlanks_2 σ 0
set_option maxRecDepth 20000 in
theorem wf_X5_byteBehindBlanks {l : Launch} {E : qm_E} (σ : qm_M)  {x : Int32 × qm_M} (h : fn_X5_byteBehindBlanks σ  = some x) {r : Option Value × qm_M} (hT : (fun x r => (some (.int x.1), x.2) = r) x r) : qm_Wp l E kd_X5_byteBehindBlanks "HungStreams$TypedText" cX5_byteBehindBlanks 2 0 [(0, .ref (qm_a E 202))] [] σ r := by
  unfold fn_X5_byteBehindBlanks at h
  refine qr_iconst (v := 0) dX5_byteBehindBlanks_0 (by decide) ?_
  refine qr_istore_n (lv' := [(1, .int 0), (0, .ref (qm_a E 202))]) dX5_byteBehindBlanks_1 rfl (by decide) rfl ?_
  exact qr_sub [1, 0] rfl (wl_X5_byteBehindBlanks_2 (l := l) (E := E) σ 0 h hT)
theorem ct_X5_byteBehindBlanks {l : Launch} {E : qm_E} (σ : qm_M)  {x : Int32 × qm_M} (h : fn_X5_byteBehindBlanks σ  = some x) : qm_Ct l E kd_X5_byteBehindBlanks yX5_byteBehindBlanks cX5_byteBehindBlanks 2 (some .int) [.ref (qm_a E 202)] σ (some (.int x.1), x.2) := qm_ofWp rfl (Nat.le_of_ble_eq_true rfl) (Or.inl rfl) (wf_X5_byteBehindBlanks σ   h rfl)
-- HungStreams$TypedText.isFigure (I)Z
abbrev kd_X5_isFigure : Nat := 2
theorem yd_X5_isFigure : (yX5_isFigure).cls ≠ "java/lang/invoke/MethodHandle" ∧ (yX5_isFigure).cls ≠ "java/lang/invoke/VarHandle" ∧ (parseMethodDescriptor (yX5_isFigure).desc).map (fun d => d.parameters.length) = some 1 := by decide +kernel
def fn_X5_isFigure (σ : qm_M) (v0 : Int32) : Option (Bool) :=
  (fn_X6_within σ v0 48 57).bind (fun r1 => some r1)
set_option maxRecDepth 20000 in
theorem wf_X5_isFigure {l : Launch} {E : qm_E} (σ : qm_M) (v0 : Int32) {x : Bool} (h : fn_X5_isFigure σ v0 = some x) {r : Option Value × qm_M} (hT : (fun x r => (some (.int (qm_b x)), σ) = r) x r) : qm_Wp l E kd_X5_isFigure "HungStreams$TypedText" cX5_isFigure 1 0 [(0, .int v0)] [] σ r := by
  unfold fn_X5_isFigure at h
  refine qr_iload_n dX5_isFigure_0 rfl 0 rfl ?_
  refine qr_bipush (v := 48) dX5_isFigure_1 (by decide) ?_
  refine qr_bipush (v := 57) dX5_isFigure_3 (by decide) ?_
  obtain ⟨r1, er1, h⟩ := qm_bind h
  refine qr_call1 (st1 := [.int (qm_b r1)]) rfl (qr_callN (host := "HungStreams") (As := [.int v0, .int 48, .int 57]) (st := []) (ct_X6_within (l := l) (E := E) σ v0 48 57 er1) qw_250 qw_1 (List.mem_of_getElem? (i := 8) rfl) qw_249 yd_X6_within (by decide) (by decide) rfl (Nat.le_of_ble_eq_true rfl) dX5_isFigure_5) ?_
  obtain rfl := Option.some.inj h
  cases hT
  exact qr_iret dX5_isFigure_8
theorem ct_X5_isFigure {l : Launch} {E : qm_E} (σ : qm_M) (v0 : Int32) {x : Bool} (h : fn_X5_isFigure σ v0 = some x) : qm_Ct l E kd_X5_isFigure yX5_isFigure cX5_isFigure 1 (some .boolean) [.int v0] σ (some (.int (qm_b x)), σ) := qm_ofWp rfl (Nat.le_of_ble_eq_true rfl) (qm_rtz _) (wf_X5_isFigure σ v0  h rfl)
-- HungStreams$TypedText.readNumber (I)I
abbrev kd_X5_readNumber : Nat := 3
theorem yd_X5_readNumber : (yX5_readNumber).cls ≠ "java/lang/invoke/MethodHandle" ∧ (yX5_readNumber).cls ≠ "java/lang/invoke/VarHandle" ∧ (parseMethodDescriptor (yX5_readNumber).desc).map (fun d => d.parameters.length) = some 1 := by decide +kernel
abbrev pp_X5_readNumber_10 (l : Launch) (E : qm_E) (v1 : Int32) (v2 : Int32) : (Int32 × Int32 × qm_M) → Option Value × qm_M → Prop := fun s r => qm_Wp l E kd_X5_readNumber "HungStreams$TypedText" cX5_readNumber 5 10 [(0, .ref (qm_a E 202)), (1, .int v1), (2, .int v2), (3, .int s.1), (4, .int s.2.1)] [] s.2.2 r
def bb_X5_readNumber_98 (σ : qm_M) (v3 : Int32) : Option (Int32 × qm_M) :=
  if (σ.1 202 9) = (-1) then some (v3, σ) else some ((-1), σ)
set_option maxRecDepth 20000 in
theorem wb_X5_readNumber_98 {l : Launch} {E : qm_E} (σ : qm_M) (v3 : Int32) {x : Int32 × qm_M} (h : bb_X5_readNumber_98 σ v3 = some x) {r : Option Value × qm_M} (hT : (fun x r => (some (.int x.1), x.2) = r) x r) : qm_Wp l E kd_X5_readNumber "HungStreams$TypedText" cX5_readNumber 5 98 [(0, .ref (qm_a E 202)), (3, .int v3)] [] σ r := by
  unfold bb_X5_readNumber_98 at h
  refine qr_aload_n dX5_readNumber_98 rfl 0 rfl ?_
  refine qr_get3 (k := 9) (v := .int (σ.1 202 9)) rfl (by decide) rfl qw_178 dX5_readNumber_99 ?_
  refine qr_iconst (v := (-1)) dX5_readNumber_102 (by decide) ?_
  refine qr_icmp_ne (tgt := 110) dX5_readNumber_103 (by decide) (fun c3 => ?_) (fun c3 => ?_)
  · rw [if_neg c3] at h
    refine qr_iconst (v := (-1)) dX5_readNumber_110 (by decide) ?_
    obtain rfl := Option.some.inj h
    cases hT
    exact qr_iret dX5_readNumber_111
  · rw [if_pos c3] at h
    refine qr_iload_n dX5_readNumber_106 rfl 1 rfl ?_
    refine qr_goto (tgt := 111) dX5_readNumber_107 (by decide) ?_
    obtain rfl := Option.some.inj h
    cases hT
    exact qr_iret dX5_readNumber_111
def bb_X5_readNumber_55 (σ : qm_M) (v1 : Int32) (v2 : Int32) (v3 : Int32) : Option (Int32 × qm_M) :=
  if (σ.1 202 8) = v2 then (some (qm_si σ 202 9 (σ.1 202 8))).bind (fun σ2 => bb_X5_readNumber_98 σ2 v3) else (fn_X5_byteHere σ ).bind (fun r4 => (fn_X5_isFigure σ r4).bind (fun r5 => if (qm_b r5) = 0 then (fn_X6_within σ v3 1 v1).bind (fun r6 => if (qm_b r6) = 0 then (some (qm_si σ 202 9 v2)).bind (fun σ7 => bb_X5_readNumber_98 σ7 v3) else bb_X5_readNumber_98 σ v3) else (some (qm_si σ 202 9 (σ.1 202 8))).bind (fun σ9 => bb_X5_readNumber_98 σ9 v3)))
set_option maxRecDepth 20000 in
theorem wb_X5_readNumber_55 {l : Launch} {E : qm_E} (σ : qm_M) (v1 : Int32) (v2 : Int32) (v3 : Int32) {x : Int32 × qm_M} (h : bb_X5_readNumber_55 σ v1 v2 v3 = some x) {r : Option Value × qm_M} (hT : (fun x r => (some (.int x.1), x.2) = r) x r) : qm_Wp l E kd_X5_readNumber "HungStreams$TypedText" cX5_readNumber 5 55 [(0, .ref (qm_a E 202)), (1, .int v1), (2, .int v2), (3, .int v3)] [] σ r := by
  unfold bb_X5_readNumber_55 at h
  refine qr_aload_n dX5_readNumber_55 rfl 0 rfl ?_
  refine qr_get3 (k := 8) (v := .int (σ.1 202 8)) rfl (by decide) rfl qw_177 dX5_readNumber_56 ?_
  refine qr_iload_n dX5_readNumber_59 rfl 2 rfl ?_
  refine qr_icmp_eq (tgt := 73) dX5_readNumber_60 (by decide) (fun c11 => ?_) (fun c11 => ?_)
  · rw [if_pos c11] at h
    refine qr_aload_n dX5_readNumber_73 rfl 0 rfl ?_
    refine qr_aload_n dX5_readNumber_74 rfl 0 rfl ?_
    refine qr_get3 (k := 8) (v := .int (σ.1 202 8)) rfl (by decide) rfl qw_177 dX5_readNumber_75 ?_
    obtain ⟨σ2, eσ2, h⟩ := qm_bind h
    refine qr_put3_9 rfl qw_178 dX5_readNumber_78 (qr_eqm (Option.some.inj eσ2) ?_)
    refine qr_goto (tgt := 98) dX5_readNumber_81 (by decide) ?_
    exact qr_sub [0, 3] rfl (wb_X5_readNumber_98 (l := l) (E := E) σ2 v3 h hT)
  · rw [if_neg c11] at h
    refine qr_aload_n dX5_readNumber_63 rfl 0 rfl ?_
    obtain ⟨r4, er4, h⟩ := qm_bind h
    refine qr_call1 (st1 := [.int r4]) rfl (qr_callV (id := 202) (c := 3) (As := []) (st := []) rfl (by decide) rfl (ct_X5_byteHere (l := l) (E := E) σ  er4) qw_547 qw_4 qw_544 qw_545 qw_546 yd_X5_byteHere (by decide) (by decide) rfl (Nat.le_of_ble_eq_true rfl) dX5_readNumber_64) ?_
    obtain ⟨r5, er5, h⟩ := qm_bind h
    refine qr_call1 (st1 := [.int (qm_b r5)]) rfl (qr_callS (As := [.int r4]) (st := []) (ct_X5_isFigure (l := l) (E := E) σ r4 er5) qw_550 qw_4 qw_548 qw_549 yd_X5_isFigure (by decide) (by decide) rfl (Nat.le_of_ble_eq_true rfl) dX5_readNumber_67) ?_
    refine qr_if_eq (tgt := 84) dX5_readNumber_70 (by decide) (fun c10 => ?_) (fun c10 => ?_)
    · rw [if_pos c10] at h
      refine qr_iload_n dX5_readNumber_84 rfl 3 rfl ?_
      refine qr_iconst (v := 1) dX5_readNumber_85 (by decide) ?_
      refine qr_iload_n dX5_readNumber_86 rfl 1 rfl ?_
      obtain ⟨r6, er6, h⟩ := qm_bind h
      refine qr_call1 (st1 := [.int (qm_b r6)]) rfl (qr_callN (host := "HungStreams") (As := [.int v3, .int 1, .int v1]) (st := []) (ct_X6_within (l := l) (E := E) σ v3 1 v1 er6) qw_250 qw_1 (List.mem_of_getElem? (i := 8) rfl) qw_249 yd_X6_within (by decide) (by decide) rfl (Nat.le_of_ble_eq_true rfl) dX5_readNumber_87) ?_
      refine qr_if_ne (tgt := 98) dX5_readNumber_90 (by decide) (fun c8 => ?_) (fun c8 => ?_)
      · rw [if_neg c8] at h
        exact qr_sub [0, 3] rfl (wb_X5_readNumber_98 (l := l) (E := E) σ v3 h hT)
      · rw [if_pos c8] at h
        refine qr_aload_n dX5_readNumber_93 rfl 0 rfl ?_
        refine qr_iload_n dX5_readNumber_94 rfl 2 rfl ?_
        obtain ⟨σ7, eσ7, h⟩ := qm_bind h
        refine qr_put3_9 rfl qw_178 dX5_readNumber_95 (qr_eqm (Option.some.inj eσ7) ?_)
        exact qr_sub [0, 3] rfl (wb_X5_readNumber_98 (l := l) (E := E) σ7 v3 h hT)
    · rw [if_neg c10] at h
      refine qr_aload_n dX5_readNumber_73 rfl 0 rfl ?_
      refine qr_aload_n dX5_readNumber_74 rfl 0 rfl ?_
      refine qr_get3 (k := 8) (v := .int (σ.1 202 8)) rfl (by decide) rfl qw_177 dX5_readNumber_75 ?_
      obtain ⟨σ9, eσ9, h⟩ := qm_bind h
      refine qr_put3_9 rfl qw_178 dX5_readNumber_78 (qr_eqm (Option.some.inj eσ9) ?_)
      refine qr_goto (tgt := 98) dX5_readNumber_81 (by decide) ?_
      exact qr_sub [0, 3] rfl (wb_X5_readNumber_98 (l := l) (E := E) σ9 v3 h hT)
def bb_X5_readNumber_10 (σ : qm_M) (v1 : Int32) (v2 : Int32) (v3 : Int32) (v4 : Int32) : Option ((Int32 × Int32 × qm_M) ⊕ (Int32 × qm_M)) :=
  if 2 ≤ v4 then (bb_X5_readNumber_55 σ v1 v2 v3).bind (fun y => some (.inr y)) else (fn_X5_byteHere σ ).bind (fun r13 => (fn_X5_isFigure σ r13).bind (fun r14 => if (qm_b r14) = 0 then (bb_X5_readNumber_55 σ v1 v2 v3).bind (fun y => some (.inr y)) else (fn_X5_byteHere σ ).bind (fun r16 => (some (((10 * v3) + r16) - 48)).bind (fun z17 => (some (qm_si σ 202 8 ((σ.1 202 8) + 1))).bind (fun σ18 => (some (v4 + 1)).bind (fun z19 => some (.inl (z17, z19, σ18))))))))
set_option maxRecDepth 20000 in
theorem wb_X5_readNumber_10 {l : Launch} {E : qm_E} (σ : qm_M) (v1 : Int32) (v2 : Int32) (v3 : Int32) (v4 : Int32) {x : (Int32 × Int32 × qm_M) ⊕ (Int32 × qm_M)} (h : bb_X5_readNumber_10 σ v1 v2 v3 v4 = some x) {r : Option Value × qm_M} (hT : (qm_T (pp_X5_readNumber_10 l E v1 v2) (fun x r => (some (.int x.1), x.2) = r)) x r) : qm_Wp l E kd_X5_readNumber "HungStreams$TypedText" cX5_readNumber 5 10 [(0, .ref (qm_a E 202)), (1, .int v1), (2, .int v2), (3, .int v3), (4, .int v4)] [] σ r := by
  unfold bb_X5_readNumber_10 at h
  refine qr_iload dX5_readNumber_10 4 rfl ?_
  refine qr_iconst (v := 2) dX5_readNumber_12 (by decide) ?_
  refine qr_icmp_ge (tgt := 55) dX5_readNumber_13 (by decide) (fun c21 => ?_) (fun c21 => ?_)
  · rw [if_pos c21] at h
    obtain ⟨y12, h1, hx⟩ := qm_bind h
    clear h
    cases hx
    have h := h1
    exact qr_sub [0, 1, 2, 3] rfl (wb_X5_readNumber_55 (l := l) (E := E) σ v1 v2 v3 h hT)
  · rw [if_neg c21] at h
    refine qr_aload_n dX5_readNumber_16 rfl 0 rfl ?_
    obtain ⟨r13, er13, h⟩ := qm_bind h
    refine qr_call1 (st1 := [.int r13]) rfl (qr_callV (id := 202) (c := 3) (As := []) (st := []) rfl (by decide) rfl (ct_X5_byteHere (l := l) (E := E) σ  er13) qw_547 qw_4 qw_544 qw_545 qw_546 yd_X5_byteHere (by decide) (by decide) rfl (Nat.le_of_ble_eq_true rfl) dX5_readNumber_17) ?_
    obtain ⟨r14, er14, h⟩ := qm_bind h
    refine qr_call1 (st1 := [.int (qm_b r14)]) rfl (qr_callS (As := [.int r13]) (st := []) (ct_X5_isFigure (l := l) (E := E) σ r13 er14) qw_550 qw_4 qw_548 qw_549 yd_X5_isFigure (by decide) (by decide) rfl (Nat.le_of_ble_eq_true rfl) dX5_readNumber_20) ?_
    refine qr_if_eq (tgt := 55) dX5_readNumber_23 (by decide) (fun c20 => ?_) (fun c20 => ?_)
    · rw [if_pos c20] at h
      obtain ⟨y15, h1, hx⟩ := qm_bind h
      clear h
      cases hx
      have h := h1
      exact qr_sub [0, 1, 2, 3] rfl (wb_X5_readNumber_55 (l := l) (E := E) σ v1 v2 v3 h hT)
    · rw [if_neg c20] at h
      refine qr_bipush (v := 10) dX5_readNumber_26 (by decide) ?_
      refine qr_iload_n dX5_readNumber_28 rfl 3 rfl ?_
      refine qr_imul dX5_readNumber_29 ?_
      refine qr_aload_n dX5_readNumber_30 rfl 0 rfl ?_
      obtain ⟨r16, er16, h⟩ := qm_bind h
      refine qr_call1 (st1 := [.int r16, .int (10 * v3)]) rfl (qr_callV (id := 202) (c := 3) (As := []) (st := [.int (10 * v3)]) rfl (by decide) rfl (ct_X5_byteHere (l := l) (E := E) σ  er16) qw_547 qw_4 qw_544 qw_545 qw_546 yd_X5_byteHere (by decide) (by decide) rfl (Nat.le_of_ble_eq_true rfl) dX5_readNumber_31) ?_
      refine qr_iadd dX5_readNumber_34 ?_
      refine qr_bipush (v := 48) dX5_readNumber_35 (by decide) ?_
      refine qr_isub dX5_readNumber_37 ?_
      obtain ⟨z17, ez17, h⟩ := qm_bind h
      refine qr_eqi (Option.some.inj ez17) ?_
      refine qr_istore_n (lv' := [(3, .int z17), (0, .ref (qm_a E 202)), (1, .int v1), (2, .int v2), (4, .int v4)]) dX5_readNumber_38 rfl (by decide) rfl ?_
      refine qr_aload_n dX5_readNumber_39 rfl 1 rfl ?_
      refine qr_dup dX5_readNumber_40 rfl ?_
      refine qr_get3 (k := 8) (v := .int (σ.1 202 8)) rfl (by decide) rfl qw_177 dX5_readNumber_41 ?_
      refine qr_iconst (v := 1) dX5_readNumber_44 (by decide) ?_
      refine qr_iadd dX5_readNumber_45 ?_
      obtain ⟨σ18, eσ18, h⟩ := qm_bind h
      refine qr_put3_8 rfl qw_177 dX5_readNumber_46 (qr_eqm (Option.some.inj eσ18) ?_)
      obtain ⟨z19, ez19, h⟩ := qm_bind h
      refine qr_iinc (q := 4) (v := z19) (lv' := [(4, .int z19), (3, .int z17), (0, .ref (qm_a E 202)), (1, .int v1), (2, .int v2)]) dX5_readNumber_49 rfl (Option.some.inj ez19) (by decide) rfl ?_
      refine qr_goto (tgt := 10) dX5_readNumber_52 (by decide) ?_
      obtain rfl := Option.some.inj h
      exact qr_sub [2, 3, 4, 1, 0] rfl hT
def lp_X5_readNumber_10 (σ : qm_M) (v1 : Int32) (v2 : Int32) (v3 : Int32) (v4 : Int32) : Option (Int32 × qm_M) := qm_loop (fun s : Int32 × Int32 × qm_M => bb_X5_readNumber_10 s.2.2 v1 v2 s.1 s.2.1) 1000 (v3, v4, σ)
theorem wl_X5_readNumber_10 {l : Launch} {E : qm_E} (σ : qm_M) (v1 : Int32) (v2 : Int32) (v3 : Int32) (v4 : Int32) {x : Int32 × qm_M} (h : lp_X5_readNumber_10 σ v1 v2 v3 v4 = some x) {r : Option Value × qm_M} (hT : (fun x r => (some (.int x.1), x.2) = r) x r) : qm_Wp l E kd_X5_readNumber "HungStreams$TypedText" cX5_readNumber 5 10 [(0, .ref (qm_a E 202)), (1, .int v1), (2, .int v2), (3, .int v3), (4, .int v4)] [] σ r :=
  qm_loop_T (P := pp_X5_readNumber_10 l E v1 v2) (T1 := (fun x r => (some (.int x.1), x.2) = r)) (fun s x h r hT => wb_X5_readNumber_10 (l := l) (E := E) s.2.2 v1 v2 s.1 s.2.1  h hT) h hT
def fn_X5_readNumber (σ : qm_M) (v1 : Int32) : Option (Int32 × qm_M) :=
  (some (σ.1 202 8)).bind (fun z1 => lp_X5_readNumber_10 σ v1 z1 0 0)
set_option maxRecDepth 20000 in
theorem wf_X5_readNumber {l : Launch} {E : qm_E} (σ : qm_M) (v1 : Int32) {x : Int32 × qm_M} (h : fn_X5_readNumber σ v1 = some x) {r : Option Value × qm_M} (hT : (fun x r => (some (.int x.1), x.2) = r) x r) : qm_Wp l E kd_X5_readNumber "HungStreams$TypedText" cX5_readNumber 5 0 [(0, .ref (qm_a E 202)), (1, .int v1)] [] σ r := by
  unfold fn_X5_readNumber at h
  refine qr_aload_n dX5_readNumber_0 rfl 0 rfl ?_
  refine qr_get3 (k := 8) (v := .int (σ.1 202 8)) rfl (by decide) rfl qw_177 dX5_readNumber_1 ?_
  obtain ⟨z1, ez1, h⟩ := qm_bind h
  refine qr_eqi (Option.some.inj ez1) ?_
  refine qr_istore_n (lv' := [(2, .int z1), (0, .ref (qm_a E 202)), (1, .int v1)]) dX5_readNumber_4 rfl (by decide) rfl ?_
  refine qr_iconst (v := 0) dX5_readNumber_5 (by decide) ?_
  refine qr_istore_n (lv' := [(3, .int 0), (2, .int z1), (0, .ref (qm_a E 202)), (1, .int v1)]) dX5_readNumber_6 rfl (by decide) rfl ?_
  refine qr_iconst (v := 0) dX5_readNumber_7 (by decide) ?_
  refine qr_istore (lv' := [(4, .int 0), (3, .int 0), (2, .int z1), (0, .ref (qm_a E 202)), (1, .int v1)]) dX5_readNumber_8 (by decide) rfl ?_
  exact qr_sub [3, 4, 2, 1, 0] rfl (wl_X5_readNumber_10 (l := l) (E := E) σ v1 z1 0 0 h hT)
theorem ct_X5_readNumber {l : Launch} {E : qm_E} (σ : qm_M) (v1 : Int32) {x : Int32 × qm_M} (h : fn_X5_readNumber σ v1 = some x) : qm_Ct l E kd_X5_readNumber yX5_readNumber cX5_readNumber 5 (some .int) [.ref (qm_a E 202), .int v1] σ (some (.int x.1), x.2) := qm_ofWp rfl (Nat.le_of_ble_eq_true rfl) (Or.inl rfl) (wf_X5_readNumber σ v1  h rfl)
-- HungStreams$TypedText.keepStream (III)V
abbrev kd_X5_keepStream : Nat := 1
theorem yd_X5_keepStream : (yX5_keepStream).cls ≠ "java/lang/invoke/MethodHandle" ∧ (yX5_keepStream).cls ≠ "java/lang/invoke/VarHandle" ∧ (parseMethodDescriptor (yX5_keepStream).desc).map (fun d => d.parameters.length) = some 3 := by decide +kernel
def bb_X5_keepStream_49 (σ : qm_M) (v1 : Int32) (v3 : Int32) : Option (qm_M) :=
  if ¬ (v1 < 0 ∨ 13 ≤ v1.toNatClampNeg) then (some (qm_si σ 207 v1.toNatClampNeg v3)).bind (fun σ2 => (some (qm_si σ2 202 7 ((σ2.1 202 7) ||| (1 <<< (v1 &&& 31))))).bind (fun σ3 => some σ3)) else none
set_option maxRecDepth 20000 in
theorem wb_X5_keepStream_49 {l : Launch} {E : qm_E} (σ : qm_M) (v1 : Int32) (v3 : Int32) {x : qm_M} (h : bb_X5_keepStream_49 σ v1 v3 = some x) {r : Option Value × qm_M} (hT : (fun x r => (none, x) = r) x r) : qm_Wp l E kd_X5_keepStream "HungStreams$TypedText" cX5_keepStream 4 49 [(0, .ref (qm_a E 202)), (1, .int v1), (3, .int v3)] [] σ r := by
  unfold bb_X5_keepStream_49 at h
  refine qr_aload_n dX5_keepStream_49 rfl 0 rfl ?_
  refine qr_get3 (k := 6) (v := .ref (qm_a E 207)) rfl (by decide) rfl qw_175 dX5_keepStream_50 ?_
  refine qr_iload_n dX5_keepStream_53 rfl 1 rfl ?_
  refine qr_iload_n dX5_keepStream_54 rfl 2 rfl ?_
  obtain ⟨c1, h⟩ := qm_chk h
  obtain ⟨σ2, eσ2, h⟩ := qm_bind h
  refine qr_iast rfl c1 dX5_keepStream_55 (qr_eqm (Option.some.inj eσ2) ?_)
  refine qr_aload_n dX5_keepStream_56 rfl 0 rfl ?_
  refine qr_dup dX5_keepStream_57 rfl ?_
  refine qr_get3 (k := 7) (v := .int (σ2.1 202 7)) rfl (by decide) rfl qw_176 dX5_keepStream_58 ?_
  refine qr_iconst (v := 1) dX5_keepStream_61 (by decide) ?_
  refine qr_iload_n dX5_keepStream_62 rfl 1 rfl ?_
  refine qr_ishl dX5_keepStream_63 ?_
  refine qr_ior dX5_keepStream_64 ?_
  obtain ⟨σ3, eσ3, h⟩ := qm_bind h
  refine qr_put3_7 rfl qw_176 dX5_keepStream_65 (qr_eqm (Option.some.inj eσ3) ?_)
  obtain rfl := Option.some.inj h
  cases hT
  exact qr_vret dX5_keepStream_68
def fn_X5_keepStream (σ : qm_M) (v1 : Int32) (v2 : Int32) (v3 : Int32) : Option (qm_M) :=
  if 12 ≤ (σ.1 202 5) then bb_X5_keepStream_49 σ v1 v3 else if ¬ ((σ.1 202 5) < 0 ∨ 12 ≤ (σ.1 202 5).toNatClampNeg) then (some (qm_si σ 204 (σ.1 202 5).toNatClampNeg v1)).bind (fun σ5 => if ¬ ((σ5.1 202 5) < 0 ∨ 12 ≤ (σ5.1 202 5).toNatClampNeg) then (some (qm_si σ5 205 (σ5.1 202 5).toNatClampNeg v2)).bind (fun σ7 => if ¬ ((σ7.1 202 5) < 0 ∨ 12 ≤ (σ7.1 202 5).toNatClampNeg) then (some (qm_si σ7 206 (σ7.1 202 5).toNatClampNeg v3)).bind (fun σ9 => (some (qm_si σ9 202 5 ((σ9.1 202 5) + 1))).bind (fun σ10 => bb_X5_keepStream_49 σ10 v1 v3)) else none) else none) else none
set_option maxRecDepth 20000 in
theorem wf_X5_keepStream {l : Launch} {E : qm_E} (σ : qm_M) (v1 : Int32) (v2 : Int32) (v3 : Int32) {x : qm_M} (h : fn_X5_keepStream σ v1 v2 v3 = some x) {r : Option Value × qm_M} (hT : (fun x r => (none, x) = r) x r) : qm_Wp l E kd_X5_keepStream "HungStreams$TypedText" cX5_keepStream 4 0 [(0, .ref (qm_a E 202)), (1, .int v1), (2, .int v2), (3, .int v3)] [] σ r := by
  unfold fn_X5_keepStream at h
  refine qr_aload_n dX5_keepStream_0 rfl 0 rfl ?_
  refine qr_get3 (k := 5) (v := .int (σ.1 202 5)) rfl (by decide) rfl qw_173 dX5_keepStream_1 ?_
  refine qr_bipush (v := 12) dX5_keepStream_4 (by decide) ?_
  refine qr_icmp_ge (tgt := 49) dX5_keepStream_6 (by decide) (fun c11 => ?_) (fun c11 => ?_)
  · rw [if_pos c11] at h
    exact qr_sub [0, 1, 3] rfl (wb_X5_keepStream_49 (l := l) (E := E) σ v1 v3 h hT)
  · rw [if_neg c11] at h
    refine qr_aload_n dX5_keepStream_9 rfl 0 rfl ?_
    refine qr_get3 (k := 2) (v := .ref (qm_a E 204)) rfl (by decide) rfl qw_167 dX5_keepStream_10 ?_
    refine qr_aload_n dX5_keepStream_13 rfl 0 rfl ?_
    refine qr_get3 (k := 5) (v := .int (σ.1 202 5)) rfl (by decide) rfl qw_173 dX5_keepStream_14 ?_
    refine qr_iload_n dX5_keepStream_17 rfl 1 rfl ?_
    obtain ⟨c4, h⟩ := qm_chk h
    obtain ⟨σ5, eσ5, h⟩ := qm_bind h
    refine qr_iast rfl c4 dX5_keepStream_18 (qr_eqm (Option.some.inj eσ5) ?_)
    refine qr_aload_n dX5_keepStream_19 rfl 0 rfl ?_
    refine qr_get3 (k := 3) (v := .ref (qm_a E 205)) rfl (by decide) rfl qw_169 dX5_keepStream_20 ?_
    refine qr_aload_n dX5_keepStream_23 rfl 0 rfl ?_
    refine qr_get3 (k := 5) (v := .int (σ5.1 202 5)) rfl (by decide) rfl qw_173 dX5_keepStream_24 ?_
    refine qr_iload_n dX5_keepStream_27 rfl 2 rfl ?_
    obtain ⟨c6, h⟩ := qm_chk h
    obtain ⟨σ7, eσ7, h⟩ := qm_bind h
    refine qr_iast rfl c6 dX5_keepStream_28 (qr_eqm (Option.some.inj eσ7) ?_)
    refine qr_aload_n dX5_keepStream_29 rfl 0 rfl ?_
    refine qr_get3 (k := 4) (v := .ref (qm_a E 206)) rfl (by decide) rfl qw_171 dX5_keepStream_30 ?_
    refine qr_aload_n dX5_keepStream_33 rfl 0 rfl ?_
    refine qr_get3 (k := 5) (v := .int (σ7.1 202 5)) rfl (by decide) rfl qw_173 dX5_keepStream_34 ?_
    refine qr_iload_n dX5_keepStream_37 rfl 3 rfl ?_
    obtain ⟨c8, h⟩ := qm_chk h
    obtain ⟨σ9, eσ9, h⟩ := qm_bind h
    refine qr_iast rfl c8 dX5_keepStream_38 (qr_eqm (Option.some.inj eσ9) ?_)
    refine qr_aload_n dX5_keepStream_39 rfl 0 rfl ?_
    refine qr_dup dX5_keepStream_40 rfl ?_
    refine qr_get3 (k := 5) (v := .int (σ9.1 202 5)) rfl (by decide) rfl qw_173 dX5_keepStream_41 ?_
    refine qr_iconst (v := 1) dX5_keepStream_44 (by decide) ?_
    refine qr_iadd dX5_keepStream_45 ?_
    obtain ⟨σ10, eσ10, h⟩ := qm_bind h
    refine qr_put3_5 rfl qw_173 dX5_keepStream_46 (qr_eqm (Option.some.inj eσ10) ?_)
    exact qr_sub [0, 1, 3] rfl (wb_X5_keepStream_49 (l := l) (E := E) σ10 v1 v3 h hT)
theorem ct_X5_keepStream {l : Launch} {E : qm_E} (σ : qm_M) (v1 : Int32) (v2 : Int32) (v3 : Int32) {x : qm_M} (h : fn_X5_keepStream σ v1 v2 v3 = some x) : qm_Ct l E kd_X5_keepStream yX5_keepStream cX5_keepStream 4 none [.ref (qm_a E 202), .int v1, .int v2, .int v3] σ (none, x) := qm_ofWp rfl (Nat.le_of_ble_eq_true rfl) (rfl) (wf_X5_keepStream σ v1 v2 v3  h rfl)
-- HungStreams$TypedText.readStream (I)I
abbrev kd_X5_readStream : Nat := 4
theorem yd_X5_readStream : (yX5_readStream).cls ≠ "java/lang/invoke/MethodHandle" ∧ (yX5_readStream).cls ≠ "java/lang/invoke/VarHandle" ∧ (parseMethodDescriptor (yX5_readStream).desc).map (fun d => d.parameters.length) = some 1 := by decide +kernel
def bb_X5_readStream_61 (σ : qm_M) (v1 : Int32) (v3 : Int32) : Option (Int32 × qm_M) :=
  if (σ.1 202 9) = (-1) then (some (qm_si σ 202 8 ((σ.1 202 8) + 1))).bind (fun σ3 => (fn_X5_byteBehindBlanks σ3 ).bind (fun r4 => (fn_X5_readNumber r4.2 16).bind (fun r5 => if (r5.2.1 202 9) = (-1) then (fn_X5_keepStream r5.2 v3 r5.1 v1).bind (fun r6 => some (v3, r6)) else some ((-1), r5.2)))) else some ((-1), σ)
set_option maxRecDepth 20000 in
theorem wb_X5_readStream_61 {l : Launch} {E : qm_E} (σ : qm_M) (v1 : Int32) (v3 : Int32) {x : Int32 × qm_M} (h : bb_X5_readStream_61 σ v1 v3 = some x) {r : Option Value × qm_M} (hT : (fun x r => (some (.int x.1), x.2) = r) x r) : qm_Wp l E kd_X5_readStream "HungStreams$TypedText" cX5_readStream 5 61 [(0, .ref (qm_a E 202)), (1, .int v1), (3, .int v3)] [] σ r := by
  unfold bb_X5_readStream_61 at h
  refine qr_aload_n dX5_readStream_61 rfl 0 rfl ?_
  refine qr_get3 (k := 9) (v := .int (σ.1 202 9)) rfl (by decide) rfl qw_178 dX5_readStream_62 ?_
  refine qr_iconst (v := (-1)) dX5_readStream_65 (by decide) ?_
  refine qr_icmp_eq (tgt := 71) dX5_readStream_66 (by decide) (fun c8 => ?_) (fun c8 => ?_)
  · rw [if_pos c8] at h
    refine qr_aload_n dX5_readStream_71 rfl 0 rfl ?_
    refine qr_dup dX5_readStream_72 rfl ?_
    refine qr_get3 (k := 8) (v := .int (σ.1 202 8)) rfl (by decide) rfl qw_177 dX5_readStream_73 ?_
    refine qr_iconst (v := 1) dX5_readStream_76 (by decide) ?_
    refine qr_iadd dX5_readStream_77 ?_
    obtain ⟨σ3, eσ3, h⟩ := qm_bind h
    refine qr_put3_8 rfl qw_177 dX5_readStream_78 (qr_eqm (Option.some.inj eσ3) ?_)
    refine qr_aload_n dX5_readStream_81 rfl 0 rfl ?_
    obtain ⟨r4, er4, h⟩ := qm_bind h
    refine qr_call1 (st1 := [.int r4.1]) rfl (qr_callV (id := 202) (c := 3) (As := []) (st := []) rfl (by decide) rfl (ct_X5_byteBehindBlanks (l := l) (E := E) σ3  er4) qw_543 qw_4 qw_540 qw_541 qw_542 yd_X5_byteBehindBlanks (by decide) (by decide) rfl (Nat.le_of_ble_eq_true rfl) dX5_readStream_82) ?_
    refine qr_pop dX5_readStream_85 rfl ?_
    refine qr_aload_n dX5_readStream_86 rfl 0 rfl ?_
    refine qr_bipush (v := 16) dX5_readStream_87 (by decide) ?_
    obtain ⟨r5, er5, h⟩ := qm_bind h
    refine qr_call1 (st1 := [.int r5.1]) rfl (qr_callV (id := 202) (c := 3) (As := [.int 16]) (st := []) rfl (by decide) rfl (ct_X5_readNumber (l := l) (E := E) r4.2 16 er5) qw_559 qw_4 qw_556 qw_557 qw_558 yd_X5_readNumber (by decide) (by decide) rfl (Nat.le_of_ble_eq_true rfl) dX5_readStream_89) ?_
    refine qr_istore (lv' := [(4, .int r5.1), (0, .ref (qm_a E 202)), (1, .int v1), (3, .int v3)]) dX5_readStream_92 (by decide) rfl ?_
    refine qr_aload_n dX5_readStream_94 rfl 1 rfl ?_
    refine qr_get3 (k := 9) (v := .int (r5.2.1 202 9)) rfl (by decide) rfl qw_178 dX5_readStream_95 ?_
    refine qr_iconst (v := (-1)) dX5_readStream_98 (by decide) ?_
    refine qr_icmp_eq (tgt := 104) dX5_readStream_99 (by decide) (fun c7 => ?_) (fun c7 => ?_)
    · rw [if_pos c7] at h
      refine qr_aload_n dX5_readStream_104 rfl 1 rfl ?_
      refine qr_iload_n dX5_readStream_105 rfl 3 rfl ?_
      refine qr_iload dX5_readStream_106 0 rfl ?_
      refine qr_iload_n dX5_readStream_108 rfl 2 rfl ?_
      obtain ⟨r6, er6, h⟩ := qm_bind h
      refine qr_call1 (st1 := []) rfl (qr_callV (id := 202) (c := 3) (As := [.int v3, .int r5.1, .int v1]) (st := []) rfl (by decide) rfl (ct_X5_keepStream (l := l) (E := E) r5.2 v3 r5.1 v1 er6) qw_564 qw_4 qw_561 qw_562 qw_563 yd_X5_keepStream (by decide) (by decide) rfl (Nat.le_of_ble_eq_true rfl) dX5_readStream_109) ?_
      refine qr_iload_n dX5_readStream_112 rfl 3 rfl ?_
      obtain rfl := Option.some.inj h
      cases hT
      exact qr_iret dX5_readStream_113
    · rw [if_neg c7] at h
      refine qr_iconst (v := (-1)) dX5_readStream_102 (by decide) ?_
      obtain rfl := Option.some.inj h
      cases hT
      exact qr_iret dX5_readStream_103
  · rw [if_neg c8] at h
    refine qr_iconst (v := (-1)) dX5_readStream_69 (by decide) ?_
    obtain rfl := Option.some.inj h
    cases hT
    exact qr_iret dX5_readStream_70
def bb_X5_readStream_36 (σ : qm_M) (v1 : Int32) (v3 : Int32) : Option (Int32 × qm_M) :=
  if (σ.1 202 9) = (-1) then (fn_X5_byteBehindBlanks σ ).bind (fun r9 => if r9.1 = 58 then bb_X5_readStream_61 r9.2 v1 v3 else (some (qm_si r9.2 202 9 (r9.2.1 202 8))).bind (fun σ10 => bb_X5_readStream_61 σ10 v1 v3)) else bb_X5_readStream_61 σ v1 v3
set_option maxRecDepth 20000 in
theorem wb_X5_readStream_36 {l : Launch} {E : qm_E} (σ : qm_M) (v1 : Int32) (v3 : Int32) {x : Int32 × qm_M} (h : bb_X5_readStream_36 σ v1 v3 = some x) {r : Option Value × qm_M} (hT : (fun x r => (some (.int x.1), x.2) = r) x r) : qm_Wp l E kd_X5_readStream "HungStreams$TypedText" cX5_readStream 5 36 [(0, .ref (qm_a E 202)), (1, .int v1), (3, .int v3)] [] σ r := by
  unfold bb_X5_readStream_36 at h
  refine qr_aload_n dX5_readStream_36 rfl 0 rfl ?_
  refine qr_get3 (k := 9) (v := .int (σ.1 202 9)) rfl (by decide) rfl qw_178 dX5_readStream_37 ?_
  refine qr_iconst (v := (-1)) dX5_readStream_40 (by decide) ?_
  refine qr_icmp_ne (tgt := 61) dX5_readStream_41 (by decide) (fun c12 => ?_) (fun c12 => ?_)
  · rw [if_neg c12] at h
    exact qr_sub [0, 1, 2] rfl (wb_X5_readStream_61 (l := l) (E := E) σ v1 v3 h hT)
  · rw [if_pos c12] at h
    refine qr_aload_n dX5_readStream_44 rfl 0 rfl ?_
    obtain ⟨r9, er9, h⟩ := qm_bind h
    refine qr_call1 (st1 := [.int r9.1]) rfl (qr_callV (id := 202) (c := 3) (As := []) (st := []) rfl (by decide) rfl (ct_X5_byteBehindBlanks (l := l) (E := E) σ  er9) qw_543 qw_4 qw_540 qw_541 qw_542 yd_X5_byteBehindBlanks (by decide) (by decide) rfl (Nat.le_of_ble_eq_true rfl) dX5_readStream_45) ?_
    refine qr_bipush (v := 58) dX5_readStream_48 (by decide) ?_
    refine qr_icmp_eq (tgt := 61) dX5_readStream_50 (by decide) (fun c11 => ?_) (fun c11 => ?_)
    · rw [if_pos c11] at h
      exact qr_sub [0, 1, 2] rfl (wb_X5_readStream_61 (l := l) (E := E) r9.2 v1 v3 h hT)
    · rw [if_neg c11] at h
      refine qr_aload_n dX5_readStream_53 rfl 0 rfl ?_
      refine qr_aload_n dX5_readStream_54 rfl 0 rfl ?_
      refine qr_get3 (k := 8) (v := .int (r9.2.1 202 8)) rfl (by decide) rfl qw_177 dX5_readStream_55 ?_
      obtain ⟨σ10, eσ10, h⟩ := qm_bind h
      refine qr_put3_9 rfl qw_178 dX5_readStream_58 (qr_eqm (Option.some.inj eσ10) ?_)
      exact qr_sub [0, 1, 2] rfl (wb_X5_readStream_61 (l := l) (E := E) σ10 v1 v3 h hT)
def fn_X5_readStream (σ : qm_M) (v1 : Int32) : Option (Int32 × qm_M) :=
  (some (σ.1 202 8)).bind (fun z1 => (fn_X5_readNumber σ 12).bind (fun r2 => if (r2.2.1 202 9) = (-1) then (fn_X6_has r2.2 (r2.2.1 202 7) r2.1).bind (fun r13 => if (qm_b r13) = 0 then bb_X5_readStream_36 r2.2 v1 r2.1 else (some (qm_si r2.2 202 9 z1)).bind (fun σ14 => bb_X5_readStream_36 σ14 v1 r2.1)) else bb_X5_readStream_36 r2.2 v1 r2.1))
set_option maxRecDepth 20000 in
theorem wf_X5_readStream {l : Launch} {E : qm_E} (σ : qm_M) (v1 : Int32) {x : Int32 × qm_M} (h : fn_X5_readStream σ v1 = some x) {r : Option Value × qm_M} (hT : (fun x r => (some (.int x.1), x.2) = r) x r) : qm_Wp l E kd_X5_readStream "HungStreams$TypedText" cX5_readStream 5 0 [(0, .ref (qm_a E 202)), (1, .int v1)] [] σ r := by
  unfold fn_X5_readStream at h
  refine qr_aload_n dX5_readStream_0 rfl 0 rfl ?_
  refine qr_get3 (k := 8) (v := .int (σ.1 202 8)) rfl (by decide) rfl qw_177 dX5_readStream_1 ?_
  obtain ⟨z1, ez1, h⟩ := qm_bind h
  refine qr_eqi (Option.some.inj ez1) ?_
  refine qr_istore_n (lv' := [(2, .int z1), (0, .ref (qm_a E 202)), (1, .int v1)]) dX5_readStream_4 rfl (by decide) rfl ?_
  refine qr_aload_n dX5_readStream_5 rfl 1 rfl ?_
  refine qr_bipush (v := 12) dX5_readStream_6 (by decide) ?_
  obtain ⟨r2, er2, h⟩ := qm_bind h
  refine qr_call1 (st1 := [.int r2.1]) rfl (qr_callV (id := 202) (c := 3) (As := [.int 12]) (st := []) rfl (by decide) rfl (ct_X5_readNumber (l := l) (E := E) σ 12 er2) qw_559 qw_4 qw_556 qw_557 qw_558 yd_X5_readNumber (by decide) (by decide) rfl (Nat.le_of_ble_eq_true rfl) dX5_readStream_8) ?_
  refine qr_istore_n (lv' := [(3, .int r2.1), (2, .int z1), (0, .ref (qm_a E 202)), (1, .int v1)]) dX5_readStream_11 rfl (by decide) rfl ?_
  refine qr_aload_n dX5_readStream_12 rfl 2 rfl ?_
  refine qr_get3 (k := 9) (v := .int (r2.2.1 202 9)) rfl (by decide) rfl qw_178 dX5_readStream_13 ?_
  refine qr_iconst (v := (-1)) dX5_readStream_16 (by decide) ?_
  refine qr_icmp_ne (tgt := 36) dX5_readStream_17 (by decide) (fun c16 => ?_) (fun c16 => ?_)
  · rw [if_neg c16] at h
    exact qr_sub [2, 3, 0] rfl (wb_X5_readStream_36 (l := l) (E := E) r2.2 v1 r2.1 h hT)
  · rw [if_pos c16] at h
    refine qr_aload_n dX5_readStream_20 rfl 2 rfl ?_
    refine qr_get3 (k := 7) (v := .int (r2.2.1 202 7)) rfl (by decide) rfl qw_176 dX5_readStream_21 ?_
    refine qr_iload_n dX5_readStream_24 rfl 0 rfl ?_
    obtain ⟨r13, er13, h⟩ := qm_bind h
    refine qr_call1 (st1 := [.int (qm_b r13)]) rfl (qr_callN (host := "HungStreams") (As := [.int (r2.2.1 202 7), .int r2.1]) (st := []) (ct_X6_has (l := l) (E := E) r2.2 (r2.2.1 202 7) r2.1 er13) qw_262 qw_1 (List.mem_of_getElem? (i := 9) rfl) qw_261 yd_X6_has (by decide) (by decide) rfl (Nat.le_of_ble_eq_true rfl) dX5_readStream_25) ?_
    refine qr_if_eq (tgt := 36) dX5_readStream_28 (by decide) (fun c15 => ?_) (fun c15 => ?_)
    · rw [if_pos c15] at h
      exact qr_sub [2, 3, 0] rfl (wb_X5_readStream_36 (l := l) (E := E) r2.2 v1 r2.1 h hT)
    · rw [if_neg c15] at h
      refine qr_aload_n dX5_readStream_31 rfl 2 rfl ?_
      refine qr_iload_n dX5_readStream_32 rfl 1 rfl ?_
      obtain ⟨σ14, eσ14, h⟩ := qm_bind h
      refine qr_put3_9 rfl qw_178 dX5_readStream_33 (qr_eqm (Option.some.inj eσ14) ?_)
      exact qr_sub [2, 3, 0] rfl (wb_X5_readStream_36 (l := l) (E := E) σ14 v1 r2.1 h hT)
theorem ct_X5_readStream {l : Launch} {E : qm_E} (σ : qm_M) (v1 : Int32) {x : Int32 × qm_M} (h : fn_X5_readStream σ v1 = some x) : qm_Ct l E kd_X5_readStream yX5_readStream cX5_readStream 5 (some .int) [.ref (qm_a E 202), .int v1] σ (some (.int x.1), x.2) := qm_ofWp rfl (Nat.le_of_ble_eq_true rfl) (Or.inl rfl) (wf_X5_readStream σ v1  h rfl)
-- HungStreams$TypedText.read ()I
abbrev kd_X5_read : Nat := 5
theorem yd_X5_read : (yX5_read).cls ≠ "java/lang/invoke/MethodHandle" ∧ (yX5_read).cls ≠ "java/lang/invoke/VarHandle" ∧ (parseMethodDescriptor (yX5_read).desc).map (fun d => d.parameters.length) = some 0 := by decide +kernel
abbrev pp_X5_read_32 (l : Launch) (E : qm_E) : (Int32 × Int32 × Int32 × Int32 × Int32 × qm_M) → Option Value × qm_M → Prop := fun s r => qm_Wp l E kd_X5_read "HungStreams$TypedText" cX5_read 7 32 [(0, .ref (qm_a E 202)), (1, .int s.1), (2, .int s.2.1), (3, .int s.2.2.1), (4, .int s.2.2.2.1), (5, .int s.2.2.2.2.1)] [] s.2.2.2.2.2 r
def bb_X5_read_184 (σ : qm_M) (v1 : Int32) : Option (Int32 × qm_M) :=
  if v1 = 0 then some ((-1), σ) else some (σ.1 202 1, σ)
set_option maxRecDepth 20000 in
theorem wb_X5_read_184 {l : Launch} {E : qm_E} (σ : qm_M) (v1 : Int32) {x : Int32 × qm_M} (h : bb_X5_read_184 σ v1 = some x) {r : Option Value × qm_M} (hT : (fun x r => (some (.int x.1), x.2) = r) x r) : qm_Wp l E kd_X5_read "HungStreams$TypedText" cX5_read 7 184 [(0, .ref (qm_a E 202)), (1, .int v1)] [] σ r := by
  unfold bb_X5_read_184 at h
  refine qr_iload_n dX5_read_184 rfl 1 rfl ?_
  refine qr_if_ne (tgt := 192) dX5_read_185 (by decide) (fun c5 => ?_) (fun c5 => ?_)
  · rw [if_neg c5] at h
    refine qr_aload_n dX5_read_192 rfl 0 rfl ?_
    refine qr_get3 (k := 1) (v := .int (σ.1 202 1)) rfl (by decide) rfl qw_165 dX5_read_193 ?_
    obtain rfl := Option.some.inj h
    cases hT
    exact qr_iret dX5_read_196
  · rw [if_pos c5] at h
    refine qr_iconst (v := (-1)) dX5_read_188 (by decide) ?_
    refine qr_goto (tgt := 196) dX5_read_189 (by decide) ?_
    obtain rfl := Option.some.inj h
    cases hT
    exact qr_iret dX5_read_196
def bb_X5_read_128 (σ : qm_M) (v1 : Int32) (v2 : Int32) (v4 : Int32) (v5 : Int32) (v6 : Int32) : Option ((Int32 × Int32 × Int32 × Int32 × Int32 × qm_M) ⊕ (Int32 × qm_M)) :=
  if v6 = 41 then if v4 = 0 then (some (σ.1 202 8, σ)).bind (fun y => some (.inr y)) else (some (qm_si σ 202 8 ((σ.1 202 8) + 1))).bind (fun σ11 => if ¬ (v1 < 0 ∨ 13 ≤ v1.toNatClampNeg) then (some (σ11.1 207 v1.toNatClampNeg)).bind (fun z13 => if z13 = 0 then (some (v5 + 1)).bind (fun z14 => some (.inl (z13, v2, 0, 0, z14, σ11))) else (some (v5 + 1)).bind (fun z15 => some (.inl (z13, v2, 0, 1, z15, σ11)))) else none) else (some (σ.1 202 8, σ)).bind (fun y => some (.inr y))
set_option maxRecDepth 20000 in
theorem wb_X5_read_128 {l : Launch} {E : qm_E} (σ : qm_M) (v1 : Int32) (v2 : Int32) (v4 : Int32) (v5 : Int32) (v6 : Int32) {x : (Int32 × Int32 × Int32 × Int32 × Int32 × qm_M) ⊕ (Int32 × qm_M)} (h : bb_X5_read_128 σ v1 v2 v4 v5 v6 = some x) {r : Option Value × qm_M} (hT : (qm_T (pp_X5_read_32 l E) (fun x r => (some (.int x.1), x.2) = r)) x r) : qm_Wp l E kd_X5_read "HungStreams$TypedText" cX5_read 7 128 [(0, .ref (qm_a E 202)), (1, .int v1), (2, .int v2), (4, .int v4), (5, .int v5), (6, .int v6)] [] σ r := by
  unfold bb_X5_read_128 at h
  refine qr_iload dX5_read_128 5 rfl ?_
  refine qr_bipush (v := 41) dX5_read_130 (by decide) ?_
  refine qr_icmp_ne (tgt := 173) dX5_read_132 (by decide) (fun c18 => ?_) (fun c18 => ?_)
  · rw [if_neg c18] at h
    obtain ⟨y9, h1, hx⟩ := qm_bind h
    clear h
    cases hx
    have h := h1
    refine qr_aload_n dX5_read_173 rfl 0 rfl ?_
    refine qr_get3 (k := 8) (v := .int (σ.1 202 8)) rfl (by decide) rfl qw_177 dX5_read_174 ?_
    obtain rfl := Option.some.inj h
    cases hT
    exact qr_iret dX5_read_177
  · rw [if_pos c18] at h
    refine qr_iload dX5_read_135 3 rfl ?_
    refine qr_if_eq (tgt := 173) dX5_read_137 (by decide) (fun c17 => ?_) (fun c17 => ?_)
    · rw [if_pos c17] at h
      obtain ⟨y10, h1, hx⟩ := qm_bind h
      clear h
      cases hx
      have h := h1
      refine qr_aload_n dX5_read_173 rfl 0 rfl ?_
      refine qr_get3 (k := 8) (v := .int (σ.1 202 8)) rfl (by decide) rfl qw_177 dX5_read_174 ?_
      obtain rfl := Option.some.inj h
      cases hT
      exact qr_iret dX5_read_177
    · rw [if_neg c17] at h
      refine qr_aload_n dX5_read_140 rfl 0 rfl ?_
      refine qr_dup dX5_read_141 rfl ?_
      refine qr_get3 (k := 8) (v := .int (σ.1 202 8)) rfl (by decide) rfl qw_177 dX5_read_142 ?_
      refine qr_iconst (v := 1) dX5_read_145 (by decide) ?_
      refine qr_iadd dX5_read_146 ?_
      obtain ⟨σ11, eσ11, h⟩ := qm_bind h
      refine qr_put3_8 rfl qw_177 dX5_read_147 (qr_eqm (Option.some.inj eσ11) ?_)
      refine qr_aload_n dX5_read_150 rfl 0 rfl ?_
      refine qr_get3 (k := 6) (v := .ref (qm_a E 207)) rfl (by decide) rfl qw_175 dX5_read_151 ?_
      refine qr_iload_n dX5_read_154 rfl 1 rfl ?_
      obtain ⟨c12, h⟩ := qm_chk h
      refine qr_iald rfl c12 dX5_read_155 ?_
      obtain ⟨z13, ez13, h⟩ := qm_bind h
      refine qr_eqi (Option.some.inj ez13) ?_
      refine qr_istore_n (lv' := [(1, .int z13), (0, .ref (qm_a E 202)), (2, .int v2), (4, .int v4), (5, .int v5), (6, .int v6)]) dX5_read_156 rfl (by decide) rfl ?_
      refine qr_iconst (v := 0) dX5_read_157 (by decide) ?_
      refine qr_istore_n (lv' := [(3, .int 0), (1, .int z13), (0, .ref (qm_a E 202)), (2, .int v2), (4, .int v4), (5, .int v5), (6, .int v6)]) dX5_read_158 rfl (by decide) rfl ?_
      refine qr_iload_n dX5_read_159 rfl 1 rfl ?_
      refine qr_if_eq (tgt := 167) dX5_read_160 (by decide) (fun c16 => ?_) (fun c16 => ?_)
      · rw [if_pos c16] at h
        refine qr_iconst (v := 0) dX5_read_167 (by decide) ?_
        refine qr_istore (lv' := [(4, .int 0), (3, .int 0), (1, .int z13), (0, .ref (qm_a E 202)), (2, .int v2), (5, .int v5), (6, .int v6)]) dX5_read_168 (by decide) rfl ?_
        refine qr_goto (tgt := 178) dX5_read_170 (by decide) ?_
        obtain ⟨z14, ez14, h⟩ := qm_bind h
        refine qr_iinc (q := 5) (v := z14) (lv' := [(5, .int z14), (4, .int 0), (3, .int 0), (1, .int z13), (0, .ref (qm_a E 202)), (2, .int v2), (6, .int v6)]) dX5_read_178 rfl (Option.some.inj ez14) (by decide) rfl ?_
        refine qr_goto (tgt := 32) dX5_read_181 (by decide) ?_
        obtain rfl := Option.some.inj h
        exact qr_sub [4, 3, 5, 2, 1, 0] rfl hT
      · rw [if_neg c16] at h
        refine qr_iconst (v := 1) dX5_read_163 (by decide) ?_
        refine qr_goto (tgt := 168) dX5_read_164 (by decide) ?_
        refine qr_istore (lv' := [(4, .int 1), (3, .int 0), (1, .int z13), (0, .ref (qm_a E 202)), (2, .int v2), (5, .int v5), (6, .int v6)]) dX5_read_168 (by decide) rfl ?_
        refine qr_goto (tgt := 178) dX5_read_170 (by decide) ?_
        obtain ⟨z15, ez15, h⟩ := qm_bind h
        refine qr_iinc (q := 5) (v := z15) (lv' := [(5, .int z15), (4, .int 1), (3, .int 0), (1, .int z13), (0, .ref (qm_a E 202)), (2, .int v2), (6, .int v6)]) dX5_read_178 rfl (Option.some.inj ez15) (by decide) rfl ?_
        refine qr_goto (tgt := 32) dX5_read_181 (by decide) ?_
        obtain rfl := Option.some.inj h
        exact qr_sub [4, 3, 5, 2, 1, 0] rfl hT
def bb_X5_read_32 (σ : qm_M) (v1 : Int32) (v2 : Int32) (v3 : Int32) (v4 : Int32) (v5 : Int32) : Option ((Int32 × Int32 × Int32 × Int32 × Int32 × qm_M) ⊕ (Int32 × qm_M)) :=
  if 120 ≤ v5 then (bb_X5_read_184 σ v1).bind (fun y => some (.inr y)) else (fn_X5_byteBehindBlanks σ ).bind (fun r7 => if r7.1 = (-1) then (bb_X5_read_184 r7.2 v1).bind (fun y => some (.inr y)) else (fn_X5_isFigure r7.2 r7.1).bind (fun r8 => if (qm_b r8) = 0 then if r7.1 = 40 then if v3 = 0 then bb_X5_read_128 r7.2 v1 v2 v4 v5 r7.1 else (some (qm_si r7.2 202 8 ((r7.2.1 202 8) + 1))).bind (fun σ19 => (some (v5 + 1)).bind (fun z20 => some (.inl (v2, v2, 0, 0, z20, σ19)))) else bb_X5_read_128 r7.2 v1 v2 v4 v5 r7.1 else (fn_X5_readStream r7.2 v1).bind (fun r23 => if (r23.2.1 202 9) = (-1) then if v1 = 0 then (some (v5 + 1)).bind (fun z24 => some (.inl (v1, r23.1, 1, 0, z24, r23.2))) else (some (v5 + 1)).bind (fun z25 => some (.inl (v1, r23.1, 1, 1, z25, r23.2))) else (some (r23.2.1 202 9, r23.2)).bind (fun y => some (.inr y)))))
set_option maxRecDepth 20000 in
theorem wb_X5_read_32 {l : Launch} {E : qm_E} (σ : qm_M) (v1 : Int32) (v2 : Int32) (v3 : Int32) (v4 : Int32) (v5 : Int32) {x : (Int32 × Int32 × Int32 × Int32 × Int32 × qm_M) ⊕ (Int32 × qm_M)} (h : bb_X5_read_32 σ v1 v2 v3 v4 v5 = some x) {r : Option Value × qm_M} (hT : (qm_T (pp_X5_read_32 l E) (fun x r => (some (.int x.1), x.2) = r)) x r) : qm_Wp l E kd_X5_read "HungStreams$TypedText" cX5_read 7 32 [(0, .ref (qm_a E 202)), (1, .int v1), (2, .int v2), (3, .int v3), (4, .int v4), (5, .int v5)] [] σ r := by
  unfold bb_X5_read_32 at h
  refine qr_iload dX5_read_32 5 rfl ?_
  refine qr_bipush (v := 120) dX5_read_34 (by decide) ?_
  refine qr_icmp_ge (tgt := 184) dX5_read_36 (by decide) (fun c32 => ?_) (fun c32 => ?_)
  · rw [if_pos c32] at h
    obtain ⟨y6, h1, hx⟩ := qm_bind h
    clear h
    cases hx
    have h := h1
    exact qr_sub [0, 1] rfl (wb_X5_read_184 (l := l) (E := E) σ v1 h hT)
  · rw [if_neg c32] at h
    refine qr_aload_n dX5_read_39 rfl 0 rfl ?_
    obtain ⟨r7, er7, h⟩ := qm_bind h
    refine qr_call1 (st1 := [.int r7.1]) rfl (qr_callV (id := 202) (c := 3) (As := []) (st := []) rfl (by decide) rfl (ct_X5_byteBehindBlanks (l := l) (E := E) σ  er7) qw_543 qw_4 qw_540 qw_541 qw_542 yd_X5_byteBehindBlanks (by decide) (by decide) rfl (Nat.le_of_ble_eq_true rfl) dX5_read_40) ?_
    refine qr_istore (lv' := [(6, .int r7.1), (0, .ref (qm_a E 202)), (1, .int v1), (2, .int v2), (3, .int v3), (4, .int v4), (5, .int v5)]) dX5_read_43 (by decide) rfl ?_
    refine qr_iload dX5_read_45 0 rfl ?_
    refine qr_iconst (v := (-1)) dX5_read_47 (by decide) ?_
    refine qr_icmp_ne (tgt := 54) dX5_read_48 (by decide) (fun c31 => ?_) (fun c31 => ?_)
    · rw [if_neg c31] at h
      refine qr_iload dX5_read_54 0 rfl ?_
      obtain ⟨r8, er8, h⟩ := qm_bind h
      refine qr_call1 (st1 := [.int (qm_b r8)]) rfl (qr_callS (As := [.int r7.1]) (st := []) (ct_X5_isFigure (l := l) (E := E) r7.2 r7.1 er8) qw_550 qw_4 qw_548 qw_549 yd_X5_isFigure (by decide) (by decide) rfl (Nat.le_of_ble_eq_true rfl) dX5_read_56) ?_
      refine qr_if_eq (tgt := 97) dX5_read_59 (by decide) (fun c29 => ?_) (fun c29 => ?_)
      · rw [if_pos c29] at h
        refine qr_iload dX5_read_97 0 rfl ?_
        refine qr_bipush (v := 40) dX5_read_99 (by decide) ?_
        refine qr_icmp_ne (tgt := 128) dX5_read_101 (by decide) (fun c22 => ?_) (fun c22 => ?_)
        · rw [if_neg c22] at h
          exact qr_sub [1, 2, 3, 5, 6, 0] rfl (wb_X5_read_128 (l := l) (E := E) r7.2 v1 v2 v4 v5 r7.1 h hT)
        · rw [if_pos c22] at h
          refine qr_iload_n dX5_read_104 rfl 4 rfl ?_
          refine qr_if_eq (tgt := 128) dX5_read_105 (by decide) (fun c21 => ?_) (fun c21 => ?_)
          · rw [if_pos c21] at h
            exact qr_sub [1, 2, 3, 5, 6, 0] rfl (wb_X5_read_128 (l := l) (E := E) r7.2 v1 v2 v4 v5 r7.1 h hT)
          · rw [if_neg c21] at h
            refine qr_aload_n dX5_read_108 rfl 1 rfl ?_
            refine qr_dup dX5_read_109 rfl ?_
            refine qr_get3 (k := 8) (v := .int (r7.2.1 202 8)) rfl (by decide) rfl qw_177 dX5_read_110 ?_
            refine qr_iconst (v := 1) dX5_read_113 (by decide) ?_
            refine qr_iadd dX5_read_114 ?_
            obtain ⟨σ19, eσ19, h⟩ := qm_bind h
            refine qr_put3_8 rfl qw_177 dX5_read_115 (qr_eqm (Option.some.inj eσ19) ?_)
            refine qr_iload_n dX5_read_118 rfl 3 rfl ?_
            refine qr_istore_n (lv' := [(1, .int v2), (6, .int r7.1), (0, .ref (qm_a E 202)), (2, .int v2), (3, .int v3), (4, .int v4), (5, .int v5)]) dX5_read_119 rfl (by decide) rfl ?_
            refine qr_iconst (v := 0) dX5_read_120 (by decide) ?_
            refine qr_istore_n (lv' := [(3, .int 0), (1, .int v2), (6, .int r7.1), (0, .ref (qm_a E 202)), (2, .int v2), (4, .int v4), (5, .int v5)]) dX5_read_121 rfl (by decide) rfl ?_
            refine qr_iconst (v := 0) dX5_read_122 (by decide) ?_
            refine qr_istore (lv' := [(4, .int 0), (3, .int 0), (1, .int v2), (6, .int r7.1), (0, .ref (qm_a E 202)), (2, .int v2), (5, .int v5)]) dX5_read_123 (by decide) rfl ?_
            refine qr_goto (tgt := 178) dX5_read_125 (by decide) ?_
            obtain ⟨z20, ez20, h⟩ := qm_bind h
            refine qr_iinc (q := 6) (v := z20) (lv' := [(5, .int z20), (4, .int 0), (3, .int 0), (1, .int v2), (6, .int r7.1), (0, .ref (qm_a E 202)), (2, .int v2)]) dX5_read_178 rfl (Option.some.inj ez20) (by decide) rfl ?_
            refine qr_goto (tgt := 32) dX5_read_181 (by decide) ?_
            obtain rfl := Option.some.inj h
            exact qr_sub [5, 3, 6, 2, 1, 0] rfl hT
      · rw [if_neg c29] at h
        refine qr_aload_n dX5_read_62 rfl 1 rfl ?_
        refine qr_iload_n dX5_read_63 rfl 2 rfl ?_
        obtain ⟨r23, er23, h⟩ := qm_bind h
        refine qr_call1 (st1 := [.int r23.1]) rfl (qr_callV (id := 202) (c := 3) (As := [.int v1]) (st := []) rfl (by decide) rfl (ct_X5_readStream (l := l) (E := E) r7.2 v1 er23) qw_555 qw_4 qw_552 qw_553 qw_554 yd_X5_readStream (by decide) (by decide) rfl (Nat.le_of_ble_eq_true rfl) dX5_read_64) ?_
        refine qr_istore_n (lv' := [(2, .int r23.1), (6, .int r7.1), (0, .ref (qm_a E 202)), (1, .int v1), (3, .int v3), (4, .int v4), (5, .int v5)]) dX5_read_67 rfl (by decide) rfl ?_
        refine qr_aload_n dX5_read_68 rfl 2 rfl ?_
        refine qr_get3 (k := 9) (v := .int (r23.2.1 202 9)) rfl (by decide) rfl qw_178 dX5_read_69 ?_
        refine qr_iconst (v := (-1)) dX5_read_72 (by decide) ?_
        refine qr_icmp_eq (tgt := 81) dX5_read_73 (by decide) (fun c28 => ?_) (fun c28 => ?_)
        · rw [if_pos c28] at h
          refine qr_iconst (v := 1) dX5_read_81 (by decide) ?_
          refine qr_istore_n (lv' := [(3, .int 1), (2, .int r23.1), (6, .int r7.1), (0, .ref (qm_a E 202)), (1, .int v1), (4, .int v4), (5, .int v5)]) dX5_read_82 rfl (by decide) rfl ?_
          refine qr_iload_n dX5_read_83 rfl 4 rfl ?_
          refine qr_if_eq (tgt := 91) dX5_read_84 (by decide) (fun c26 => ?_) (fun c26 => ?_)
          · rw [if_pos c26] at h
            refine qr_iconst (v := 0) dX5_read_91 (by decide) ?_
            refine qr_istore (lv' := [(4, .int 0), (3, .int 1), (2, .int r23.1), (6, .int r7.1), (0, .ref (qm_a E 202)), (1, .int v1), (5, .int v5)]) dX5_read_92 (by decide) rfl ?_
            refine qr_goto (tgt := 178) dX5_read_94 (by decide) ?_
            obtain ⟨z24, ez24, h⟩ := qm_bind h
            refine qr_iinc (q := 6) (v := z24) (lv' := [(5, .int z24), (4, .int 0), (3, .int 1), (2, .int r23.1), (6, .int r7.1), (0, .ref (qm_a E 202)), (1, .int v1)]) dX5_read_178 rfl (Option.some.inj ez24) (by decide) rfl ?_
            refine qr_goto (tgt := 32) dX5_read_181 (by decide) ?_
            obtain rfl := Option.some.inj h
            exact qr_sub [5, 6, 3, 2, 1, 0] rfl hT
          · rw [if_neg c26] at h
            refine qr_iconst (v := 1) dX5_read_87 (by decide) ?_
            refine qr_goto (tgt := 92) dX5_read_88 (by decide) ?_
            refine qr_istore (lv' := [(4, .int 1), (3, .int 1), (2, .int r23.1), (6, .int r7.1), (0, .ref (qm_a E 202)), (1, .int v1), (5, .int v5)]) dX5_read_92 (by decide) rfl ?_
            refine qr_goto (tgt := 178) dX5_read_94 (by decide) ?_
            obtain ⟨z25, ez25, h⟩ := qm_bind h
            refine qr_iinc (q := 6) (v := z25) (lv' := [(5, .int z25), (4, .int 1), (3, .int 1), (2, .int r23.1), (6, .int r7.1), (0, .ref (qm_a E 202)), (1, .int v1)]) dX5_read_178 rfl (Option.some.inj ez25) (by decide) rfl ?_
            refine qr_goto (tgt := 32) dX5_read_181 (by decide) ?_
            obtain rfl := Option.some.inj h
            exact qr_sub [5, 6, 3, 2, 1, 0] rfl hT
        · rw [if_neg c28] at h
          obtain ⟨y27, h1, hx⟩ := qm_bind h
          clear h
          cases hx
          have h := h1
          refine qr_aload_n dX5_read_76 rfl 2 rfl ?_
          refine qr_get3 (k := 9) (v := .int (r23.2.1 202 9)) rfl (by decide) rfl qw_178 dX5_read_77 ?_
          obtain rfl := Option.some.inj h
          cases hT
          exact qr_iret dX5_read_80
    · rw [if_pos c31] at h
      obtain ⟨y30, h1, hx⟩ := qm_bind h
      clear h
      cases hx
      have h := h1
      refine qr_goto (tgt := 184) dX5_read_51 (by decide) ?_
      exact qr_sub [1, 2] rfl (wb_X5_read_184 (l := l) (E := E) r7.2 v1 h hT)
def lp_X5_read_32 (σ : qm_M) (v1 : Int32) (v2 : Int32) (v3 : Int32) (v4 : Int32) (v5 : Int32) : Option (Int32 × qm_M) := qm_loop (fun s : Int32 × Int32 × Int32 × Int32 × Int32 × qm_M => bb_X5_read_32 s.2.2.2.2.2 s.1 s.2.1 s.2.2.1 s.2.2.2.1 s.2.2.2.2.1) 1000 (v1, v2, v3, v4, v5, σ)
theorem wl_X5_read_32 {l : Launch} {E : qm_E} (σ : qm_M) (v1 : Int32) (v2 : Int32) (v3 : Int32) (v4 : Int32) (v5 : Int32) {x : Int32 × qm_M} (h : lp_X5_read_32 σ v1 v2 v3 v4 v5 = some x) {r : Option Value × qm_M} (hT : (fun x r => (some (.int x.1), x.2) = r) x r) : qm_Wp l E kd_X5_read "HungStreams$TypedText" cX5_read 7 32 [(0, .ref (qm_a E 202)), (1, .int v1), (2, .int v2), (3, .int v3), (4, .int v4), (5, .int v5)] [] σ r :=
  qm_loop_T (P := pp_X5_read_32 l E) (T1 := (fun x r => (some (.int x.1), x.2) = r)) (fun s x h r hT => wb_X5_read_32 (l := l) (E := E) s.2.2.2.2.2 s.1 s.2.1 s.2.2.1 s.2.2.2.1 s.2.2.2.2.1  h hT) h hT
def fn_X5_read (σ : qm_M)  : Option (Int32 × qm_M) :=
  (some (qm_si σ 202 5 0)).bind (fun σ1 => (some (qm_si σ1 202 7 0)).bind (fun σ2 => (some (qm_si σ2 202 8 0)).bind (fun σ3 => (some (qm_si σ3 202 9 (-1))).bind (fun σ4 => lp_X5_read_32 σ4 0 0 0 0 0))))
set_option maxRecDepth 20000 in
theorem wf_X5_read {l : Launch} {E : qm_E} (σ : qm_M)  {x : Int32 × qm_M} (h : fn_X5_read σ  = some x) {r : Option Value × qm_M} (hT : (fun x r => (some (.int x.1), x.2) = r) x r) : qm_Wp l E kd_X5_read "HungStreams$TypedText" cX5_read 7 0 [(0, .ref (qm_a E 202))] [] σ r := by
  unfold fn_X5_read at h
  refine qr_aload_n dX5_read_0 rfl 0 rfl ?_
  refine qr_iconst (v := 0) dX5_read_1 (by decide) ?_
  obtain ⟨σ1, eσ1, h⟩ := qm_bind h
  refine qr_put3_5 rfl qw_173 dX5_read_2 (qr_eqm (Option.some.inj eσ1) ?_)
  refine qr_aload_n dX5_read_5 rfl 0 rfl ?_
  refine qr_iconst (v := 0) dX5_read_6 (by decide) ?_
  obtain ⟨σ2, eσ2, h⟩ := qm_bind h
  refine qr_put3_7 rfl qw_176 dX5_read_7 (qr_eqm (Option.some.inj eσ2) ?_)
  refine qr_aload_n dX5_read_10 rfl 0 rfl ?_
  refine qr_iconst (v := 0) dX5_read_11 (by decide) ?_
  obtain ⟨σ3, eσ3, h⟩ := qm_bind h
  refine qr_put3_8 rfl qw_177 dX5_read_12 (qr_eqm (Option.some.inj eσ3) ?_)
  refine qr_aload_n dX5_read_15 rfl 0 rfl ?_
  refine qr_iconst (v := (-1)) dX5_read_16 (by decide) ?_
  obtain ⟨σ4, eσ4, h⟩ := qm_bind h
  refine qr_put3_9 rfl qw_178 dX5_read_17 (qr_eqm (Option.some.inj eσ4) ?_)
  refine qr_iconst (v := 0) dX5_read_20 (by decide) ?_
  refine qr_istore_n (lv' := [(1, .int 0), (0, .ref (qm_a E 202))]) dX5_read_21 rfl (by decide) rfl ?_
  refine qr_iconst (v := 0) dX5_read_22 (by decide) ?_
  refine qr_istore_n (lv' := [(2, .int 0), (1, .int 0), (0, .ref (qm_a E 202))]) dX5_read_23 rfl (by decide) rfl ?_
  refine qr_iconst (v := 0) dX5_read_24 (by decide) ?_
  refine qr_istore_n (lv' := [(3, .int 0), (2, .int 0), (1, .int 0), (0, .ref (qm_a E 202))]) dX5_read_25 rfl (by decide) rfl ?_
  refine qr_iconst (v := 0) dX5_read_26 (by decide) ?_
  refine qr_istore (lv' := [(4, .int 0), (3, .int 0), (2, .int 0), (1, .int 0), (0, .ref (qm_a E 202))]) dX5_read_27 (by decide) rfl ?_
  refine qr_iconst (v := 0) dX5_read_29 (by decide) ?_
  refine qr_istore (lv' := [(5, .int 0), (4, .int 0), (3, .int 0), (2, .int 0), (1, .int 0), (0, .ref (qm_a E 202))]) dX5_read_30 (by decide) rfl ?_
  exact qr_sub [5, 4, 3, 2, 1, 0] rfl (wl_X5_read_32 (l := l) (E := E) σ4 0 0 0 0 0 h hT)
theorem ct_X5_read {l : Launch} {E : qm_E} (σ : qm_M)  {x : Int32 × qm_M} (h : fn_X5_read σ  = some x) : qm_Ct l E kd_X5_read yX5_read cX5_read 7 (some .int) [.ref (qm_a E 202)] σ (some (.int x.1), x.2) := qm_ofWp rfl (Nat.le_of_ble_eq_true rfl) (Or.inl rfl) (wf_X5_read σ   h rfl)
