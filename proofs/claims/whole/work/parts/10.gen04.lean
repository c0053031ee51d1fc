-- HungStreams.refuse (I)I
abbrev kd_X6_refuse : Nat := 1
theorem yd_X6_refuse : (yX6_refuse).cls ≠ "java/lang/invoke/MethodHandle" ∧ (yX6_refuse).cls ≠ "java/lang/invoke/VarHandle" ∧ (parseMethodDescriptor (yX6_refuse).desc).map (fun d => d.parameters.length) = some 1 := by decide +kernel
def fn_X6_refuse (σ : qm_M) (v1 : Int32) : Option (Int32 × qm_M) :=
  if v1 = (-2) then (some (qm_si σ 200 6 ((σ.1 200 6) + 1))).bind (fun σ4 => some (v1, σ4)) else if v1 = (-3) then (some (qm_si σ 200 7 ((σ.1 200 7) + 1))).bind (fun σ2 => some (v1, σ2)) else (some (qm_si σ 200 8 ((σ.1 200 8) + 1))).bind (fun σ1 => some (v1, σ1))
set_option maxRecDepth 20000 in
theorem wf_X6_refuse {l : Launch} {E : qm_E} (σ : qm_M) (v1 : Int32) {x : Int32 × qm_M} (h : fn_X6_refuse σ v1 = some x) {r : Option Value × qm_M} (hT : (fun x r => (some (.int x.1), x.2) = r) x r) : qm_Wp l E kd_X6_refuse "HungStreams" cX6_refuse 2 0 [(0, .ref (qm_a E 200)), (1, .int v1)] [] σ r := by
  unfold fn_X6_refuse at h
  refine qr_iload_n dX6_refuse_0 rfl 1 rfl ?_
  refine qr_bipush (v := (-2)) dX6_refuse_1 (by decide) ?_
  refine qr_icmp_ne (tgt := 19) dX6_refuse_3 (by decide) (fun c5 => ?_) (fun c5 => ?_)
  · rw [if_neg c5] at h
    refine qr_iload_n dX6_refuse_19 rfl 1 rfl ?_
    refine qr_bipush (v := (-3)) dX6_refuse_20 (by decide) ?_
    refine qr_icmp_ne (tgt := 38) dX6_refuse_22 (by decide) (fun c3 => ?_) (fun c3 => ?_)
    · rw [if_neg c3] at h
      refine qr_aload_n dX6_refuse_38 rfl 0 rfl ?_
      refine qr_dup dX6_refuse_39 rfl ?_
      refine qr_get4 (k := 8) (v := .int (σ.1 200 8)) rfl (by decide) rfl qw_224 dX6_refuse_40 ?_
      refine qr_iconst (v := 1) dX6_refuse_43 (by decide) ?_
      refine qr_iadd dX6_refuse_44 ?_
      obtain ⟨σ1, eσ1, h⟩ := qm_bind h
      refine qr_put4_8 rfl qw_224 dX6_refuse_45 (qr_eqm (Option.some.inj eσ1) ?_)
      refine qr_iload_n dX6_refuse_48 rfl 1 rfl ?_
      obtain rfl := Option.some.inj h
      cases hT
      exact qr_iret dX6_refuse_49
    · rw [if_pos c3] at h
      refine qr_aload_n dX6_refuse_25 rfl 0 rfl ?_
      refine qr_dup dX6_refuse_26 rfl ?_
      refine qr_get4 (k := 7) (v := .int (σ.1 200 7)) rfl (by decide) rfl qw_223 dX6_refuse_27 ?_
      refine qr_iconst (v := 1) dX6_refuse_30 (by decide) ?_
      refine qr_iadd dX6_refuse_31 ?_
      obtain ⟨σ2, eσ2, h⟩ := qm_bind h
      refine qr_put4_7 rfl qw_223 dX6_refuse_32 (qr_eqm (Option.some.inj eσ2) ?_)
      refine qr_goto (tgt := 48) dX6_refuse_35 (by decide) ?_
      refine qr_iload_n dX6_refuse_48 rfl 1 rfl ?_
      obtain rfl := Option.some.inj h
      cases hT
      exact qr_iret dX6_refuse_49
  · rw [if_pos c5] at h
    refine qr_aload_n dX6_refuse_6 rfl 0 rfl ?_
    refine qr_dup dX6_refuse_7 rfl ?_
    refine qr_get4 (k := 6) (v := .int (σ.1 200 6)) rfl (by decide) rfl qw_222 dX6_refuse_8 ?_
    refine qr_iconst (v := 1) dX6_refuse_11 (by decide) ?_
    refine qr_iadd dX6_refuse_12 ?_
    obtain ⟨σ4, eσ4, h⟩ := qm_bind h
    refine qr_put4_6 rfl qw_222 dX6_refuse_13 (qr_eqm (Option.some.inj eσ4) ?_)
    refine qr_goto (tgt := 48) dX6_refuse_16 (by decide) ?_
    refine qr_iload_n dX6_refuse_48 rfl 1 rfl ?_
    obtain rfl := Option.some.inj h
    cases hT
    exact qr_iret dX6_refuse_49
theorem ct_X6_refuse {l : Launch} {E : qm_E} (σ : qm_M) (v1 : Int32) {x : Int32 × qm_M} (h : fn_X6_refuse σ v1 = some x) : qm_Ct l E kd_X6_refuse yX6_refuse cX6_refuse 2 (some .int) [.ref (qm_a E 200), .int v1] σ (some (.int x.1), x.2) := qm_ofWp rfl (Nat.le_of_ble_eq_true rfl) (Or.inl rfl) (wf_X6_refuse σ v1  h rfl)
-- HungStreams.leaveState ()V
abbrev kd_X6_leaveState : Nat := 3
theorem yd_X6_leaveState : (yX6_leaveState).cls ≠ "java/lang/invoke/MethodHandle" ∧ (yX6_leaveState).cls ≠ "java/lang/invoke/VarHandle" ∧ (parseMethodDescriptor (yX6_leaveState).desc).map (fun d => d.parameters.length) = some 0 := by decide +kernel
def bb_X6_leaveState_30 (σ : qm_M)  : Option (qm_M) :=
  if ¬ ((((σ.1 200 2) + (σ.1 200 3)) - ((σ.1 200 2) + (σ.1 200 3)) / 5 * 5) < 0 ∨ 5 ≤ (((σ.1 200 2) + (σ.1 200 3)) - ((σ.1 200 2) + (σ.1 200 3)) / 5 * 5).toNatClampNeg) then (fn_X3_copyFrom σ (32 * ((((σ.1 200 2) + (σ.1 200 3)) - ((σ.1 200 2) + (σ.1 200 3)) / 5 * 5).toNatClampNeg + 1)) 0).bind (fun r2 => (some (qm_si r2 200 3 ((r2.1 200 3) + 1))).bind (fun σ3 => some σ3)) else none
set_option maxRecDepth 20000 in
theorem wb_X6_leaveState_30 {l : Launch} {E : qm_E} (σ : qm_M)  {x : qm_M} (h : bb_X6_leaveState_30 σ  = some x) {r : Option Value × qm_M} (hT : (fun x r => (none, x) = r) x r) : qm_Wp l E kd_X6_leaveState "HungStreams" cX6_leaveState 1 30 [(0, .ref (qm_a E 200))] [] σ r := by
  unfold bb_X6_leaveState_30 at h
  refine qr_aload_n dX6_leaveState_30 rfl 0 rfl ?_
  refine qr_get4 (k := 1) (v := .ref (qm_a E 201)) rfl (by decide) rfl qw_217 dX6_leaveState_31 ?_
  refine qr_aload_n dX6_leaveState_34 rfl 0 rfl ?_
  refine qr_get4 (k := 2) (v := .int (σ.1 200 2)) rfl (by decide) rfl qw_218 dX6_leaveState_35 ?_
  refine qr_aload_n dX6_leaveState_38 rfl 0 rfl ?_
  refine qr_get4 (k := 3) (v := .int (σ.1 200 3)) rfl (by decide) rfl qw_219 dX6_leaveState_39 ?_
  refine qr_iadd dX6_leaveState_42 ?_
  refine qr_iconst (v := 5) dX6_leaveState_43 (by decide) ?_
  refine qr_irem dX6_leaveState_44 (by decide) ?_
  obtain ⟨c1, h⟩ := qm_chk h
  refine qr_aaldt rfl c1 dX6_leaveState_45 ?_
  refine qr_aload_n dX6_leaveState_46 rfl 0 rfl ?_
  refine qr_get4 (k := 0) (v := .ref (qm_a E 0)) rfl (by decide) rfl qw_216 dX6_leaveState_47 ?_
  obtain ⟨r2, er2, h⟩ := qm_bind h
  refine qr_call1 (st1 := []) rfl (qr_callV (id := 32 * ((((σ.1 200 2) + (σ.1 200 3)) - ((σ.1 200 2) + (σ.1 200 3)) / 5 * 5).toNatClampNeg + 1)) (c := 1) (As := [.ref (qm_a E 0)]) (st := []) (qm_k_tree c1) (by decide) rfl (ct_X3_copyFrom (l := l) (E := E) σ (32 * ((((σ.1 200 2) + (σ.1 200 3)) - ((σ.1 200 2) + (σ.1 200 3)) / 5 * 5).toNatClampNeg + 1)) 0 (qm_k_tree c1) rfl er2) qw_275 qw_2 qw_272 qw_273 qw_274 yd_X3_copyFrom (by decide) (by decide) rfl (Nat.le_of_ble_eq_true rfl) dX6_leaveState_50) ?_
  refine qr_aload_n dX6_leaveState_53 rfl 0 rfl ?_
  refine qr_dup dX6_leaveState_54 rfl ?_
  refine qr_get4 (k := 3) (v := .int (r2.1 200 3)) rfl (by decide) rfl qw_219 dX6_leaveState_55 ?_
  refine qr_iconst (v := 1) dX6_leaveState_58 (by decide) ?_
  refine qr_iadd dX6_leaveState_59 ?_
  obtain ⟨σ3, eσ3, h⟩ := qm_bind h
  refine qr_put4_3 rfl qw_219 dX6_leaveState_60 (qr_eqm (Option.some.inj eσ3) ?_)
  obtain rfl := Option.some.inj h
  cases hT
  exact qr_vret dX6_leaveState_63
def fn_X6_leaveState (σ : qm_M)  : Option (qm_M) :=
  if (σ.1 200 3) = 5 then (some (qm_si σ 200 2 (((σ.1 200 2) + 1) - ((σ.1 200 2) + 1) / 5 * 5))).bind (fun σ4 => (some (qm_si σ4 200 3 ((σ4.1 200 3) - 1))).bind (fun σ5 => bb_X6_leaveState_30 σ5 )) else bb_X6_leaveState_30 σ 
set_option maxRecDepth 20000 in
theorem wf_X6_leaveState {l : Launch} {E : qm_E} (σ : qm_M)  {x : qm_M} (h : fn_X6_leaveState σ  = some x) {r : Option Value × qm_M} (hT : (fun x r => (none, x) = r) x r) : qm_Wp l E kd_X6_leaveState "HungStreams" cX6_leaveState 1 0 [(0, .ref (qm_a E 200))] [] σ r := by
  unfold fn_X6_leaveState at h
  refine qr_aload_n dX6_leaveState_0 rfl 0 rfl ?_
  refine qr_get4 (k := 3) (v := .int (σ.1 200 3)) rfl (by decide) rfl qw_219 dX6_leaveState_1 ?_
  refine qr_iconst (v := 5) dX6_leaveState_4 (by decide) ?_
  refine qr_icmp_ne (tgt := 30) dX6_leaveState_5 (by decide) (fun c6 => ?_) (fun c6 => ?_)
  · rw [if_neg c6] at h
    exact qr_sub [0] rfl (wb_X6_leaveState_30 (l := l) (E := E) σ  h hT)
  · rw [if_pos c6] at h
    refine qr_aload_n dX6_leaveState_8 rfl 0 rfl ?_
    refine qr_aload_n dX6_leaveState_9 rfl 0 rfl ?_
    refine qr_get4 (k := 2) (v := .int (σ.1 200 2)) rfl (by decide) rfl qw_218 dX6_leaveState_10 ?_
    refine qr_iconst (v := 1) dX6_leaveState_13 (by decide) ?_
    refine qr_iadd dX6_leaveState_14 ?_
    refine qr_iconst (v := 5) dX6_leaveState_15 (by decide) ?_
    refine qr_irem dX6_leaveState_16 (by decide) ?_
    obtain ⟨σ4, eσ4, h⟩ := qm_bind h
    refine qr_put4_2 rfl qw_218 dX6_leaveState_17 (qr_eqm (Option.some.inj eσ4) ?_)
    refine qr_aload_n dX6_leaveState_20 rfl 0 rfl ?_
    refine qr_dup dX6_leaveState_21 rfl ?_
    refine qr_get4 (k := 3) (v := .int (σ4.1 200 3)) rfl (by decide) rfl qw_219 dX6_leaveState_22 ?_
    refine qr_iconst (v := 1) dX6_leaveState_25 (by decide) ?_
    refine qr_isub dX6_leaveState_26 ?_
    obtain ⟨σ5, eσ5, h⟩ := qm_bind h
    refine qr_put4_3 rfl qw_219 dX6_leaveState_27 (qr_eqm (Option.some.inj eσ5) ?_)
    exact qr_sub [0] rfl (wb_X6_leaveState_30 (l := l) (E := E) σ5  h hT)
theorem ct_X6_leaveState {l : Launch} {E : qm_E} (σ : qm_M)  {x : qm_M} (h : fn_X6_leaveState σ  = some x) : qm_Ct l E kd_X6_leaveState yX6_leaveState cX6_leaveState 1 none [.ref (qm_a E 200)] σ (none, x) := qm_ofWp rfl (Nat.le_of_ble_eq_true rfl) (rfl) (wf_X6_leaveState σ   h rfl)
-- HungStreams.comes (IIII)I
abbrev kd_X6_comes : Nat := 5
theorem yd_X6_comes : (yX6_comes).cls ≠ "java/lang/invoke/MethodHandle" ∧ (yX6_comes).cls ≠ "java/lang/invoke/VarHandle" ∧ (parseMethodDescriptor (yX6_comes).desc).map (fun d => d.parameters.length) = some 4 := by decide +kernel
def bb_X6_comes_96 (σ : qm_M) (v1 : Int32) (k0 : Int32) (k1 : Int32) (k2 : Int32) (k3 : Nat) : Option (Int32 × qm_M) :=
  (fn_X3_attach σ k3 k2 k1 k0).bind (fun r11 => (fn_X3_childCount r11 0 v1).bind (fun r12 => some (r12, r11)))
set_option maxRecDepth 20000 in
theorem wb_X6_comes_96 {l : Launch} {E : qm_E} (σ : qm_M) (v1 : Int32) (k0 : Int32) (k1 : Int32) (k2 : Int32) (k3 : Nat) (hq3 : qm_kind k3 = 2) {x : Int32 × qm_M} (h : bb_X6_comes_96 σ v1 k0 k1 k2 k3 = some x) {r : Option Value × qm_M} (hT : (fun x r => (some (.int x.1), x.2) = r) x r) : qm_Wp l E kd_X6_comes "HungStreams" cX6_comes 5 96 [(0, .ref (qm_a E 200)), (1, .int v1)] [.int k0, .int k1, .int k2, .ref (qm_a E k3)] σ r := by
  unfold bb_X6_comes_96 at h
  obtain ⟨r11, er11, h⟩ := qm_bind h
  refine qr_call1 (st1 := []) rfl (qr_callV (id := k3) (c := 1) (As := [.int k2, .int k1, .int k0]) (st := []) hq3 (by decide) rfl (ct_X3_attach (l := l) (E := E) σ k3 k2 k1 k0 hq3 er11) qw_291 qw_2 qw_288 qw_289 qw_290 yd_X3_attach (by decide) (by decide) rfl (Nat.le_of_ble_eq_true rfl) dX6_comes_96) ?_
  refine qr_aload_n dX6_comes_99 rfl 0 rfl ?_
  refine qr_get4 (k := 0) (v := .ref (qm_a E 0)) rfl (by decide) rfl qw_216 dX6_comes_100 ?_
  refine qr_iload_n dX6_comes_103 rfl 1 rfl ?_
  obtain ⟨r12, er12, h⟩ := qm_bind h
  refine qr_call1 (st1 := [.int r12]) rfl (qr_callV (id := 0) (c := 1) (As := [.int v1]) (st := []) rfl (by decide) rfl (ct_X3_childCount (l := l) (E := E) r11 0 v1 rfl er12) qw_307 qw_2 qw_304 qw_305 qw_306 yd_X3_childCount (by decide) (by decide) rfl (Nat.le_of_ble_eq_true rfl) dX6_comes_104) ?_
  obtain rfl := Option.some.inj h
  cases hT
  exact qr_iret dX6_comes_107
def fn_X6_comes (σ : qm_M) (v1 : Int32) (v2 : Int32) (v3 : Int32) (v4 : Int32) : Option (Int32 × qm_M) :=
  (fn_X6_within σ v1 1 12).bind (fun r1 => if (qm_b r1) = 0 then (fn_X6_refuse σ (-2)).bind (fun r2 => some (r2.1, r2.2)) else (fn_X3_isNode σ 0 v2).bind (fun r3 => if (qm_b r3) = 0 then (fn_X6_refuse σ (-2)).bind (fun r4 => some (r4.1, r4.2)) else (fn_X6_within σ v3 1 16).bind (fun r5 => if (qm_b r5) = 0 then (fn_X6_refuse σ (-2)).bind (fun r6 => some (r6.1, r6.2)) else (fn_X6_within σ v4 0 1).bind (fun r7 => if (qm_b r7) = 0 then (fn_X6_refuse σ (-2)).bind (fun r16 => some (r16.1, r16.2)) else (fn_X3_isThere σ 0 v1).bind (fun r8 => if (qm_b r8) = 0 then (fn_X6_leaveState σ ).bind (fun r9 => (fn_X3_enter r9 0 v1 v3).bind (fun r10 => if v4 = 1 then bb_X6_comes_96 r10 v1 1 v2 v1 0 else bb_X6_comes_96 r10 v1 0 v2 v1 0)) else (fn_X6_refuse σ (-3)).bind (fun r14 => some (r14.1, r14.2)))))))
set_option maxRecDepth 20000 in
theorem wf_X6_comes {l : Launch} {E : qm_E} (σ : qm_M) (v1 : Int32) (v2 : Int32) (v3 : Int32) (v4 : Int32) {x : Int32 × qm_M} (h : fn_X6_comes σ v1 v2 v3 v4 = some x) {r : Option Value × qm_M} (hT : (fun x r => (some (.int x.1), x.2) = r) x r) : qm_Wp l E kd_X6_comes "HungStreams" cX6_comes 5 0 [(0, .ref (qm_a E 200)), (1, .int v1), (2, .int v2), (3, .int v3), (4, .int v4)] [] σ r := by
  unfold fn_X6_comes at h
  refine qr_iload_n dX6_comes_0 rfl 1 rfl ?_
  refine qr_iconst (v := 1) dX6_comes_1 (by decide) ?_
  refine qr_bipush (v := 12) dX6_comes_2 (by decide) ?_
  obtain ⟨r1, er1, h⟩ := qm_bind h
  refine qr_call1 (st1 := [.int (qm_b r1)]) rfl (qr_callS (As := [.int v1, .int 1, .int 12]) (st := []) (ct_X6_within (l := l) (E := E) σ v1 1 12 er1) qw_250 qw_1 qw_248 qw_249 yd_X6_within (by decide) (by decide) rfl (Nat.le_of_ble_eq_true rfl) dX6_comes_4) ?_
  refine qr_if_eq (tgt := 41) dX6_comes_7 (by decide) (fun c20 => ?_) (fun c20 => ?_)
  · rw [if_pos c20] at h
    refine qr_aload_n dX6_comes_41 rfl 0 rfl ?_
    refine qr_bipush (v := (-2)) dX6_comes_42 (by decide) ?_
    obtain ⟨r2, er2, h⟩ := qm_bind h
    refine qr_call1 (st1 := [.int r2.1]) rfl (qr_callV (id := 200) (c := 4) (As := [.int (-2)]) (st := []) rfl (by decide) rfl (ct_X6_refuse (l := l) (E := E) σ (-2) er2) qw_266 qw_1 qw_263 qw_265 qs_0 yd_X6_refuse (by decide) (by decide) rfl (Nat.le_of_ble_eq_true rfl) dX6_comes_44) ?_
    obtain rfl := Option.some.inj h
    cases hT
    exact qr_iret dX6_comes_47
  · rw [if_neg c20] at h
    refine qr_aload_n dX6_comes_10 rfl 0 rfl ?_
    refine qr_get4 (k := 0) (v := .ref (qm_a E 0)) rfl (by decide) rfl qw_216 dX6_comes_11 ?_
    refine qr_iload_n dX6_comes_14 rfl 2 rfl ?_
    obtain ⟨r3, er3, h⟩ := qm_bind h
    refine qr_call1 (st1 := [.int (qm_b r3)]) rfl (qr_callV (id := 0) (c := 1) (As := [.int v2]) (st := []) rfl (by decide) rfl (ct_X3_isNode (l := l) (E := E) σ 0 v2 rfl er3) qw_254 qw_2 qw_251 qw_252 qw_253 yd_X3_isNode (by decide) (by decide) rfl (Nat.le_of_ble_eq_true rfl) dX6_comes_15) ?_
    refine qr_if_eq (tgt := 41) dX6_comes_18 (by decide) (fun c19 => ?_) (fun c19 => ?_)
    · rw [if_pos c19] at h
      refine qr_aload_n dX6_comes_41 rfl 0 rfl ?_
      refine qr_bipush (v := (-2)) dX6_comes_42 (by decide) ?_
      obtain ⟨r4, er4, h⟩ := qm_bind h
      refine qr_call1 (st1 := [.int r4.1]) rfl (qr_callV (id := 200) (c := 4) (As := [.int (-2)]) (st := []) rfl (by decide) rfl (ct_X6_refuse (l := l) (E := E) σ (-2) er4) qw_266 qw_1 qw_263 qw_265 qs_0 yd_X6_refuse (by decide) (by decide) rfl (Nat.le_of_ble_eq_true rfl) dX6_comes_44) ?_
      obtain rfl := Option.some.inj h
      cases hT
      exact qr_iret dX6_comes_47
    · rw [if_neg c19] at h
      refine qr_iload_n dX6_comes_21 rfl 3 rfl ?_
      refine qr_iconst (v := 1) dX6_comes_22 (by decide) ?_
      refine qr_bipush (v := 16) dX6_comes_23 (by decide) ?_
      obtain ⟨r5, er5, h⟩ := qm_bind h
      refine qr_call1 (st1 := [.int (qm_b r5)]) rfl (qr_callS (As := [.int v3, .int 1, .int 16]) (st := []) (ct_X6_within (l := l) (E := E) σ v3 1 16 er5) qw_250 qw_1 qw_248 qw_249 yd_X6_within (by decide) (by decide) rfl (Nat.le_of_ble_eq_true rfl) dX6_comes_25) ?_
      refine qr_if_eq (tgt := 41) dX6_comes_28 (by decide) (fun c18 => ?_) (fun c18 => ?_)
      · rw [if_pos c18] at h
        refine qr_aload_n dX6_comes_41 rfl 0 rfl ?_
        refine qr_bipush (v := (-2)) dX6_comes_42 (by decide) ?_
        obtain ⟨r6, er6, h⟩ := qm_bind h
        refine qr_call1 (st1 := [.int r6.1]) rfl (qr_callV (id := 200) (c := 4) (As := [.int (-2)]) (st := []) rfl (by decide) rfl (ct_X6_refuse (l := l) (E := E) σ (-2) er6) qw_266 qw_1 qw_263 qw_265 qs_0 yd_X6_refuse (by decide) (by decide) rfl (Nat.le_of_ble_eq_true rfl) dX6_comes_44) ?_
        obtain rfl := Option.some.inj h
        cases hT
        exact qr_iret dX6_comes_47
      · rw [if_neg c18] at h
        refine qr_iload dX6_comes_31 4 rfl ?_
        refine qr_iconst (v := 0) dX6_comes_33 (by decide) ?_
        refine qr_iconst (v := 1) dX6_comes_34 (by decide) ?_
        obtain ⟨r7, er7, h⟩ := qm_bind h
        refine qr_call1 (st1 := [.int (qm_b r7)]) rfl (qr_callS (As := [.int v4, .int 0, .int 1]) (st := []) (ct_X6_within (l := l) (E := E) σ v4 0 1 er7) qw_250 qw_1 qw_248 qw_249 yd_X6_within (by decide) (by decide) rfl (Nat.le_of_ble_eq_true rfl) dX6_comes_35) ?_
        refine qr_if_ne (tgt := 48) dX6_comes_38 (by decide) (fun c17 => ?_) (fun c17 => ?_)
        · rw [if_neg c17] at h
          refine qr_aload_n dX6_comes_48 rfl 0 rfl ?_
          refine qr_get4 (k := 0) (v := .ref (qm_a E 0)) rfl (by decide) rfl qw_216 dX6_comes_49 ?_
          refine qr_iload_n dX6_comes_52 rfl 1 rfl ?_
          obtain ⟨r8, er8, h⟩ := qm_bind h
          refine qr_call1 (st1 := [.int (qm_b r8)]) rfl (qr_callV (id := 0) (c := 1) (As := [.int v1]) (st := []) rfl (by decide) rfl (ct_X3_isThere (l := l) (E := E) σ 0 v1 rfl er8) qw_258 qw_2 qw_267 qw_256 qw_257 yd_X3_isThere (by decide) (by decide) rfl (Nat.le_of_ble_eq_true rfl) dX6_comes_53) ?_
          refine qr_if_eq (tgt := 66) dX6_comes_56 (by decide) (fun c15 => ?_) (fun c15 => ?_)
          · rw [if_pos c15] at h
            refine qr_aload_n dX6_comes_66 rfl 0 rfl ?_
            obtain ⟨r9, er9, h⟩ := qm_bind h
            refine qr_call1 (st1 := []) rfl (qr_callV (id := 200) (c := 4) (As := []) (st := []) rfl (by decide) rfl (ct_X6_leaveState (l := l) (E := E) σ  er9) qw_271 qw_1 qw_268 qw_270 qs_1 yd_X6_leaveState (by decide) (by decide) rfl (Nat.le_of_ble_eq_true rfl) dX6_comes_67) ?_
            refine qr_aload_n dX6_comes_70 rfl 0 rfl ?_
            refine qr_get4 (k := 0) (v := .ref (qm_a E 0)) rfl (by decide) rfl qw_216 dX6_comes_71 ?_
            refine qr_iload_n dX6_comes_74 rfl 1 rfl ?_
            refine qr_iload_n dX6_comes_75 rfl 3 rfl ?_
            obtain ⟨r10, er10, h⟩ := qm_bind h
            refine qr_call1 (st1 := []) rfl (qr_callV (id := 0) (c := 1) (As := [.int v1, .int v3]) (st := []) rfl (by decide) rfl (ct_X3_enter (l := l) (E := E) r9 0 v1 v3 rfl er10) qw_283 qw_2 qw_280 qw_281 qw_282 yd_X3_enter (by decide) (by decide) rfl (Nat.le_of_ble_eq_true rfl) dX6_comes_76) ?_
            refine qr_aload_n dX6_comes_79 rfl 0 rfl ?_
            refine qr_get4 (k := 0) (v := .ref (qm_a E 0)) rfl (by decide) rfl qw_216 dX6_comes_80 ?_
            refine qr_iload_n dX6_comes_83 rfl 1 rfl ?_
            refine qr_iload_n dX6_comes_84 rfl 2 rfl ?_
            refine qr_iload dX6_comes_85 4 rfl ?_
            refine qr_iconst (v := 1) dX6_comes_87 (by decide) ?_
            refine qr_icmp_ne (tgt := 95) dX6_comes_88 (by decide) (fun c13 => ?_) (fun c13 => ?_)
            · rw [if_neg c13] at h
              refine qr_iconst (v := 0) dX6_comes_95 (by decide) ?_
              exact qr_sub [0, 1] rfl (wb_X6_comes_96 (l := l) (E := E) r10 v1 0 v2 v1 0 rfl h hT)
            · rw [if_pos c13] at h
              refine qr_iconst (v := 1) dX6_comes_91 (by decide) ?_
              refine qr_goto (tgt := 96) dX6_comes_92 (by decide) ?_
              exact qr_sub [0, 1] rfl (wb_X6_comes_96 (l := l) (E := E) r10 v1 1 v2 v1 0 rfl h hT)
          · rw [if_neg c15] at h
            refine qr_aload_n dX6_comes_59 rfl 0 rfl ?_
            refine qr_bipush (v := (-3)) dX6_comes_60 (by decide) ?_
            obtain ⟨r14, er14, h⟩ := qm_bind h
            refine qr_call1 (st1 := [.int r14.1]) rfl (qr_callV (id := 200) (c := 4) (As := [.int (-3)]) (st := []) rfl (by decide) rfl (ct_X6_refuse (l := l) (E := E) σ (-3) er14) qw_266 qw_1 qw_263 qw_265 qs_0 yd_X6_refuse (by decide) (by decide) rfl (Nat.le_of_ble_eq_true rfl) dX6_comes_62) ?_
            obtain rfl := Option.some.inj h
            cases hT
            exact qr_iret dX6_comes_65
        · rw [if_pos c17] at h
          refine qr_aload_n dX6_comes_41 rfl 0 rfl ?_
          refine qr_bipush (v := (-2)) dX6_comes_42 (by decide) ?_
          obtain ⟨r16, er16, h⟩ := qm_bind h
          refine qr_call1 (st1 := [.int r16.1]) rfl (qr_callV (id := 200) (c := 4) (As := [.int (-2)]) (st := []) rfl (by decide) rfl (ct_X6_refuse (l := l) (E := E) σ (-2) er16) qw_266 qw_1 qw_263 qw_265 qs_0 yd_X6_refuse (by decide) (by decide) rfl (Nat.le_of_ble_eq_true rfl) dX6_comes_44) ?_
          obtain rfl := Option.some.inj h
          cases hT
          exact qr_iret dX6_comes_47
theorem ct_X6_comes {l : Launch} {E : qm_E} (σ : qm_M) (v1 : Int32) (v2 : Int32) (v3 : Int32) (v4 : Int32) {x : Int32 × qm_M} (h : fn_X6_comes σ v1 v2 v3 v4 = some x) : qm_Ct l E kd_X6_comes yX6_comes cX6_comes 5 (some .int) [.ref (qm_a E 200), .int v1, .int v2, .int v3, .int v4] σ (some (.int x.1), x.2) := qm_ofWp rfl (Nat.le_of_ble_eq_true rfl) (Or.inl rfl) (wf_X6_comes σ v1 v2 v3 v4  h rfl)
-- HungStreams.moves (IIII)I
abbrev kd_X6_moves : Nat := 5
theorem yd_X6_moves : (yX6_moves).cls ≠ "java/lang/invoke/MethodHandle" ∧ (yX6_moves).cls ≠ "java/lang/invoke/VarHandle" ∧ (parseMethodDescriptor (yX6_moves).desc).map (fun d => d.parameters.length) = some 4 := by decide +kernel
def bb_X6_moves_120 (σ : qm_M) (v1 : Int32) (k0 : Int32) (k1 : Int32) (k2 : Int32) (k3 : Nat) : Option (Int32 × qm_M) :=
  (fn_X3_attach σ k3 k2 k1 k0).bind (fun r13 => (fn_X3_childCount r13 0 v1).bind (fun r14 => some (r14, r13)))
set_option maxRecDepth 20000 in
theorem wb_X6_moves_120 {l : Launch} {E : qm_E} (σ : qm_M) (v1 : Int32) (k0 : Int32) (k1 : Int32) (k2 : Int32) (k3 : Nat) (hq3 : qm_kind k3 = 2) {x : Int32 × qm_M} (h : bb_X6_moves_120 σ v1 k0 k1 k2 k3 = some x) {r : Option Value × qm_M} (hT : (fun x r => (some (.int x.1), x.2) = r) x r) : qm_Wp l E kd_X6_moves "HungStreams" cX6_moves 5 120 [(0, .ref (qm_a E 200)), (1, .int v1)] [.int k0, .int k1, .int k2, .ref (qm_a E k3)] σ r := by
  unfold bb_X6_moves_120 at h
  obtain ⟨r13, er13, h⟩ := qm_bind h
  refine qr_call1 (st1 := []) rfl (qr_callV (id := k3) (c := 1) (As := [.int k2, .int k1, .int k0]) (st := []) hq3 (by decide) rfl (ct_X3_attach (l := l) (E := E) σ k3 k2 k1 k0 hq3 er13) qw_291 qw_2 qw_288 qw_289 qw_290 yd_X3_attach (by decide) (by decide) rfl (Nat.le_of_ble_eq_true rfl) dX6_moves_120) ?_
  refine qr_aload_n dX6_moves_123 rfl 0 rfl ?_
  refine qr_get4 (k := 0) (v := .ref (qm_a E 0)) rfl (by decide) rfl qw_216 dX6_moves_124 ?_
  refine qr_iload_n dX6_moves_127 rfl 1 rfl ?_
  obtain ⟨r14, er14, h⟩ := qm_bind h
  refine qr_call1 (st1 := [.int r14]) rfl (qr_callV (id := 0) (c := 1) (As := [.int v1]) (st := []) rfl (by decide) rfl (ct_X3_childCount (l := l) (E := E) r13 0 v1 rfl er14) qw_307 qw_2 qw_304 qw_305 qw_306 yd_X3_childCount (by decide) (by decide) rfl (Nat.le_of_ble_eq_true rfl) dX6_moves_128) ?_
  obtain rfl := Option.some.inj h
  cases hT
  exact qr_iret dX6_moves_131
def bb_X6_moves_90 (σ : qm_M) (v1 : Int32) (v2 : Int32) (v3 : Int32) (v4 : Int32) : Option (Int32 × qm_M) :=
  if ¬ (v1 < 0 ∨ 13 ≤ v1.toNatClampNeg) then (some (qm_si σ (0 + 1 + 1 + v1.toNatClampNeg) 1 v3)).bind (fun σ12 => if v4 = 1 then bb_X6_moves_120 σ12 v1 1 v2 v1 0 else bb_X6_moves_120 σ12 v1 0 v2 v1 0) else none
set_option maxRecDepth 20000 in
theorem wb_X6_moves_90 {l : Launch} {E : qm_E} (σ : qm_M) (v1 : Int32) (v2 : Int32) (v3 : Int32) (v4 : Int32) {x : Int32 × qm_M} (h : bb_X6_moves_90 σ v1 v2 v3 v4 = some x) {r : Option Value × qm_M} (hT : (fun x r => (some (.int x.1), x.2) = r) x r) : qm_Wp l E kd_X6_moves "HungStreams" cX6_moves 5 90 [(0, .ref (qm_a E 200)), (1, .int v1), (2, .int v2), (3, .int v3), (4, .int v4)] [] σ r := by
  unfold bb_X6_moves_90 at h
  refine qr_aload_n dX6_moves_90 rfl 0 rfl ?_
  refine qr_get4 (k := 0) (v := .ref (qm_a E 0)) rfl (by decide) rfl qw_216 dX6_moves_91 ?_
  refine qr_get1 (k := 0) (v := .ref (qm_a E (0 + 1))) rfl (by decide) rfl qw_110 dX6_moves_94 ?_
  refine qr_iload_n dX6_moves_97 rfl 1 rfl ?_
  obtain ⟨c11, h⟩ := qm_chk h
  refine qr_aalds (qm_k_arr rfl) c11 dX6_moves_98 ?_
  refine qr_iload_n dX6_moves_99 rfl 3 rfl ?_
  obtain ⟨σ12, eσ12, h⟩ := qm_bind h
  refine qr_put0_1 (qm_k_str (qm_k_arr rfl) c11) qw_40 dX6_moves_100 (qr_eqm (Option.some.inj eσ12) ?_)
  refine qr_aload_n dX6_moves_103 rfl 0 rfl ?_
  refine qr_get4 (k := 0) (v := .ref (qm_a E 0)) rfl (by decide) rfl qw_216 dX6_moves_104 ?_
  refine qr_iload_n dX6_moves_107 rfl 1 rfl ?_
  refine qr_iload_n dX6_moves_108 rfl 2 rfl ?_
  refine qr_iload dX6_moves_109 4 rfl ?_
  refine qr_iconst (v := 1) dX6_moves_111 (by decide) ?_
  refine qr_icmp_ne (tgt := 119) dX6_moves_112 (by decide) (fun c15 => ?_) (fun c15 => ?_)
  · rw [if_neg c15] at h
    refine qr_iconst (v := 0) dX6_moves_119 (by decide) ?_
    exact qr_sub [0, 1] rfl (wb_X6_moves_120 (l := l) (E := E) σ12 v1 0 v2 v1 0 rfl h hT)
  · rw [if_pos c15] at h
    refine qr_iconst (v := 1) dX6_moves_115 (by decide) ?_
    refine qr_goto (tgt := 120) dX6_moves_116 (by decide) ?_
    exact qr_sub [0, 1] rfl (wb_X6_moves_120 (l := l) (E := E) σ12 v1 1 v2 v1 0 rfl h hT)
def fn_X6_moves (σ : qm_M) (v1 : Int32) (v2 : Int32) (v3 : Int32) (v4 : Int32) : Option (Int32 × qm_M) :=
  (fn_X3_isThere σ 0 v1).bind (fun r1 => if (qm_b r1) = 0 then (fn_X6_refuse σ (-2)).bind (fun r2 => some (r2.1, r2.2)) else (fn_X3_isNode σ 0 v2).bind (fun r3 => if (qm_b r3) = 0 then (fn_X6_refuse σ (-2)).bind (fun r4 => some (r4.1, r4.2)) else if v2 = v1 then (fn_X6_refuse σ (-2)).bind (fun r5 => some (r5.1, r5.2)) else (fn_X6_within σ v3 1 16).bind (fun r6 => if (qm_b r6) = 0 then (fn_X6_refuse σ (-2)).bind (fun r7 => some (r7.1, r7.2)) else (fn_X6_within σ v4 0 1).bind (fun r8 => if (qm_b r8) = 0 then (fn_X6_refuse σ (-2)).bind (fun r19 => some (r19.1, r19.2)) else (fn_X6_leaveState σ ).bind (fun r9 => (fn_X3_isBelow r9 0 v2 v1).bind (fun r10 => if (qm_b r10) = 0 then bb_X6_moves_90 r9 v1 v2 v3 v4 else if ¬ (v1 < 0 ∨ 13 ≤ v1.toNatClampNeg) then (fn_X3_hang r9 0 v2 (r9.1 (0 + 1 + 1 + v1.toNatClampNeg) 0)).bind (fun r17 => bb_X6_moves_90 r17 v1 v2 v3 v4) else none))))))
set_option maxRecDepth 20000 in
theorem wf_X6_moves {l : Launch} {E : qm_E} (σ : qm_M) (v1 : Int32) (v2 : Int32) (v3 : Int32) (v4 : Int32) {x : Int32 × qm_M} (h : fn_X6_moves σ v1 v2 v3 v4 = some x) {r : Option Value × qm_M} (hT : (fun x r => (some (.int x.1), x.2) = r) x r) : qm_Wp l E kd_X6_moves "HungStreams" cX6_moves 5 0 [(0, .ref (qm_a E 200)), (1, .int v1), (2, .int v2), (3, .int v3), (4, .int v4)] [] σ r := by
  unfold fn_X6_moves at h
  refine qr_aload_n dX6_moves_0 rfl 0 rfl ?_
  refine qr_get4 (k := 0) (v := .ref (qm_a E 0)) rfl (by decide) rfl qw_216 dX6_moves_1 ?_
  refine qr_iload_n dX6_moves_4 rfl 1 rfl ?_
  obtain ⟨r1, er1, h⟩ := qm_bind h
  refine qr_call1 (st1 := [.int (qm_b r1)]) rfl (qr_callV (id := 0) (c := 1) (As := [.int v1]) (st := []) rfl (by decide) rfl (ct_X3_isThere (l := l) (E := E) σ 0 v1 rfl er1) qw_258 qw_2 qw_267 qw_256 qw_257 yd_X3_isThere (by decide) (by decide) rfl (Nat.le_of_ble_eq_true rfl) dX6_moves_5) ?_
  refine qr_if_eq (tgt := 47) dX6_moves_8 (by decide) (fun c24 => ?_) (fun c24 => ?_)
  · rw [if_pos c24] at h
    refine qr_aload_n dX6_moves_47 rfl 0 rfl ?_
    refine qr_bipush (v := (-2)) dX6_moves_48 (by decide) ?_
    obtain ⟨r2, er2, h⟩ := qm_bind h
    refine qr_call1 (st1 := [.int r2.1]) rfl (qr_callV (id := 200) (c := 4) (As := [.int (-2)]) (st := []) rfl (by decide) rfl (ct_X6_refuse (l := l) (E := E) σ (-2) er2) qw_266 qw_1 qw_263 qw_265 qs_0 yd_X6_refuse (by decide) (by decide) rfl (Nat.le_of_ble_eq_true rfl) dX6_moves_50) ?_
    obtain rfl := Option.some.inj h
    cases hT
    exact qr_iret dX6_moves_53
  · rw [if_neg c24] at h
    refine qr_aload_n dX6_moves_11 rfl 0 rfl ?_
    refine qr_get4 (k := 0) (v := .ref (qm_a E 0)) rfl (by decide) rfl qw_216 dX6_moves_12 ?_
    refine qr_iload_n dX6_moves_15 rfl 2 rfl ?_
    obtain ⟨r3, er3, h⟩ := qm_bind h
    refine qr_call1 (st1 := [.int (qm_b r3)]) rfl (qr_callV (id := 0) (c := 1) (As := [.int v2]) (st := []) rfl (by decide) rfl (ct_X3_isNode (l := l) (E := E) σ 0 v2 rfl er3) qw_254 qw_2 qw_251 qw_252 qw_253 yd_X3_isNode (by decide) (by decide) rfl (Nat.le_of_ble_eq_true rfl) dX6_moves_16) ?_
    refine qr_if_eq (tgt := 47) dX6_moves_19 (by decide) (fun c23 => ?_) (fun c23 => ?_)
    · rw [if_pos c23] at h
      refine qr_aload_n dX6_moves_47 rfl 0 rfl ?_
      refine qr_bipush (v := (-2)) dX6_moves_48 (by decide) ?_
      obtain ⟨r4, er4, h⟩ := qm_bind h
      refine qr_call1 (st1 := [.int r4.1]) rfl (qr_callV (id := 200) (c := 4) (As := [.int (-2)]) (st := []) rfl (by decide) rfl (ct_X6_refuse (l := l) (E := E) σ (-2) er4) qw_266 qw_1 qw_263 qw_265 qs_0 yd_X6_refuse (by decide) (by decide) rfl (Nat.le_of_ble_eq_true rfl) dX6_moves_50) ?_
      obtain rfl := Option.some.inj h
      cases hT
      exact qr_iret dX6_moves_53
    · rw [if_neg c23] at h
      refine qr_iload_n dX6_moves_22 rfl 2 rfl ?_
      refine qr_iload_n dX6_moves_23 rfl 1 rfl ?_
      refine qr_icmp_eq (tgt := 47) dX6_moves_24 (by decide) (fun c22 => ?_) (fun c22 => ?_)
      · rw [if_pos c22] at h
        refine qr_aload_n dX6_moves_47 rfl 0 rfl ?_
        refine qr_bipush (v := (-2)) dX6_moves_48 (by decide) ?_
        obtain ⟨r5, er5, h⟩ := qm_bind h
        refine qr_call1 (st1 := [.int r5.1]) rfl (qr_callV (id := 200) (c := 4) (As := [.int (-2)]) (st := []) rfl (by decide) rfl (ct_X6_refuse (l := l) (E := E) σ (-2) er5) qw_266 qw_1 qw_263 qw_265 qs_0 yd_X6_refuse (by decide) (by decide) rfl (Nat.le_of_ble_eq_true rfl) dX6_moves_50) ?_
        obtain rfl := Option.some.inj h
        cases hT
        exact qr_iret dX6_moves_53
      · rw [if_neg c22] at h
        refine qr_iload_n dX6_moves_27 rfl 3 rfl ?_
        refine qr_iconst (v := 1) dX6_moves_28 (by decide) ?_
        refine qr_bipush (v := 16) dX6_moves_29 (by decide) ?_
        obtain ⟨r6, er6, h⟩ := qm_bind h
        refine qr_call1 (st1 := [.int (qm_b r6)]) rfl (qr_callS (As := [.int v3, .int 1, .int 16]) (st := []) (ct_X6_within (l := l) (E := E) σ v3 1 16 er6) qw_250 qw_1 qw_248 qw_249 yd_X6_within (by decide) (by decide) rfl (Nat.le_of_ble_eq_true rfl) dX6_moves_31) ?_
        refine qr_if_eq (tgt := 47) dX6_moves_34 (by decide) (fun c21 => ?_) (fun c21 => ?_)
        · rw [if_pos c21] at h
          refine qr_aload_n dX6_moves_47 rfl 0 rfl ?_
          refine qr_bipush (v := (-2)) dX6_moves_48 (by decide) ?_
          obtain ⟨r7, er7, h⟩ := qm_bind h
          refine qr_call1 (st1 := [.int r7.1]) rfl (qr_callV (id := 200) (c := 4) (As := [.int (-2)]) (st := []) rfl (by decide) rfl (ct_X6_refuse (l := l) (E := E) σ (-2) er7) qw_266 qw_1 qw_263 qw_265 qs_0 yd_X6_refuse (by decide) (by decide) rfl (Nat.le_of_ble_eq_true rfl) dX6_moves_50) ?_
          obtain rfl := Option.some.inj h
          cases hT
          exact qr_iret dX6_moves_53
        · rw [if_neg c21] at h
          refine qr_iload dX6_moves_37 4 rfl ?_
          refine qr_iconst (v := 0) dX6_moves_39 (by decide) ?_
          refine qr_iconst (v := 1) dX6_moves_40 (by decide) ?_
          obtain ⟨r8, er8, h⟩ := qm_bind h
          refine qr_call1 (st1 := [.int (qm_b r8)]) rfl (qr_callS (As := [.int v4, .int 0, .int 1]) (st := []) (ct_X6_within (l := l) (E := E) σ v4 0 1 er8) qw_250 qw_1 qw_248 qw_249 yd_X6_within (by decide) (by decide) rfl (Nat.le_of_ble_eq_true rfl) dX6_moves_41) ?_
          refine qr_if_ne (tgt := 54) dX6_moves_44 (by decide) (fun c20 => ?_) (fun c20 => ?_)
          · rw [if_neg c20] at h
            refine qr_aload_n dX6_moves_54 rfl 0 rfl ?_
            obtain ⟨r9, er9, h⟩ := qm_bind h
            refine qr_call1 (st1 := []) rfl (qr_callV (id := 200) (c := 4) (As := []) (st := []) rfl (by decide) rfl (ct_X6_leaveState (l := l) (E := E) σ  er9) qw_271 qw_1 qw_268 qw_270 qs_1 yd_X6_leaveState (by decide) (by decide) rfl (Nat.le_of_ble_eq_true rfl) dX6_moves_55) ?_
            refine qr_aload_n dX6_moves_58 rfl 0 rfl ?_
            refine qr_get4 (k := 0) (v := .ref (qm_a E 0)) rfl (by decide) rfl qw_216 dX6_moves_59 ?_
            refine qr_iload_n dX6_moves_62 rfl 2 rfl ?_
            refine qr_iload_n dX6_moves_63 rfl 1 rfl ?_
            obtain ⟨r10, er10, h⟩ := qm_bind h
            refine qr_call1 (st1 := [.int (qm_b r10)]) rfl (qr_callV (id := 0) (c := 1) (As := [.int v2, .int v1]) (st := []) rfl (by decide) rfl (ct_X3_isBelow (l := l) (E := E) r9 0 v2 v1 rfl er10) qw_315 qw_2 qw_312 qw_313 qw_314 yd_X3_isBelow (by decide) (by decide) rfl (Nat.le_of_ble_eq_true rfl) dX6_moves_64) ?_
            refine qr_if_eq (tgt := 90) dX6_moves_67 (by decide) (fun c18 => ?_) (fun c18 => ?_)
            · rw [if_pos c18] at h
              exact qr_sub [0, 1, 2, 3, 4] rfl (wb_X6_moves_90 (l := l) (E := E) r9 v1 v2 v3 v4 h hT)
            · rw [if_neg c18] at h
              refine qr_aload_n dX6_moves_70 rfl 0 rfl ?_
              refine qr_get4 (k := 0) (v := .ref (qm_a E 0)) rfl (by decide) rfl qw_216 dX6_moves_71 ?_
              refine qr_iload_n dX6_moves_74 rfl 2 rfl ?_
              refine qr_aload_n dX6_moves_75 rfl 0 rfl ?_
              refine qr_get4 (k := 0) (v := .ref (qm_a E 0)) rfl (by decide) rfl qw_216 dX6_moves_76 ?_
              refine qr_get1 (k := 0) (v := .ref (qm_a E (0 + 1))) rfl (by decide) rfl qw_110 dX6_moves_79 ?_
              refine qr_iload_n dX6_moves_82 rfl 1 rfl ?_
              obtain ⟨c16, h⟩ := qm_chk h
              refine qr_aalds (qm_k_arr rfl) c16 dX6_moves_83 ?_
              refine qr_get0 (k := 0) (v := .int (r9.1 (0 + 1 + 1 + v1.toNatClampNeg) 0)) (qm_k_str (qm_k_arr rfl) c16) (by decide) rfl qw_34 dX6_moves_84 ?_
              obtain ⟨r17, er17, h⟩ := qm_bind h
              refine qr_call1 (st1 := []) rfl (qr_callV (id := 0) (c := 1) (As := [.int v2, .int (r9.1 (0 + 1 + 1 + v1.toNatClampNeg) 0)]) (st := []) rfl (by decide) rfl (ct_X3_hang (l := l) (E := E) r9 0 v2 (r9.1 (0 + 1 + 1 + v1.toNatClampNeg) 0) rfl er17) qw_303 qw_2 qw_320 qw_301 qw_302 yd_X3_hang (by decide) (by decide) rfl (Nat.le_of_ble_eq_true rfl) dX6_moves_87) ?_
              exact qr_sub [0, 1, 2, 3, 4] rfl (wb_X6_moves_90 (l := l) (E := E) r17 v1 v2 v3 v4 h hT)
          · rw [if_pos c20] at h
            refine qr_aload_n dX6_moves_47 rfl 0 rfl ?_
            refine qr_bipush (v := (-2)) dX6_moves_48 (by decide) ?_
            obtain ⟨r19, er19, h⟩ := qm_bind h
            refine qr_call1 (st1 := [.int r19.1]) rfl (qr_callV (id := 200) (c := 4) (As := [.int (-2)]) (st := []) rfl (by decide) rfl (ct_X6_refuse (l := l) (E := E) σ (-2) er19) qw_266 qw_1 qw_263 qw_265 qs_0 yd_X6_refuse (by decide) (by decide) rfl (Nat.le_of_ble_eq_true rfl) dX6_moves_50) ?_
            obtain rfl := Option.some.inj h
            cases hT
            exact qr_iret dX6_moves_53
theorem ct_X6_moves {l : Launch} {E : qm_E} (σ : qm_M) (v1 : Int32) (v2 : Int32) (v3 : Int32) (v4 : Int32) {x : Int32 × qm_M} (h : fn_X6_moves σ v1 v2 v3 v4 = some x) : qm_Ct l E kd_X6_moves yX6_moves cX6_moves 5 (some .int) [.ref (qm_a E 200), .int v1, .int v2, .int v3, .int v4] σ (some (.int x.1), x.2) := qm_ofWp rfl (Nat.le_of_ble_eq_true rfl) (Or.inl rfl) (wf_X6_moves σ v1 v2 v3 v4  h rfl)
-- HungStreams.sets (III)I
abbrev kd_X6_sets : Nat := 4
theorem yd_X6_sets : (yX6_sets).cls ≠ "java/lang/invoke/MethodHandle" ∧ (yX6_sets).cls ≠ "java/lang/invoke/VarHandle" ∧ (parseMethodDescriptor (yX6_sets).desc).map (fun d => d.parameters.length) = some 3 := by decide +kernel
def fn_X6_sets (σ : qm_M) (v1 : Int32) (v2 : Int32) (v3 : Int32) : Option (Int32 × qm_M) :=
  (fn_X3_isThere σ 0 v1).bind (fun r1 => if (qm_b r1) = 0 then (fn_X6_refuse σ (-2)).bind (fun r2 => some (r2.1, r2.2)) else (fn_X6_within σ v2 0 2).bind (fun r3 => if (qm_b r3) = 0 then (fn_X6_refuse σ (-2)).bind (fun r4 => some (r4.1, r4.2)) else if ¬ (v2 < 0 ∨ 3 ≤ v2.toNatClampNeg) then if ¬ (v2 < 0 ∨ 3 ≤ v2.toNatClampNeg) then (fn_X6_within σ v3 (qm_sv 0 v2.toNatClampNeg) (qm_sv 1 v2.toNatClampNeg)).bind (fun r7 => if (qm_b r7) = 0 then (fn_X6_refuse σ (-2)).bind (fun r11 => some (r11.1, r11.2)) else (fn_X6_leaveState σ ).bind (fun r8 => if ¬ (v1 < 0 ∨ 13 ≤ v1.toNatClampNeg) then (fn_X2_change r8 (0 + 1 + 1 + v1.toNatClampNeg) v2 v3).bind (fun r10 => some (r10.1, r10.2)) else none)) else none else none))
set_option maxRecDepth 20000 in
theorem wf_X6_sets {l : Launch} {E : qm_E} (σ : qm_M) (v1 : Int32) (v2 : Int32) (v3 : Int32) {x : Int32 × qm_M} (h : fn_X6_sets σ v1 v2 v3 = some x) {r : Option Value × qm_M} (hT : (fun x r => (some (.int x.1), x.2) = r) x r) : qm_Wp l E kd_X6_sets "HungStreams" cX6_sets 4 0 [(0, .ref (qm_a E 200)), (1, .int v1), (2, .int v2), (3, .int v3)] [] σ r := by
  unfold fn_X6_sets at h
  refine qr_aload_n dX6_sets_0 rfl 0 rfl ?_
  refine qr_get4 (k := 0) (v := .ref (qm_a E 0)) rfl (by decide) rfl qw_216 dX6_sets_1 ?_
  refine qr_iload_n dX6_sets_4 rfl 1 rfl ?_
  obtain ⟨r1, er1, h⟩ := qm_bind h
  refine qr_call1 (st1 := [.int (qm_b r1)]) rfl (qr_callV (id := 0) (c := 1) (As := [.int v1]) (st := []) rfl (by decide) rfl (ct_X3_isThere (l := l) (E := E) σ 0 v1 rfl er1) qw_258 qw_2 qw_267 qw_256 qw_257 yd_X3_isThere (by decide) (by decide) rfl (Nat.le_of_ble_eq_true rfl) dX6_sets_5) ?_
  refine qr_if_eq (tgt := 37) dX6_sets_8 (by decide) (fun c14 => ?_) (fun c14 => ?_)
  · rw [if_pos c14] at h
    refine qr_aload_n dX6_sets_37 rfl 0 rfl ?_
    refine qr_bipush (v := (-2)) dX6_sets_38 (by decide) ?_
    obtain ⟨r2, er2, h⟩ := qm_bind h
    refine qr_call1 (st1 := [.int r2.1]) rfl (qr_callV (id := 200) (c := 4) (As := [.int (-2)]) (st := []) rfl (by decide) rfl (ct_X6_refuse (l := l) (E := E) σ (-2) er2) qw_266 qw_1 qw_263 qw_265 qs_0 yd_X6_refuse (by decide) (by decide) rfl (Nat.le_of_ble_eq_true rfl) dX6_sets_40) ?_
    obtain rfl := Option.some.inj h
    cases hT
    exact qr_iret dX6_sets_43
  · rw [if_neg c14] at h
    refine qr_iload_n dX6_sets_11 rfl 2 rfl ?_
    refine qr_iconst (v := 0) dX6_sets_12 (by decide) ?_
    refine qr_iconst (v := 2) dX6_sets_13 (by decide) ?_
    obtain ⟨r3, er3, h⟩ := qm_bind h
    refine qr_call1 (st1 := [.int (qm_b r3)]) rfl (qr_callS (As := [.int v2, .int 0, .int 2]) (st := []) (ct_X6_within (l := l) (E := E) σ v2 0 2 er3) qw_250 qw_1 qw_248 qw_249 yd_X6_within (by decide) (by decide) rfl (Nat.le_of_ble_eq_true rfl) dX6_sets_14) ?_
    refine qr_if_eq (tgt := 37) dX6_sets_17 (by decide) (fun c13 => ?_) (fun c13 => ?_)
    · rw [if_pos c13] at h
      refine qr_aload_n dX6_sets_37 rfl 0 rfl ?_
      refine qr_bipush (v := (-2)) dX6_sets_38 (by decide) ?_
      obtain ⟨r4, er4, h⟩ := qm_bind h
      refine qr_call1 (st1 := [.int r4.1]) rfl (qr_callV (id := 200) (c := 4) (As := [.int (-2)]) (st := []) rfl (by decide) rfl (ct_X6_refuse (l := l) (E := E) σ (-2) er4) qw_266 qw_1 qw_263 qw_265 qs_0 yd_X6_refuse (by decide) (by decide) rfl (Nat.le_of_ble_eq_true rfl) dX6_sets_40) ?_
      obtain rfl := Option.some.inj h
      cases hT
      exact qr_iret dX6_sets_43
    · rw [if_neg c13] at h
      refine qr_iload_n dX6_sets_20 rfl 3 rfl ?_
      refine qr_gets (i := 0) (by decide) rfl qw_325 dX6_sets_21 ?_
      refine qr_iload_n dX6_sets_24 rfl 2 rfl ?_
      obtain ⟨c5, h⟩ := qm_chk h
      refine qr_srd (k := 0) (by decide) c5 dX6_sets_25 ?_
      refine qr_gets (i := 1) (by decide) rfl qw_327 dX6_sets_26 ?_
      refine qr_iload_n dX6_sets_29 rfl 2 rfl ?_
      obtain ⟨c6, h⟩ := qm_chk h
      refine qr_srd (k := 1) (by decide) c6 dX6_sets_30 ?_
      obtain ⟨r7, er7, h⟩ := qm_bind h
      refine qr_call1 (st1 := [.int (qm_b r7)]) rfl (qr_callS (As := [.int v3, .int (qm_sv 0 v2.toNatClampNeg), .int (qm_sv 1 v2.toNatClampNeg)]) (st := []) (ct_X6_within (l := l) (E := E) σ v3 (qm_sv 0 v2.toNatClampNeg) (qm_sv 1 v2.toNatClampNeg) er7) qw_250 qw_1 qw_248 qw_249 yd_X6_within (by decide) (by decide) rfl (Nat.le_of_ble_eq_true rfl) dX6_sets_31) ?_
      refine qr_if_ne (tgt := 44) dX6_sets_34 (by decide) (fun c12 => ?_) (fun c12 => ?_)
      · rw [if_neg c12] at h
        refine qr_aload_n dX6_sets_44 rfl 0 rfl ?_
        obtain ⟨r8, er8, h⟩ := qm_bind h
        refine qr_call1 (st1 := []) rfl (qr_callV (id := 200) (c := 4) (As := []) (st := []) rfl (by decide) rfl (ct_X6_leaveState (l := l) (E := E) σ  er8) qw_271 qw_1 qw_268 qw_270 qs_1 yd_X6_leaveState (by decide) (by decide) rfl (Nat.le_of_ble_eq_true rfl) dX6_sets_45) ?_
        refine qr_aload_n dX6_sets_48 rfl 0 rfl ?_
        refine qr_get4 (k := 0) (v := .ref (qm_a E 0)) rfl (by decide) rfl qw_216 dX6_sets_49 ?_
        refine qr_get1 (k := 0) (v := .ref (qm_a E (0 + 1))) rfl (by decide) rfl qw_110 dX6_sets_52 ?_
        refine qr_iload_n dX6_sets_55 rfl 1 rfl ?_
        obtain ⟨c9, h⟩ := qm_chk h
        refine qr_aalds (qm_k_arr rfl) c9 dX6_sets_56 ?_
        refine qr_iload_n dX6_sets_57 rfl 2 rfl ?_
        refine qr_iload_n dX6_sets_58 rfl 3 rfl ?_
        obtain ⟨r10, er10, h⟩ := qm_bind h
        refine qr_call1 (st1 := [.int r10.1]) rfl (qr_callV (id := 0 + 1 + 1 + v1.toNatClampNeg) (c := 0) (As := [.int v2, .int v3]) (st := []) (qm_k_str (qm_k_arr rfl) c9) (by decide) rfl (ct_X2_change (l := l) (E := E) r8 (0 + 1 + 1 + v1.toNatClampNeg) v2 v3 (qm_k_str (qm_k_arr rfl) c9) er10) qw_332 qw_3 qw_329 qw_330 qw_331 yd_X2_change (by decide) (by decide) rfl (Nat.le_of_ble_eq_true rfl) dX6_sets_59) ?_
        obtain rfl := Option.some.inj h
        cases hT
        exact qr_iret dX6_sets_62
      · rw [if_pos c12] at h
        refine qr_aload_n dX6_sets_37 rfl 0 rfl ?_
        refine qr_bipush (v := (-2)) dX6_sets_38 (by decide) ?_
        obtain ⟨r11, er11, h⟩ := qm_bind h
        refine qr_call1 (st1 := [.int r11.1]) rfl (qr_callV (id := 200) (c := 4) (As := [.int (-2)]) (st := []) rfl (by decide) rfl (ct_X6_refuse (l := l) (E := E) σ (-2) er11) qw_266 qw_1 qw_263 qw_265 qs_0 yd_X6_refuse (by decide) (by decide) rfl (Nat.le_of_ble_eq_true rfl) dX6_sets_40) ?_
        obtain rfl := Option.some.inj h
        cases hT
        exact qr_iret dX6_sets_43
theorem ct_X6_sets {l : Launch} {E : qm_E} (σ : qm_M) (v1 : Int32) (v2 : Int32) (v3 : Int32) {x : Int32 × qm_M} (h : fn_X6_sets σ v1 v2 v3 = some x) : qm_Ct l E kd_X6_sets yX6_sets cX6_sets 4 (some .int) [.ref (qm_a E 200), .int v1, .int v2, .int v3] σ (some (.int x.1), x.2) := qm_ofWp rfl (Nat.le_of_ble_eq_true rfl) (Or.inl rfl) (wf_X6_sets σ v1 v2 v3  h rfl)
-- java/lang/Integer.bitCount (I)I
abbrev kd_J_bitCount : Nat := 1
theorem yd_J_bitCount : (yJ_bitCount).cls ≠ "java/lang/invoke/MethodHandle" ∧ (yJ_bitCount).cls ≠ "java/lang/invoke/VarHandle" ∧ (parseMethodDescriptor (yJ_bitCount).desc).map (fun d => d.parameters.length) = some 1 := by decide +kernel
def fn_J_bitCount (σ : qm_M) (v0 : Int32) : Option (Int32) :=
  (some (v0 - ((((v0 : Int32).toUInt32 >>> ((1 : Int32).toUInt32 &&& Int32.toUInt32 31)).toInt32) &&& 1431655765))).bind (fun z1 => (some ((z1 &&& 858993459) + ((((z1 : Int32).toUInt32 >>> ((2 : Int32).toUInt32 &&& Int32.toUInt32 31)).toInt32) &&& 858993459))).bind (fun z2 => (some ((z2 + (((z2 : Int32).toUInt32 >>> ((4 : Int32).toUInt32 &&& Int32.toUInt32 31)).toInt32)) &&& 252645135)).bind (fun z3 => (some (z3 + (((z3 : Int32).toUInt32 >>> ((8 : Int32).toUInt32 &&& Int32.toUInt32 31)).toInt32))).bind (fun z4 => (some (z4 + (((z4 : Int32).toUInt32 >>> ((16 : Int32).toUInt32 &&& Int32.toUInt32 31)).toInt32))).bind (fun z5 => some (z5 &&& 63))))))
set_option maxRecDepth 20000 in
theorem wf_J_bitCount {l : Launch} {E : qm_E} (σ : qm_M) (v0 : Int32) {x : Int32} (h : fn_J_bitCount σ v0 = some x) {r : Option Value × qm_M} (hT : (fun x r => (some (.int x), σ) = r) x r) : qm_Wp l E kd_J_bitCount "java/lang/Integer" prog_10_method_49_code 1 0 [(0, .int v0)] [] σ r := by
  unfold fn_J_bitCount at h
  refine qr_iload_n dJ_bitCount_0 rfl 0 rfl ?_
  refine qr_iload_n dJ_bitCount_1 rfl 0 rfl ?_
  refine qr_iconst (v := 1) dJ_bitCount_2 (by decide) ?_
  refine qr_iushr dJ_bitCount_3 ?_
  refine qr_ldc_w qw_358 dJ_bitCount_4 ?_
  refine qr_iand dJ_bitCount_7 ?_
  refine qr_isub dJ_bitCount_8 ?_
  obtain ⟨z1, ez1, h⟩ := qm_bind h
  refine qr_eqi (Option.some.inj ez1) ?_
  refine qr_istore_n (lv' := [(0, .int z1)]) dJ_bitCount_9 rfl (by decide) rfl ?_
  refine qr_iload_n dJ_bitCount_10 rfl 0 rfl ?_
  refine qr_ldc_w qw_359 dJ_bitCount_11 ?_
  refine qr_iand dJ_bitCount_14 ?_
  refine qr_iload_n dJ_bitCount_15 rfl 0 rfl ?_
  refine qr_iconst (v := 2) dJ_bitCount_16 (by decide) ?_
  refine qr_iushr dJ_bitCount_17 ?_
  refine qr_ldc_w qw_359 dJ_bitCount_18 ?_
  refine qr_iand dJ_bitCount_21 ?_
  refine qr_iadd dJ_bitCount_22 ?_
  obtain ⟨z2, ez2, h⟩ := qm_bind h
  refine qr_eqi (Option.some.inj ez2) ?_
  refine qr_istore_n (lv' := [(0, .int z2)]) dJ_bitCount_23 rfl (by decide) rfl ?_
  refine qr_iload_n dJ_bitCount_24 rfl 0 rfl ?_
  refine qr_iload_n dJ_bitCount_25 rfl 0 rfl ?_
  refine qr_iconst (v := 4) dJ_bitCount_26 (by decide) ?_
  refine qr_iushr dJ_bitCount_27 ?_
  refine qr_iadd dJ_bitCount_28 ?_
  refine qr_ldc_w qw_360 dJ_bitCount_29 ?_
  refine qr_iand dJ_bitCount_32 ?_
  obtain ⟨z3, ez3, h⟩ := qm_bind h
  refine qr_eqi (Option.some.inj ez3) ?_
  refine qr_istore_n (lv' := [(0, .int z3)]) dJ_bitCount_33 rfl (by decide) rfl ?_
  refine qr_iload_n dJ_bitCount_34 rfl 0 rfl ?_
  refine qr_iload_n dJ_bitCount_35 rfl 0 rfl ?_
  refine qr_bipush (v := 8) dJ_bitCount_36 (by decide) ?_
  refine qr_iushr dJ_bitCount_38 ?_
  refine qr_iadd dJ_bitCount_39 ?_
  obtain ⟨z4, ez4, h⟩ := qm_bind h
  refine qr_eqi (Option.some.inj ez4) ?_
  refine qr_istore_n (lv' := [(0, .int z4)]) dJ_bitCount_40 rfl (by decide) rfl ?_
  refine qr_iload_n dJ_bitCount_41 rfl 0 rfl ?_
  refine qr_iload_n dJ_bitCount_42 rfl 0 rfl ?_
  refine qr_bipush (v := 16) dJ_bitCount_43 (by decide) ?_
  refine qr_iushr dJ_bitCount_45 ?_
  refine qr_iadd dJ_bitCount_46 ?_
  obtain ⟨z5, ez5, h⟩ := qm_bind h
  refine qr_eqi (Option.some.inj ez5) ?_
  refine qr_istore_n (lv' := [(0, .int z5)]) dJ_bitCount_47 rfl (by decide) rfl ?_
  refine qr_iload_n dJ_bitCount_48 rfl 0 rfl ?_
  refine qr_bipush (v := 63) dJ_bitCount_49 (by decide) ?_
  refine qr_iand dJ_bitCount_51 ?_
  obtain rfl := Option.some.inj h
  cases hT
  exact qr_iret dJ_bitCount_52
theorem ct_J_bitCount {l : Launch} {E : qm_E} (σ : qm_M) (v0 : Int32) {x : Int32} (h : fn_J_bitCount σ v0 = some x) : qm_Ct l E kd_J_bitCount yJ_bitCount prog_10_method_49_code 1 (some .int) [.int v0] σ (some (.int x), σ) := qm_ofWpF (by decide +kernel) (Nat.le_of_ble_eq_true rfl) (Or.inl rfl) (wf_J_bitCount σ v0  h rfl)
-- HungStreams.closes (I)I
abbrev kd_X6_closes : Nat := 6
theorem yd_X6_closes : (yX6_closes).cls ≠ "java/lang/invoke/MethodHandle" ∧ (yX6_closes).cls ≠ "java/lang/invoke/VarHandle" ∧ (parseMethodDescriptor (yX6_closes).desc).map (fun d => d.parameters.length) = some 1 := by decide +kernel
def fn_X6_closes (σ : qm_M) (v1 : Int32) : Option (Int32 × qm_M) :=
  (fn_X3_isThere σ 0 v1).bind (fun r1 => if (qm_b r1) = 0 then (fn_X6_refuse σ (-2)).bind (fun r12 => some (r12.1, r12.2)) else if ¬ (v1 < 0 ∨ 13 ≤ v1.toNatClampNeg) then if (σ.1 (0 + 1 + 1 + v1.toNatClampNeg) 6) = 0 then (fn_X6_refuse σ (-3)).bind (fun r10 => some (r10.1, r10.2)) else (fn_X6_leaveState σ ).bind (fun r3 => if ¬ (v1 < 0 ∨ 13 ≤ v1.toNatClampNeg) then (some (qm_si r3 (0 + 1 + 1 + v1.toNatClampNeg) 6 0)).bind (fun σ5 => if ¬ (v1 < 0 ∨ 13 ≤ v1.toNatClampNeg) then (some (qm_si σ5 (0 + 1 + 1 + v1.toNatClampNeg) 2 0)).bind (fun σ7 => (fn_X3_letGo σ7 0).bind (fun r8 => (fn_J_bitCount r8 (r8.1 0 1)).bind (fun r9 => some (r9, r8)))) else none) else none) else none)
set_option maxRecDepth 20000 in
theorem wf_X6_closes {l : Launch} {E : qm_E} (σ : qm_M) (v1 : Int32) {x : Int32 × qm_M} (h : fn_X6_closes σ v1 = some x) {r : Option Value × qm_M} (hT : (fun x r => (some (.int x.1), x.2) = r) x r) : qm_Wp l E kd_X6_closes "HungStreams" cX6_closes 2 0 [(0, .ref (qm_a E 200)), (1, .int v1)] [] σ r := by
  unfold fn_X6_closes at h
  refine qr_aload_n dX6_closes_0 rfl 0 rfl ?_
  refine qr_get4 (k := 0) (v := .ref (qm_a E 0)) rfl (by decide) rfl qw_216 dX6_closes_1 ?_
  refine qr_iload_n dX6_closes_4 rfl 1 rfl ?_
  obtain ⟨r1, er1, h⟩ := qm_bind h
  refine qr_call1 (st1 := [.int (qm_b r1)]) rfl (qr_callV (id := 0) (c := 1) (As := [.int v1]) (st := []) rfl (by decide) rfl (ct_X3_isThere (l := l) (E := E) σ 0 v1 rfl er1) qw_258 qw_2 qw_267 qw_256 qw_257 yd_X3_isThere (by decide) (by decide) rfl (Nat.le_of_ble_eq_true rfl) dX6_closes_5) ?_
  refine qr_if_ne (tgt := 18) dX6_closes_8 (by decide) (fun c13 => ?_) (fun c13 => ?_)
  · rw [if_neg c13] at h
    refine qr_aload_n dX6_closes_18 rfl 0 rfl ?_
    refine qr_get4 (k := 0) (v := .ref (qm_a E 0)) rfl (by decide) rfl qw_216 dX6_closes_19 ?_
    refine qr_get1 (k := 0) (v := .ref (qm_a E (0 + 1))) rfl (by decide) rfl qw_110 dX6_closes_22 ?_
    refine qr_iload_n dX6_closes_25 rfl 1 rfl ?_
    obtain ⟨c2, h⟩ := qm_chk h
    refine qr_aalds (qm_k_arr rfl) c2 dX6_closes_26 ?_
    refine qr_get0 (k := 6) (v := .int (σ.1 (0 + 1 + 1 + v1.toNatClampNeg) 6)) (qm_k_str (qm_k_arr rfl) c2) (by decide) rfl qw_54 dX6_closes_27 ?_
    refine qr_if_ne (tgt := 40) dX6_closes_30 (by decide) (fun c11 => ?_) (fun c11 => ?_)
    · rw [if_neg c11] at h
      refine qr_aload_n dX6_closes_40 rfl 0 rfl ?_
      obtain ⟨r3, er3, h⟩ := qm_bind h
      refine qr_call1 (st1 := []) rfl (qr_callV (id := 200) (c := 4) (As := []) (st := []) rfl (by decide) rfl (ct_X6_leaveState (l := l) (E := E) σ  er3) qw_271 qw_1 qw_268 qw_270 qs_1 yd_X6_leaveState (by decide) (by decide) rfl (Nat.le_of_ble_eq_true rfl) dX6_closes_41) ?_
      refine qr_aload_n dX6_closes_44 rfl 0 rfl ?_
      refine qr_get4 (k := 0) (v := .ref (qm_a E 0)) rfl (by decide) rfl qw_216 dX6_closes_45 ?_
      refine qr_get1 (k := 0) (v := .ref (qm_a E (0 + 1))) rfl (by decide) rfl qw_110 dX6_closes_48 ?_
      refine qr_iload_n dX6_closes_51 rfl 1 rfl ?_
      obtain ⟨c4, h⟩ := qm_chk h
      refine qr_aalds (qm_k_arr rfl) c4 dX6_closes_52 ?_
      refine qr_iconst (v := 0) dX6_closes_53 (by decide) ?_
      obtain ⟨σ5, eσ5, h⟩ := qm_bind h
      refine qr_put0_6 (qm_k_str (qm_k_arr rfl) c4) (Or.inl rfl) qw_54 dX6_closes_54 (qr_eqm (Option.some.inj eσ5) ?_)
      refine qr_aload_n dX6_closes_57 rfl 0 rfl ?_
      refine qr_get4 (k := 0) (v := .ref (qm_a E 0)) rfl (by decide) rfl qw_216 dX6_closes_58 ?_
      refine qr_get1 (k := 0) (v := .ref (qm_a E (0 + 1))) rfl (by decide) rfl qw_110 dX6_closes_61 ?_
      refine qr_iload_n dX6_closes_64 rfl 1 rfl ?_
      obtain ⟨c6, h⟩ := qm_chk h
      refine qr_aalds (qm_k_arr rfl) c6 dX6_closes_65 ?_
      refine qr_iconst (v := 0) dX6_closes_66 (by decide) ?_
      obtain ⟨σ7, eσ7, h⟩ := qm_bind h
      refine qr_put0_2 (qm_k_str (qm_k_arr rfl) c6) qw_44 dX6_closes_67 (qr_eqm (Option.some.inj eσ7) ?_)
      refine qr_aload_n dX6_closes_70 rfl 0 rfl ?_
      refine qr_get4 (k := 0) (v := .ref (qm_a E 0)) rfl (by decide) rfl qw_216 dX6_closes_71 ?_
      obtain ⟨r8, er8, h⟩ := qm_bind h
      refine qr_call1 (st1 := []) rfl (qr_callV (id := 0) (c := 1) (As := []) (st := []) rfl (by decide) rfl (ct_X3_letGo (l := l) (E := E) σ7 0 rfl er8) qw_340 qw_2 qw_337 qw_338 qw_339 yd_X3_letGo (by decide) (by decide) rfl (Nat.le_of_ble_eq_true rfl) dX6_closes_74) ?_
      refine qr_aload_n dX6_closes_77 rfl 0 rfl ?_
      refine qr_get4 (k := 0) (v := .ref (qm_a E 0)) rfl (by decide) rfl qw_216 dX6_closes_78 ?_
      refine qr_get1 (k := 1) (v := .int (r8.1 0 1)) rfl (by decide) rfl qw_112 dX6_closes_81 ?_
      obtain ⟨r9, er9, h⟩ := qm_bind h
      refine qr_call1 (st1 := [.int r9]) rfl (qr_callS (As := [.int (r8.1 0 1)]) (st := []) (ct_J_bitCount (l := l) (E := E) r8 (r8.1 0 1) er9) qw_357 qw_8 qw_355 qw_356 yd_J_bitCount (by decide) (by decide) rfl (Nat.le_of_ble_eq_true rfl) dX6_closes_84) ?_
      obtain rfl := Option.some.inj h
      cases hT
      exact qr_iret dX6_closes_87
    · rw [if_pos c11] at h
      refine qr_aload_n dX6_closes_33 rfl 0 rfl ?_
      refine qr_bipush (v := (-3)) dX6_closes_34 (by decide) ?_
      obtain ⟨r10, er10, h⟩ := qm_bind h
      refine qr_call1 (st1 := [.int r10.1]) rfl (qr_callV (id := 200) (c := 4) (As := [.int (-3)]) (st := []) rfl (by decide) rfl (ct_X6_refuse (l := l) (E := E) σ (-3) er10) qw_266 qw_1 qw_263 qw_265 qs_0 yd_X6_refuse (by decide) (by decide) rfl (Nat.le_of_ble_eq_true rfl) dX6_closes_36) ?_
      obtain rfl := Option.some.inj h
      cases hT
      exact qr_iret dX6_closes_39
  · rw [if_pos c13] at h
    refine qr_aload_n dX6_closes_11 rfl 0 rfl ?_
    refine qr_bipush (v := (-2)) dX6_closes_12 (by decide) ?_
    obtain ⟨r12, er12, h⟩ := qm_bind h
    refine qr_call1 (st1 := [.int r12.1]) rfl (qr_callV (id := 200) (c := 4) (As := [.int (-2)]) (st := []) rfl (by decide) rfl (ct_X6_refuse (l := l) (E := E) σ (-2) er12) qw_266 qw_1 qw_263 qw_265 qs_0 yd_X6_refuse (by decide) (by decide) rfl (Nat.le_of_ble_eq_true rfl) dX6_closes_14) ?_
    obtain rfl := Option.some.inj h
    cases hT
    exact qr_iret dX6_closes_17
theorem ct_X6_closes {l : Launch} {E : qm_E} (σ : qm_M) (v1 : Int32) {x : Int32 × qm_M} (h : fn_X6_closes σ v1 = some x) : qm_Ct l E kd_X6_closes yX6_closes cX6_closes 2 (some .int) [.ref (qm_a E 200), .int v1] σ (some (.int x.1), x.2) := qm_ofWp rfl (Nat.le_of_ble_eq_true rfl) (Or.inl rfl) (wf_X6_closes σ v1  h rfl)
-- HungStreams.of (II)I
abbrev kd_X6_of : Nat := 4
theorem yd_X6_of : (yX6_of).cls ≠ "java/lang/invoke/MethodHandle" ∧ (yX6_of).cls ≠ "java/lang/invoke/VarHandle" ∧ (parseMethodDescriptor (yX6_of).desc).map (fun d => d.parameters.length) = some 2 := by decide +kernel
def fn_X6_of (σ : qm_M) (v1 : Int32) (v2 : Int32) : Option (Int32 × qm_M) :=
  (fn_X3_isThere σ 0 v1).bind (fun r1 => if (qm_b r1) = 0 then (fn_X6_refuse σ (-2)).bind (fun r2 => some (r2.1, r2.2)) else (fn_X6_within σ v2 0 15).bind (fun r3 => if (qm_b r3) = 0 then (fn_X6_refuse σ (-2)).bind (fun r19 => some (r19.1, r19.2)) else if v2 = 12 then (fn_X3_childCount σ 0 v1).bind (fun r4 => some (r4, σ)) else if v2 = 13 then (fn_X3_belowCount σ 0 v1).bind (fun r6 => some (r6, σ)) else if v2 = 14 then if ¬ (v1 < 0 ∨ 13 ≤ v1.toNatClampNeg) then (fn_X2_can σ (0 + 1 + 1 + v1.toNatClampNeg)).bind (fun r9 => if (qm_b r9) = 0 then some (0, σ) else some (1, σ)) else none else if v2 = 15 then (fn_X3_canBits σ 0).bind (fun r12 => (fn_X3_liveBits σ 0 r12).bind (fun r13 => (fn_X6_has σ r13 v1).bind (fun r14 => if (qm_b r14) = 0 then some (0, σ) else some (1, σ)))) else if ¬ (v1 < 0 ∨ 13 ≤ v1.toNatClampNeg) then (fn_X2_held σ (0 + 1 + 1 + v1.toNatClampNeg) v2).bind (fun r18 => some (r18, σ)) else none))
set_option maxRecDepth 20000 in
theorem wf_X6_of {l : Launch} {E : qm_E} (σ : qm_M) (v1 : Int32) (v2 : Int32) {x : Int32 × qm_M} (h : fn_X6_of σ v1 v2 = some x) {r : Option Value × qm_M} (hT : (fun x r => (some (.int x.1), x.2) = r) x r) : qm_Wp l E kd_X6_of "HungStreams" cX6_of 3 0 [(0, .ref (qm_a E 200)), (1, .int v1), (2, .int v2)] [] σ r := by
  unfold fn_X6_of at h
  refine qr_aload_n dX6_of_0 rfl 0 rfl ?_
  refine qr_get4 (k := 0) (v := .ref (qm_a E 0)) rfl (by decide) rfl qw_216 dX6_of_1 ?_
  refine qr_iload_n dX6_of_4 rfl 1 rfl ?_
  obtain ⟨r1, er1, h⟩ := qm_bind h
  refine qr_call1 (st1 := [.int (qm_b r1)]) rfl (qr_callV (id := 0) (c := 1) (As := [.int v1]) (st := []) rfl (by decide) rfl (ct_X3_isThere (l := l) (E := E) σ 0 v1 rfl er1) qw_258 qw_2 qw_267 qw_256 qw_257 yd_X3_isThere (by decide) (by decide) rfl (Nat.le_of_ble_eq_true rfl) dX6_of_5) ?_
  refine qr_if_eq (tgt := 21) dX6_of_8 (by decide) (fun c21 => ?_) (fun c21 => ?_)
  · rw [if_pos c21] at h
    refine qr_aload_n dX6_of_21 rfl 0 rfl ?_
    refine qr_bipush (v := (-2)) dX6_of_22 (by decide) ?_
    obtain ⟨r2, er2, h⟩ := qm_bind h
    refine qr_call1 (st1 := [.int r2.1]) rfl (qr_callV (id := 200) (c := 4) (As := [.int (-2)]) (st := []) rfl (by decide) rfl (ct_X6_refuse (l := l) (E := E) σ (-2) er2) qw_266 qw_1 qw_263 qw_265 qs_0 yd_X6_refuse (by decide) (by decide) rfl (Nat.le_of_ble_eq_true rfl) dX6_of_24) ?_
    obtain rfl := Option.some.inj h
    cases hT
    exact qr_iret dX6_of_27
  · rw [if_neg c21] at h
    refine qr_iload_n dX6_of_11 rfl 2 rfl ?_
    refine qr_iconst (v := 0) dX6_of_12 (by decide) ?_
    refine qr_bipush (v := 15) dX6_of_13 (by decide) ?_
    obtain ⟨r3, er3, h⟩ := qm_bind h
    refine qr_call1 (st1 := [.int (qm_b r3)]) rfl (qr_callS (As := [.int v2, .int 0, .int 15]) (st := []) (ct_X6_within (l := l) (E := E) σ v2 0 15 er3) qw_250 qw_1 qw_248 qw_249 yd_X6_within (by decide) (by decide) rfl (Nat.le_of_ble_eq_true rfl) dX6_of_15) ?_
    refine qr_if_ne (tgt := 28) dX6_of_18 (by decide) (fun c20 => ?_) (fun c20 => ?_)
    · rw [if_neg c20] at h
      refine qr_iload_n dX6_of_28 rfl 2 rfl ?_
      by_cases c5 : v2 = 12
      · rw [if_pos c5] at h
        have tc5 : (v2).toInt = 12 := by rw [c5]; rfl
        refine qr_tableIn (tgt := 60) dX6_of_29 (by omega) (by omega) (by rw [tc5]; rfl) (by decide) ?_
        refine qr_aload_n dX6_of_60 rfl 0 rfl ?_
        refine qr_get4 (k := 0) (v := .ref (qm_a E 0)) rfl (by decide) rfl qw_216 dX6_of_61 ?_
        refine qr_iload_n dX6_of_64 rfl 1 rfl ?_
        obtain ⟨r4, er4, h⟩ := qm_bind h
        refine qr_call1 (st1 := [.int r4]) rfl (qr_callV (id := 0) (c := 1) (As := [.int v1]) (st := []) rfl (by decide) rfl (ct_X3_childCount (l := l) (E := E) σ 0 v1 rfl er4) qw_307 qw_2 qw_304 qw_305 qw_306 yd_X3_childCount (by decide) (by decide) rfl (Nat.le_of_ble_eq_true rfl) dX6_of_65) ?_
        obtain rfl := Option.some.inj h
        cases hT
        exact qr_iret dX6_of_68
      rw [if_neg c5] at h
      by_cases c7 : v2 = 13
      · rw [if_pos c7] at h
        have tc7 : (v2).toInt = 13 := by rw [c7]; rfl
        refine qr_tableIn (tgt := 69) dX6_of_29 (by omega) (by omega) (by rw [tc7]; rfl) (by decide) ?_
        refine qr_aload_n dX6_of_69 rfl 0 rfl ?_
        refine qr_get4 (k := 0) (v := .ref (qm_a E 0)) rfl (by decide) rfl qw_216 dX6_of_70 ?_
        refine qr_iload_n dX6_of_73 rfl 1 rfl ?_
        obtain ⟨r6, er6, h⟩ := qm_bind h
        refine qr_call1 (st1 := [.int r6]) rfl (qr_callV (id := 0) (c := 1) (As := [.int v1]) (st := []) rfl (by decide) rfl (ct_X3_belowCount (l := l) (E := E) σ 0 v1 rfl er6) qw_368 qw_2 qw_365 qw_366 qw_367 yd_X3_belowCount (by decide) (by decide) rfl (Nat.le_of_ble_eq_true rfl) dX6_of_74) ?_
        obtain rfl := Option.some.inj h
        cases hT
        exact qr_iret dX6_of_77
      rw [if_neg c7] at h
      by_cases c11 : v2 = 14
      · rw [if_pos c11] at h
        have tc11 : (v2).toInt = 14 := by rw [c11]; rfl
        refine qr_tableIn (tgt := 78) dX6_of_29 (by omega) (by omega) (by rw [tc11]; rfl) (by decide) ?_
        refine qr_aload_n dX6_of_78 rfl 0 rfl ?_
        refine qr_get4 (k := 0) (v := .ref (qm_a E 0)) rfl (by decide) rfl qw_216 dX6_of_79 ?_
        refine qr_get1 (k := 0) (v := .ref (qm_a E (0 + 1))) rfl (by decide) rfl qw_110 dX6_of_82 ?_
        refine qr_iload_n dX6_of_85 rfl 1 rfl ?_
        obtain ⟨c8, h⟩ := qm_chk h
        refine qr_aalds (qm_k_arr rfl) c8 dX6_of_86 ?_
        obtain ⟨r9, er9, h⟩ := qm_bind h
        refine qr_call1 (st1 := [.int (qm_b r9)]) rfl (qr_callV (id := 0 + 1 + 1 + v1.toNatClampNeg) (c := 0) (As := []) (st := []) (qm_k_str (qm_k_arr rfl) c8) (by decide) rfl (ct_X2_can (l := l) (E := E) σ (0 + 1 + 1 + v1.toNatClampNeg) (qm_k_str (qm_k_arr rfl) c8) er9) qw_373 qw_3 qw_370 qw_371 qw_372 yd_X2_can (by decide) (by decide) rfl (Nat.le_of_ble_eq_true rfl) dX6_of_87) ?_
        refine qr_if_eq (tgt := 97) dX6_of_90 (by decide) (fun c10 => ?_) (fun c10 => ?_)
        · rw [if_pos c10] at h
          refine qr_iconst (v := 0) dX6_of_97 (by decide) ?_
          obtain rfl := Option.some.inj h
          cases hT
          exact qr_iret dX6_of_98
        · rw [if_neg c10] at h
          refine qr_iconst (v := 1) dX6_of_93 (by decide) ?_
          refine qr_goto (tgt := 98) dX6_of_94 (by decide) ?_
          obtain rfl := Option.some.inj h
          cases hT
          exact qr_iret dX6_of_98
      rw [if_neg c11] at h
      by_cases c16 : v2 = 15
      · rw [if_pos c16] at h
        have tc16 : (v2).toInt = 15 := by rw [c16]; rfl
        refine qr_tableIn (tgt := 99) dX6_of_29 (by omega) (by omega) (by rw [tc16]; rfl) (by decide) ?_
        refine qr_aload_n dX6_of_99 rfl 0 rfl ?_
        refine qr_get4 (k := 0) (v := .ref (qm_a E 0)) rfl (by decide) rfl qw_216 dX6_of_100 ?_
        refine qr_aload_n dX6_of_103 rfl 0 rfl ?_
        refine qr_get4 (k := 0) (v := .ref (qm_a E 0)) rfl (by decide) rfl qw_216 dX6_of_104 ?_
        obtain ⟨r12, er12, h⟩ := qm_bind h
        refine qr_call1 (st1 := [.int r12, .ref (qm_a E 0)]) rfl (qr_callV (id := 0) (c := 1) (As := []) (st := [.ref (qm_a E 0)]) rfl (by decide) rfl (ct_X3_canBits (l := l) (E := E) σ 0 rfl er12) qw_377 qw_2 qw_374 qw_375 qw_376 yd_X3_canBits (by decide) (by decide) rfl (Nat.le_of_ble_eq_true rfl) dX6_of_107) ?_
        obtain ⟨r13, er13, h⟩ := qm_bind h
        refine qr_call1 (st1 := [.int r13]) rfl (qr_callV (id := 0) (c := 1) (As := [.int r12]) (st := []) rfl (by decide) rfl (ct_X3_liveBits (l := l) (E := E) σ 0 r12 rfl er13) qw_382 qw_2 qw_379 qw_380 qw_381 yd_X3_liveBits (by decide) (by decide) rfl (Nat.le_of_ble_eq_true rfl) dX6_of_110) ?_
        refine qr_iload_n dX6_of_113 rfl 1 rfl ?_
        obtain ⟨r14, er14, h⟩ := qm_bind h
        refine qr_call1 (st1 := [.int (qm_b r14)]) rfl (qr_callS (As := [.int r13, .int v1]) (st := []) (ct_X6_has (l := l) (E := E) σ r13 v1 er14) qw_262 qw_1 qw_383 qw_261 yd_X6_has (by decide) (by decide) rfl (Nat.le_of_ble_eq_true rfl) dX6_of_114) ?_
        refine qr_if_eq (tgt := 124) dX6_of_117 (by decide) (fun c15 => ?_) (fun c15 => ?_)
        · rw [if_pos c15] at h
          refine qr_iconst (v := 0) dX6_of_124 (by decide) ?_
          obtain rfl := Option.some.inj h
          cases hT
          exact qr_iret dX6_of_125
        · rw [if_neg c15] at h
          refine qr_iconst (v := 1) dX6_of_120 (by decide) ?_
          refine qr_goto (tgt := 125) dX6_of_121 (by decide) ?_
          obtain rfl := Option.some.inj h
          cases hT
          exact qr_iret dX6_of_125
      rw [if_neg c16] at h
      have nc5 := lv_neT c5 (show (12 : Int32).toInt = 12 from rfl)
      have nc7 := lv_neT c7 (show (13 : Int32).toInt = 13 from rfl)
      have nc11 := lv_neT c11 (show (14 : Int32).toInt = 14 from rfl)
      have nc16 := lv_neT c16 (show (15 : Int32).toInt = 15 from rfl)
      refine qr_tableOut (tgt := 126) dX6_of_29 (by omega) (by decide) ?_
      refine qr_aload_n dX6_of_126 rfl 0 rfl ?_
      refine qr_get4 (k := 0) (v := .ref (qm_a E 0)) rfl (by decide) rfl qw_216 dX6_of_127 ?_
      refine qr_get1 (k := 0) (v := .ref (qm_a E (0 + 1))) rfl (by decide) rfl qw_110 dX6_of_130 ?_
      refine qr_iload_n dX6_of_133 rfl 1 rfl ?_
      obtain ⟨c17, h⟩ := qm_chk h
      refine qr_aalds (qm_k_arr rfl) c17 dX6_of_134 ?_
      refine qr_iload_n dX6_of_135 rfl 2 rfl ?_
      obtain ⟨r18, er18, h⟩ := qm_bind h
      refine qr_call1 (st1 := [.int r18]) rfl (qr_callV (id := 0 + 1 + 1 + v1.toNatClampNeg) (c := 0) (As := [.int v2]) (st := []) (qm_k_str (qm_k_arr rfl) c17) (by decide) rfl (ct_X2_held (l := l) (E := E) σ (0 + 1 + 1 + v1.toNatClampNeg) v2 (qm_k_str (qm_k_arr rfl) c17) er18) qw_387 qw_3 qw_384 qw_385 qw_386 yd_X2_held (by decide) (by decide) rfl (Nat.le_of_ble_eq_true rfl) dX6_of_136) ?_
      obtain rfl := Option.some.inj h
      cases hT
      exact qr_iret dX6_of_139
    · rw [if_pos c20] at h
      refine qr_aload_n dX6_of_21 rfl 0 rfl ?_
      refine qr_bipush (v := (-2)) dX6_of_22 (by decide) ?_
      obtain ⟨r19, er19, h⟩ := qm_bind h
      refine qr_call1 (st1 := [.int r19.1]) rfl (qr_callV (id := 200) (c := 4) (As := [.int (-2)]) (st := []) rfl (by decide) rfl (ct_X6_refuse (l := l) (E := E) σ (-2) er19) qw_266 qw_1 qw_263 qw_265 qs_0 yd_X6_refuse (by decide) (by decide) rfl (Nat.le_of_ble_eq_true rfl) dX6_of_24) ?_
      obtain rfl := Option.some.inj h
      cases hT
      exact qr_iret dX6_of_27
theorem ct_X6_of {l : Launch} {E : qm_E} (σ : qm_M) (v1 : Int32) (v2 : Int32) {x : Int32 × qm_M} (h : fn_X6_of σ v1 v2 = some x) : qm_Ct l E kd_X6_of yX6_of cX6_of 3 (some .int) [.ref (qm_a E 200), .int v1, .int v2] σ (some (.int x.1), x.2) := qm_ofWp rfl (Nat.le_of_ble_eq_true rfl) (Or.inl rfl) (wf_X6_of σ v1 v2  h rfl)
-- HungStreams.turn (II)J
abbrev kd_X6_turn : Nat := 4
theorem yd_X6_turn : (yX6_turn).cls ≠ "java/lang/invoke/MethodHandle" ∧ (yX6_turn).cls ≠ "java/lang/invoke/VarHandle" ∧ (parseMethodDescriptor (yX6_turn).desc).map (fun d => d.parameters.length) = some 2 := by decide +kernel
def bb_X6_turn_28 (σ : qm_M) (v1 : Int32) (v2 : Int32) : Option (Int64 × qm_M) :=
  if v2 = 1 then (fn_X3_isNode σ 0 v1).bind (fun r2 => if (qm_b r2) = 0 then (fn_X6_refuse σ (-2)).bind (fun r3 => some (r3.1.toInt64, r3.2)) else if ¬ (v1 < 0 ∨ 13 ≤ v1.toNatClampNeg) then some (σ.2 (0 + 1 + 1 + v1.toNatClampNeg) 13, σ) else none) else (fn_X6_refuse σ (-2)).bind (fun r1 => some (r1.1.toInt64, r1.2))
set_option maxRecDepth 20000 in
theorem wb_X6_turn_28 {l : Launch} {E : qm_E} (σ : qm_M) (v1 : Int32) (v2 : Int32) {x : Int64 × qm_M} (h : bb_X6_turn_28 σ v1 v2 = some x) {r : Option Value × qm_M} (hT : (fun x r => (some (.long x.1), x.2) = r) x r) : qm_Wp l E kd_X6_turn "HungStreams" cX6_turn 3 28 [(0, .ref (qm_a E 200)), (1, .int v1), (2, .int v2)] [] σ r := by
  unfold bb_X6_turn_28 at h
  refine qr_iload_n dX6_turn_28 rfl 2 rfl ?_
  refine qr_iconst (v := 1) dX6_turn_29 (by decide) ?_
  refine qr_icmp_ne (tgt := 57) dX6_turn_30 (by decide) (fun c6 => ?_) (fun c6 => ?_)
  · rw [if_neg c6] at h
    refine qr_aload_n dX6_turn_57 rfl 0 rfl ?_
    refine qr_bipush (v := (-2)) dX6_turn_58 (by decide) ?_
    obtain ⟨r1, er1, h⟩ := qm_bind h
    refine qr_call1 (st1 := [.int r1.1]) rfl (qr_callV (id := 200) (c := 4) (As := [.int (-2)]) (st := []) rfl (by decide) rfl (ct_X6_refuse (l := l) (E := E) σ (-2) er1) qw_266 qw_1 qw_263 qw_265 qs_0 yd_X6_refuse (by decide) (by decide) rfl (Nat.le_of_ble_eq_true rfl) dX6_turn_60) ?_
    refine qr_i2l dX6_turn_63 ?_
    obtain rfl := Option.some.inj h
    cases hT
    exact qr_lret dX6_turn_64
  · rw [if_pos c6] at h
    refine qr_aload_n dX6_turn_33 rfl 0 rfl ?_
    refine qr_get4 (k := 0) (v := .ref (qm_a E 0)) rfl (by decide) rfl qw_216 dX6_turn_34 ?_
    refine qr_iload_n dX6_turn_37 rfl 1 rfl ?_
    obtain ⟨r2, er2, h⟩ := qm_bind h
    refine qr_call1 (st1 := [.int (qm_b r2)]) rfl (qr_callV (id := 0) (c := 1) (As := [.int v1]) (st := []) rfl (by decide) rfl (ct_X3_isNode (l := l) (E := E) σ 0 v1 rfl er2) qw_254 qw_2 qw_251 qw_252 qw_253 yd_X3_isNode (by decide) (by decide) rfl (Nat.le_of_ble_eq_true rfl) dX6_turn_38) ?_
    refine qr_if_eq (tgt := 57) dX6_turn_41 (by decide) (fun c5 => ?_) (fun c5 => ?_)
    · rw [if_pos c5] at h
      refine qr_aload_n dX6_turn_57 rfl 0 rfl ?_
      refine qr_bipush (v := (-2)) dX6_turn_58 (by decide) ?_
      obtain ⟨r3, er3, h⟩ := qm_bind h
      refine qr_call1 (st1 := [.int r3.1]) rfl (qr_callV (id := 200) (c := 4) (As := [.int (-2)]) (st := []) rfl (by decide) rfl (ct_X6_refuse (l := l) (E := E) σ (-2) er3) qw_266 qw_1 qw_263 qw_265 qs_0 yd_X6_refuse (by decide) (by decide) rfl (Nat.le_of_ble_eq_true rfl) dX6_turn_60) ?_
      refine qr_i2l dX6_turn_63 ?_
      obtain rfl := Option.some.inj h
      cases hT
      exact qr_lret dX6_turn_64
    · rw [if_neg c5] at h
      refine qr_aload_n dX6_turn_44 rfl 0 rfl ?_
      refine qr_get4 (k := 0) (v := .ref (qm_a E 0)) rfl (by decide) rfl qw_216 dX6_turn_45 ?_
      refine qr_get1 (k := 0) (v := .ref (qm_a E (0 + 1))) rfl (by decide) rfl qw_110 dX6_turn_48 ?_
      refine qr_iload_n dX6_turn_51 rfl 1 rfl ?_
      obtain ⟨c4, h⟩ := qm_chk h
      refine qr_aalds (qm_k_arr rfl) c4 dX6_turn_52 ?_
      refine qr_get0 (k := 13) (v := .long (σ.2 (0 + 1 + 1 + v1.toNatClampNeg) 13)) (qm_k_str (qm_k_arr rfl) c4) (by decide) rfl qw_75 dX6_turn_53 ?_
      obtain rfl := Option.some.inj h
      cases hT
      exact qr_lret dX6_turn_56
def fn_X6_turn (σ : qm_M) (v1 : Int32) (v2 : Int32) : Option (Int64 × qm_M) :=
  if v2 = 0 then (fn_X3_isThere σ 0 v1).bind (fun r7 => if (qm_b r7) = 0 then bb_X6_turn_28 σ v1 v2 else if ¬ (v1 < 0 ∨ 13 ≤ v1.toNatClampNeg) then some (σ.2 (0 + 1 + 1 + v1.toNatClampNeg) 12, σ) else none) else bb_X6_turn_28 σ v1 v2
set_option maxRecDepth 20000 in
theorem wf_X6_turn {l : Launch} {E : qm_E} (σ : qm_M) (v1 : Int32) (v2 : Int32) {x : Int64 × qm_M} (h : fn_X6_turn σ v1 v2 = some x) {r : Option Value × qm_M} (hT : (fun x r => (some (.long x.1), x.2) = r) x r) : qm_Wp l E kd_X6_turn "HungStreams" cX6_turn 3 0 [(0, .ref (qm_a E 200)), (1, .int v1), (2, .int v2)] [] σ r := by
  unfold fn_X6_turn at h
  refine qr_iload_n dX6_turn_0 rfl 2 rfl ?_
  refine qr_if_ne (tgt := 28) dX6_turn_1 (by decide) (fun c10 => ?_) (fun c10 => ?_)
  · rw [if_neg c10] at h
    exact qr_sub [0, 1, 2] rfl (wb_X6_turn_28 (l := l) (E := E) σ v1 v2 h hT)
  · rw [if_pos c10] at h
    refine qr_aload_n dX6_turn_4 rfl 0 rfl ?_
    refine qr_get4 (k := 0) (v := .ref (qm_a E 0)) rfl (by decide) rfl qw_216 dX6_turn_5 ?_
    refine qr_iload_n dX6_turn_8 rfl 1 rfl ?_
    obtain ⟨r7, er7, h⟩ := qm_bind h
    refine qr_call1 (st1 := [.int (qm_b r7)]) rfl (qr_callV (id := 0) (c := 1) (As := [.int v1]) (st := []) rfl (by decide) rfl (ct_X3_isThere (l := l) (E := E) σ 0 v1 rfl er7) qw_258 qw_2 qw_267 qw_256 qw_257 yd_X3_isThere (by decide) (by decide) rfl (Nat.le_of_ble_eq_true rfl) dX6_turn_9) ?_
    refine qr_if_eq (tgt := 28) dX6_turn_12 (by decide) (fun c9 => ?_) (fun c9 => ?_)
    · rw [if_pos c9] at h
      exact qr_sub [0, 1, 2] rfl (wb_X6_turn_28 (l := l) (E := E) σ v1 v2 h hT)
    · rw [if_neg c9] at h
      refine qr_aload_n dX6_turn_15 rfl 0 rfl ?_
      refine qr_get4 (k := 0) (v := .ref (qm_a E 0)) rfl (by decide) rfl qw_216 dX6_turn_16 ?_
      refine qr_get1 (k := 0) (v := .ref (qm_a E (0 + 1))) rfl (by decide) rfl qw_110 dX6_turn_19 ?_
      refine qr_iload_n dX6_turn_22 rfl 1 rfl ?_
      obtain ⟨c8, h⟩ := qm_chk h
      refine qr_aalds (qm_k_arr rfl) c8 dX6_turn_23 ?_
      refine qr_get0 (k := 12) (v := .long (σ.2 (0 + 1 + 1 + v1.toNatClampNeg) 12)) (qm_k_str (qm_k_arr rfl) c8) (by decide) rfl qw_71 dX6_turn_24 ?_
      obtain rfl := Option.some.inj h
      cases hT
      exact qr_lret dX6_turn_27
theorem ct_X6_turn {l : Launch} {E : qm_E} (σ : qm_M) (v1 : Int32) (v2 : Int32) {x : Int64 × qm_M} (h : fn_X6_turn σ v1 v2 = some x) : qm_Ct l E kd_X6_turn yX6_turn cX6_turn 3 (some .long) [.ref (qm_a E 200), .int v1, .int v2] σ (some (.long x.1), x.2) := qm_ofWp rfl (Nat.le_of_ble_eq_true rfl) (rfl) (wf_X6_turn σ v1 v2  h rfl)
