-- HungStreamsModel.first (II)I
abbrev kd_X7_first : Nat := 4
theorem yd_X7_first : (yX7_first).cls ≠ "java/lang/invoke/MethodHandle" ∧ (yX7_first).cls ≠ "java/lang/invoke/VarHandle" ∧ (parseMethodDescriptor (yX7_first).desc).map (fun d => d.parameters.length) = some 2 := by decide +kernel
abbrev pp_X7_first_5 (l : Launch) (E : qm_E) (σ : qm_M) (v1 : Int32) (v2 : Int32) : (Int32 × Int32) → Option Value × qm_M → Prop := fun s r => qm_Wp l E kd_X7_first "HungStreamsModel" cX7_first 5 5 [(0, .ref (qm_a E 210)), (1, .int v1), (2, .int v2), (3, .int s.1), (4, .int s.2)] [] σ r
def bb_X7_first_5 (σ : qm_M) (v1 : Int32) (v2 : Int32) (v3 : Int32) (v4 : Int32) : Option ((Int32 × Int32) ⊕ (Int32)) :=
  if 12 < v4 then (some v3).bind (fun y => some (.inr y)) else (fn_X7_isChild σ v4 v1).bind (fun r2 => if (qm_b r2) = 0 then (some (v4 + 1)).bind (fun z3 => some (.inl (v3, z3))) else if ((v2 >>> (v4 &&& 31)) &&& 1) = 1 then if v3 = (-1) then (some (v4 + 1)).bind (fun z5 => some (.inl (v4, z5))) else (fn_X7_turnThen σ v4 v2).bind (fun r6 => (fn_X7_turnThen σ v3 v2).bind (fun r7 => if 0 ≤ (lg_cmp r6 r7) then (some (v4 + 1)).bind (fun z8 => some (.inl (v3, z8))) else (some (v4 + 1)).bind (fun z9 => some (.inl (v4, z9))))) else (some (v4 + 1)).bind (fun z4 => some (.inl (v3, z4))))
set_option maxRecDepth 20000 in
theorem wb_X7_first_5 {l : Launch} {E : qm_E} (σ : qm_M) (v1 : Int32) (v2 : Int32) (v3 : Int32) (v4 : Int32) {x : (Int32 × Int32) ⊕ (Int32)} (h : bb_X7_first_5 σ v1 v2 v3 v4 = some x) {r : Option Value × qm_M} (hT : (qm_T (pp_X7_first_5 l E σ v1 v2) (fun x r => (some (.int x), σ) = r)) x r) : qm_Wp l E kd_X7_first "HungStreamsModel" cX7_first 5 5 [(0, .ref (qm_a E 210)), (1, .int v1), (2, .int v2), (3, .int v3), (4, .int v4)] [] σ r := by
  unfold bb_X7_first_5 at h
  refine qr_iload dX7_first_5 4 rfl ?_
  refine qr_bipush (v := 12) dX7_first_7 (by decide) ?_
  refine qr_icmp_gt (tgt := 63) dX7_first_9 (by decide) (fun c14 => ?_) (fun c14 => ?_)
  · rw [if_pos c14] at h
    obtain ⟨y1, h1, hx⟩ := qm_bind h
    clear h
    cases hx
    have h := h1
    refine qr_iload_n dX7_first_63 rfl 3 rfl ?_
    obtain rfl := Option.some.inj h
    cases hT
    exact qr_iret dX7_first_64
  · rw [if_neg c14] at h
    refine qr_aload_n dX7_first_12 rfl 0 rfl ?_
    refine qr_iload dX7_first_13 4 rfl ?_
    refine qr_iload_n dX7_first_15 rfl 1 rfl ?_
    obtain ⟨r2, er2, h⟩ := qm_bind h
    refine qr_call1 (st1 := [.int (qm_b r2)]) rfl (qr_callV (id := 210) (c := 5) (As := [.int v4, .int v1]) (st := []) rfl (by decide) rfl (ct_X7_isChild (l := l) (E := E) σ v4 v1 er2) qw_723 qw_6 qw_720 qw_722 qs_14 yd_X7_isChild (by decide) (by decide) rfl (Nat.le_of_ble_eq_true rfl) dX7_first_16) ?_
    refine qr_if_eq (tgt := 57) dX7_first_19 (by decide) (fun c13 => ?_) (fun c13 => ?_)
    · rw [if_pos c13] at h
      obtain ⟨z3, ez3, h⟩ := qm_bind h
      refine qr_iinc (q := 4) (v := z3) (lv' := [(4, .int z3), (0, .ref (qm_a E 210)), (1, .int v1), (2, .int v2), (3, .int v3)]) dX7_first_57 rfl (Option.some.inj ez3) (by decide) rfl ?_
      refine qr_goto (tgt := 5) dX7_first_60 (by decide) ?_
      obtain rfl := Option.some.inj h
      exact qr_sub [1, 2, 3, 4, 0] rfl hT
    · rw [if_neg c13] at h
      refine qr_iload_n dX7_first_22 rfl 2 rfl ?_
      refine qr_iload dX7_first_23 4 rfl ?_
      refine qr_ishr dX7_first_25 ?_
      refine qr_iconst (v := 1) dX7_first_26 (by decide) ?_
      refine qr_iand dX7_first_27 ?_
      refine qr_iconst (v := 1) dX7_first_28 (by decide) ?_
      refine qr_icmp_ne (tgt := 57) dX7_first_29 (by decide) (fun c12 => ?_) (fun c12 => ?_)
      · rw [if_neg c12] at h
        obtain ⟨z4, ez4, h⟩ := qm_bind h
        refine qr_iinc (q := 4) (v := z4) (lv' := [(4, .int z4), (0, .ref (qm_a E 210)), (1, .int v1), (2, .int v2), (3, .int v3)]) dX7_first_57 rfl (Option.some.inj ez4) (by decide) rfl ?_
        refine qr_goto (tgt := 5) dX7_first_60 (by decide) ?_
        obtain rfl := Option.some.inj h
        exact qr_sub [1, 2, 3, 4, 0] rfl hT
      · rw [if_pos c12] at h
        refine qr_iload_n dX7_first_32 rfl 3 rfl ?_
        refine qr_iconst (v := (-1)) dX7_first_33 (by decide) ?_
        refine qr_icmp_eq (tgt := 54) dX7_first_34 (by decide) (fun c11 => ?_) (fun c11 => ?_)
        · rw [if_pos c11] at h
          refine qr_iload dX7_first_54 4 rfl ?_
          refine qr_istore_n (lv' := [(3, .int v4), (0, .ref (qm_a E 210)), (1, .int v1), (2, .int v2), (4, .int v4)]) dX7_first_56 rfl (by decide) rfl ?_
          obtain ⟨z5, ez5, h⟩ := qm_bind h
          refine qr_iinc (q := 4) (v := z5) (lv' := [(4, .int z5), (3, .int v4), (0, .ref (qm_a E 210)), (1, .int v1), (2, .int v2)]) dX7_first_57 rfl (Option.some.inj ez5) (by decide) rfl ?_
          refine qr_goto (tgt := 5) dX7_first_60 (by decide) ?_
          obtain rfl := Option.some.inj h
          exact qr_sub [2, 3, 4, 1, 0] rfl hT
        · rw [if_neg c11] at h
          refine qr_aload_n dX7_first_37 rfl 0 rfl ?_
          refine qr_iload dX7_first_38 4 rfl ?_
          refine qr_iload_n dX7_first_40 rfl 2 rfl ?_
          obtain ⟨r6, er6, h⟩ := qm_bind h
          refine qr_call1 (st1 := [.long r6]) rfl (qr_callV (id := 210) (c := 5) (As := [.int v4, .int v2]) (st := []) rfl (by decide) rfl (ct_X7_turnThen (l := l) (E := E) σ v4 v2 er6) qw_846 qw_6 qw_843 qw_845 qs_30 yd_X7_turnThen (by decide) (by decide) rfl (Nat.le_of_ble_eq_true rfl) dX7_first_41) ?_
          refine qr_aload_n dX7_first_44 rfl 0 rfl ?_
          refine qr_iload_n dX7_first_45 rfl 3 rfl ?_
          refine qr_iload_n dX7_first_46 rfl 2 rfl ?_
          obtain ⟨r7, er7, h⟩ := qm_bind h
          refine qr_call1 (st1 := [.long r7, .long r6]) rfl (qr_callV (id := 210) (c := 5) (As := [.int v3, .int v2]) (st := [.long r6]) rfl (by decide) rfl (ct_X7_turnThen (l := l) (E := E) σ v3 v2 er7) qw_846 qw_6 qw_843 qw_845 qs_30 yd_X7_turnThen (by decide) (by decide) rfl (Nat.le_of_ble_eq_true rfl) dX7_first_47) ?_
          refine qr_lcmp dX7_first_50 ?_
          refine qr_if_ge (tgt := 57) dX7_first_51 (by decide) (fun c10 => ?_) (fun c10 => ?_)
          · rw [if_pos c10] at h
            obtain ⟨z8, ez8, h⟩ := qm_bind h
            refine qr_iinc (q := 4) (v := z8) (lv' := [(4, .int z8), (0, .ref (qm_a E 210)), (1, .int v1), (2, .int v2), (3, .int v3)]) dX7_first_57 rfl (Option.some.inj ez8) (by decide) rfl ?_
            refine qr_goto (tgt := 5) dX7_first_60 (by decide) ?_
            obtain rfl := Option.some.inj h
            exact qr_sub [1, 2, 3, 4, 0] rfl hT
          · rw [if_neg c10] at h
            refine qr_iload dX7_first_54 4 rfl ?_
            refine qr_istore_n (lv' := [(3, .int v4), (0, .ref (qm_a E 210)), (1, .int v1), (2, .int v2), (4, .int v4)]) dX7_first_56 rfl (by decide) rfl ?_
            obtain ⟨z9, ez9, h⟩ := qm_bind h
            refine qr_iinc (q := 4) (v := z9) (lv' := [(4, .int z9), (3, .int v4), (0, .ref (qm_a E 210)), (1, .int v1), (2, .int v2)]) dX7_first_57 rfl (Option.some.inj ez9) (by decide) rfl ?_
            refine qr_goto (tgt := 5) dX7_first_60 (by decide) ?_
            obtain rfl := Option.some.inj h
            exact qr_sub [2, 3, 4, 1, 0] rfl hT
def lp_X7_first_5 (σ : qm_M) (v1 : Int32) (v2 : Int32) (v3 : Int32) (v4 : Int32) : Option (Int32) := qm_loop (fun s : Int32 × Int32 => bb_X7_first_5 σ v1 v2 s.1 s.2) 1000 (v3, v4)
theorem wl_X7_first_5 {l : Launch} {E : qm_E} (σ : qm_M) (v1 : Int32) (v2 : Int32) (v3 : Int32) (v4 : Int32) {x : Int32} (h : lp_X7_first_5 σ v1 v2 v3 v4 = some x) {r : Option Value × qm_M} (hT : (fun x r => (some (.int x), σ) = r) x r) : qm_Wp l E kd_X7_first "HungStreamsModel" cX7_first 5 5 [(0, .ref (qm_a E 210)), (1, .int v1), (2, .int v2), (3, .int v3), (4, .int v4)] [] σ r :=
  qm_loop_T (P := pp_X7_first_5 l E σ v1 v2) (T1 := (fun x r => (some (.int x), σ) = r)) (fun s x h r hT => wb_X7_first_5 (l := l) (E := E) σ v1 v2 s.1 s.2  h hT) h hT
def fn_X7_first (σ : qm_M) (v1 : Int32) (v2 : Int32) : Option (Int32) :=
  lp_X7_first_5 σ v1 v2 (-1) 1
set_option maxRecDepth 20000 in
theorem wf_X7_first {l : Launch} {E : qm_E} (σ : qm_M) (v1 : Int32) (v2 : Int32) {x : Int32} (h : fn_X7_first σ v1 v2 = some x) {r : Option Value × qm_M} (hT : (fun x r => (some (.int x), σ) = r) x r) : qm_Wp l E kd_X7_first "HungStreamsModel" cX7_first 5 0 [(0, .ref (qm_a E 210)), (1, .int v1), (2, .int v2)] [] σ r := by
  unfold fn_X7_first at h
  refine qr_iconst (v := (-1)) dX7_first_0 (by decide) ?_
  refine qr_istore_n (lv' := [(3, .int (-1)), (0, .ref (qm_a E 210)), (1, .int v1), (2, .int v2)]) dX7_first_1 rfl (by decide) rfl ?_
  refine qr_iconst (v := 1) dX7_first_2 (by decide) ?_
  refine qr_istore (lv' := [(4, .int 1), (3, .int (-1)), (0, .ref (qm_a E 210)), (1, .int v1), (2, .int v2)]) dX7_first_3 (by decide) rfl ?_
  exact qr_sub [2, 3, 4, 1, 0] rfl (wl_X7_first_5 (l := l) (E := E) σ v1 v2 (-1) 1 h hT)
theorem ct_X7_first {l : Launch} {E : qm_E} (σ : qm_M) (v1 : Int32) (v2 : Int32) {x : Int32} (h : fn_X7_first σ v1 v2 = some x) : qm_Ct l E kd_X7_first yX7_first cX7_first 5 (some .int) [.ref (qm_a E 210), .int v1, .int v2] σ (some (.int x), σ) := qm_ofWp rfl (Nat.le_of_ble_eq_true rfl) (Or.inl rfl) (wf_X7_first σ v1 v2  h rfl)
-- HungStreamsModel.byTree ()I
abbrev kd_X7_byTree : Nat := 6
theorem yd_X7_byTree : (yX7_byTree).cls ≠ "java/lang/invoke/MethodHandle" ∧ (yX7_byTree).cls ≠ "java/lang/invoke/VarHandle" ∧ (parseMethodDescriptor (yX7_byTree).desc).map (fun d => d.parameters.length) = some 0 := by decide +kernel
abbrev pp_X7_byTree_12 (l : Launch) (E : qm_E) (σ : qm_M) (v1 : Int32) : Int32 → Option Value × qm_M → Prop := fun s r => qm_Wp l E kd_X7_byTree "HungStreamsModel" cX7_byTree 3 12 [(0, .ref (qm_a E 210)), (1, .int v1), (2, .int s)] [] σ r
def bb_X7_byTree_12 (σ : qm_M) (v1 : Int32) (v2 : Int32) : Option ((Int32) ⊕ (Int32)) :=
  if v2 = (-1) then (some v2).bind (fun y => some (.inr y)) else (fn_X7_can σ v2).bind (fun r4 => if (qm_b r4) = 0 then (fn_X7_first σ v2 v1).bind (fun r6 => some (.inl r6)) else (some v2).bind (fun y => some (.inr y)))
set_option maxRecDepth 20000 in
theorem wb_X7_byTree_12 {l : Launch} {E : qm_E} (σ : qm_M) (v1 : Int32) (v2 : Int32) {x : (Int32) ⊕ (Int32)} (h : bb_X7_byTree_12 σ v1 v2 = some x) {r : Option Value × qm_M} (hT : (qm_T (pp_X7_byTree_12 l E σ v1) (fun x r => (some (.int x), σ) = r)) x r) : qm_Wp l E kd_X7_byTree "HungStreamsModel" cX7_byTree 3 12 [(0, .ref (qm_a E 210)), (1, .int v1), (2, .int v2)] [] σ r := by
  unfold bb_X7_byTree_12 at h
  refine qr_iload_n dX7_byTree_12 rfl 2 rfl ?_
  refine qr_iconst (v := (-1)) dX7_byTree_13 (by decide) ?_
  refine qr_icmp_eq (tgt := 35) dX7_byTree_14 (by decide) (fun c8 => ?_) (fun c8 => ?_)
  · rw [if_pos c8] at h
    obtain ⟨y3, h1, hx⟩ := qm_bind h
    clear h
    cases hx
    have h := h1
    refine qr_iload_n dX7_byTree_35 rfl 2 rfl ?_
    obtain rfl := Option.some.inj h
    cases hT
    exact qr_iret dX7_byTree_36
  · rw [if_neg c8] at h
    refine qr_aload_n dX7_byTree_17 rfl 0 rfl ?_
    refine qr_iload_n dX7_byTree_18 rfl 2 rfl ?_
    obtain ⟨r4, er4, h⟩ := qm_bind h
    refine qr_call1 (st1 := [.int (qm_b r4)]) rfl (qr_callV (id := 210) (c := 5) (As := [.int v2]) (st := []) rfl (by decide) rfl (ct_X7_can (l := l) (E := E) σ v2 er4) qw_790 qw_6 qw_787 qw_789 qs_24 yd_X7_can (by decide) (by decide) rfl (Nat.le_of_ble_eq_true rfl) dX7_byTree_19) ?_
    refine qr_if_ne (tgt := 35) dX7_byTree_22 (by decide) (fun c7 => ?_) (fun c7 => ?_)
    · rw [if_neg c7] at h
      obtain ⟨y5, h1, hx⟩ := qm_bind h
      clear h
      cases hx
      have h := h1
      refine qr_iload_n dX7_byTree_35 rfl 2 rfl ?_
      obtain rfl := Option.some.inj h
      cases hT
      exact qr_iret dX7_byTree_36
    · rw [if_pos c7] at h
      refine qr_aload_n dX7_byTree_25 rfl 0 rfl ?_
      refine qr_iload_n dX7_byTree_26 rfl 2 rfl ?_
      refine qr_iload_n dX7_byTree_27 rfl 1 rfl ?_
      obtain ⟨r6, er6, h⟩ := qm_bind h
      refine qr_call1 (st1 := [.int r6]) rfl (qr_callV (id := 210) (c := 5) (As := [.int v2, .int v1]) (st := []) rfl (by decide) rfl (ct_X7_first (l := l) (E := E) σ v2 v1 er6) qw_842 qw_6 qw_839 qw_841 qs_29 yd_X7_first (by decide) (by decide) rfl (Nat.le_of_ble_eq_true rfl) dX7_byTree_28) ?_
      refine qr_istore_n (lv' := [(2, .int r6), (0, .ref (qm_a E 210)), (1, .int v1)]) dX7_byTree_31 rfl (by decide) rfl ?_
      refine qr_goto (tgt := 12) dX7_byTree_32 (by decide) ?_
      obtain rfl := Option.some.inj h
      exact qr_sub [1, 2, 0] rfl hT
def lp_X7_byTree_12 (σ : qm_M) (v1 : Int32) (v2 : Int32) : Option (Int32) := qm_loop (fun s : Int32 => bb_X7_byTree_12 σ v1 s) 1000 v2
theorem wl_X7_byTree_12 {l : Launch} {E : qm_E} (σ : qm_M) (v1 : Int32) (v2 : Int32) {x : Int32} (h : lp_X7_byTree_12 σ v1 v2 = some x) {r : Option Value × qm_M} (hT : (fun x r => (some (.int x), σ) = r) x r) : qm_Wp l E kd_X7_byTree "HungStreamsModel" cX7_byTree 3 12 [(0, .ref (qm_a E 210)), (1, .int v1), (2, .int v2)] [] σ r :=
  qm_loop_T (P := pp_X7_byTree_12 l E σ v1) (T1 := (fun x r => (some (.int x), σ) = r)) (fun s x h r hT => wb_X7_byTree_12 (l := l) (E := E) σ v1 s  h hT) h hT
def fn_X7_byTree (σ : qm_M)  : Option (Int32) :=
  (fn_X7_liveSet σ ).bind (fun r1 => (fn_X7_first σ 0 r1).bind (fun r2 => lp_X7_byTree_12 σ r1 r2))
set_option maxRecDepth 20000 in
theorem wf_X7_byTree {l : Launch} {E : qm_E} (σ : qm_M)  {x : Int32} (h : fn_X7_byTree σ  = some x) {r : Option Value × qm_M} (hT : (fun x r => (some (.int x), σ) = r) x r) : qm_Wp l E kd_X7_byTree "HungStreamsModel" cX7_byTree 3 0 [(0, .ref (qm_a E 210))] [] σ r := by
  unfold fn_X7_byTree at h
  refine qr_aload_n dX7_byTree_0 rfl 0 rfl ?_
  obtain ⟨r1, er1, h⟩ := qm_bind h
  refine qr_call1 (st1 := [.int r1]) rfl (qr_callV (id := 210) (c := 5) (As := []) (st := []) rfl (by decide) rfl (ct_X7_liveSet (l := l) (E := E) σ  er1) qw_838 qw_6 qw_835 qw_837 qs_28 yd_X7_liveSet (by decide) (by decide) rfl (Nat.le_of_ble_eq_true rfl) dX7_byTree_1) ?_
  refine qr_istore_n (lv' := [(1, .int r1), (0, .ref (qm_a E 210))]) dX7_byTree_4 rfl (by decide) rfl ?_
  refine qr_aload_n dX7_byTree_5 rfl 1 rfl ?_
  refine qr_iconst (v := 0) dX7_byTree_6 (by decide) ?_
  refine qr_iload_n dX7_byTree_7 rfl 0 rfl ?_
  obtain ⟨r2, er2, h⟩ := qm_bind h
  refine qr_call1 (st1 := [.int r2]) rfl (qr_callV (id := 210) (c := 5) (As := [.int 0, .int r1]) (st := []) rfl (by decide) rfl (ct_X7_first (l := l) (E := E) σ 0 r1 er2) qw_842 qw_6 qw_839 qw_841 qs_29 yd_X7_first (by decide) (by decide) rfl (Nat.le_of_ble_eq_true rfl) dX7_byTree_8) ?_
  refine qr_istore_n (lv' := [(2, .int r2), (1, .int r1), (0, .ref (qm_a E 210))]) dX7_byTree_11 rfl (by decide) rfl ?_
  exact qr_sub [2, 1, 0] rfl (wl_X7_byTree_12 (l := l) (E := E) σ r1 r2 h hT)
theorem ct_X7_byTree {l : Launch} {E : qm_E} (σ : qm_M)  {x : Int32} (h : fn_X7_byTree σ  = some x) : qm_Ct l E kd_X7_byTree yX7_byTree cX7_byTree 3 (some .int) [.ref (qm_a E 210)] σ (some (.int x), σ) := qm_ofWp rfl (Nat.le_of_ble_eq_true rfl) (Or.inl rfl) (wf_X7_byTree σ   h rfl)
-- HungStreamsModel.isAhead (II)Z
abbrev kd_X7_isAhead : Nat := 2
theorem yd_X7_isAhead : (yX7_isAhead).cls ≠ "java/lang/invoke/MethodHandle" ∧ (yX7_isAhead).cls ≠ "java/lang/invoke/VarHandle" ∧ (parseMethodDescriptor (yX7_isAhead).desc).map (fun d => d.parameters.length) = some 2 := by decide +kernel
def fn_X7_isAhead (σ : qm_M) (v1 : Int32) (v2 : Int32) : Option (Bool) :=
  (fn_X7_its σ v1 5).bind (fun r1 => (fn_X7_its σ v2 5).bind (fun r2 => if (lg_cmp r1 r2) = 0 then (fn_X7_its σ v1 6).bind (fun r3 => (fn_X7_its σ v2 6).bind (fun r4 => if (lg_cmp r3 r4) = 0 then (fn_X7_its σ v1 6).bind (fun r5 => if (lg_cmp r5 1) = 0 then (fn_X7_its σ v1 14).bind (fun r6 => (fn_X7_its σ v2 14).bind (fun r7 => if 0 ≤ (lg_cmp r6 r7) then some false else some true)) else some false) else (fn_X7_its σ v1 6).bind (fun r10 => if (lg_cmp r10 0) = 0 then some true else some false))) else (fn_X7_its σ v1 5).bind (fun r13 => (fn_X7_its σ v2 5).bind (fun r14 => if 0 ≤ (lg_cmp r13 r14) then some false else some true))))
set_option maxRecDepth 20000 in
theorem wf_X7_isAhead {l : Launch} {E : qm_E} (σ : qm_M) (v1 : Int32) (v2 : Int32) {x : Bool} (h : fn_X7_isAhead σ v1 v2 = some x) {r : Option Value × qm_M} (hT : (fun x r => (some (.int (qm_b x)), σ) = r) x r) : qm_Wp l E kd_X7_isAhead "HungStreamsModel" cX7_isAhead 3 0 [(0, .ref (qm_a E 210)), (1, .int v1), (2, .int v2)] [] σ r := by
  unfold fn_X7_isAhead at h
  refine qr_aload_n dX7_isAhead_0 rfl 0 rfl ?_
  refine qr_iload_n dX7_isAhead_1 rfl 1 rfl ?_
  refine qr_iconst (v := 5) dX7_isAhead_2 (by decide) ?_
  obtain ⟨r1, er1, h⟩ := qm_bind h
  refine qr_call1 (st1 := [.long r1]) rfl (qr_callV (id := 210) (c := 5) (As := [.int v1, .int 5]) (st := []) rfl (by decide) rfl (ct_X7_its (l := l) (E := E) σ v1 5 er1) qw_696 qw_6 qw_693 qw_695 qs_8 yd_X7_its (by decide) (by decide) rfl (Nat.le_of_ble_eq_true rfl) dX7_isAhead_3) ?_
  refine qr_aload_n dX7_isAhead_6 rfl 0 rfl ?_
  refine qr_iload_n dX7_isAhead_7 rfl 2 rfl ?_
  refine qr_iconst (v := 5) dX7_isAhead_8 (by decide) ?_
  obtain ⟨r2, er2, h⟩ := qm_bind h
  refine qr_call1 (st1 := [.long r2, .long r1]) rfl (qr_callV (id := 210) (c := 5) (As := [.int v2, .int 5]) (st := [.long r1]) rfl (by decide) rfl (ct_X7_its (l := l) (E := E) σ v2 5 er2) qw_696 qw_6 qw_693 qw_695 qs_8 yd_X7_its (by decide) (by decide) rfl (Nat.le_of_ble_eq_true rfl) dX7_isAhead_9) ?_
  refine qr_lcmp dX7_isAhead_12 ?_
  refine qr_if_eq (tgt := 38) dX7_isAhead_13 (by decide) (fun c16 => ?_) (fun c16 => ?_)
  · rw [if_pos c16] at h
    refine qr_aload_n dX7_isAhead_38 rfl 0 rfl ?_
    refine qr_iload_n dX7_isAhead_39 rfl 1 rfl ?_
    refine qr_bipush (v := 6) dX7_isAhead_40 (by decide) ?_
    obtain ⟨r3, er3, h⟩ := qm_bind h
    refine qr_call1 (st1 := [.long r3]) rfl (qr_callV (id := 210) (c := 5) (As := [.int v1, .int 6]) (st := []) rfl (by decide) rfl (ct_X7_its (l := l) (E := E) σ v1 6 er3) qw_696 qw_6 qw_693 qw_695 qs_8 yd_X7_its (by decide) (by decide) rfl (Nat.le_of_ble_eq_true rfl) dX7_isAhead_42) ?_
    refine qr_aload_n dX7_isAhead_45 rfl 0 rfl ?_
    refine qr_iload_n dX7_isAhead_46 rfl 2 rfl ?_
    refine qr_bipush (v := 6) dX7_isAhead_47 (by decide) ?_
    obtain ⟨r4, er4, h⟩ := qm_bind h
    refine qr_call1 (st1 := [.long r4, .long r3]) rfl (qr_callV (id := 210) (c := 5) (As := [.int v2, .int 6]) (st := [.long r3]) rfl (by decide) rfl (ct_X7_its (l := l) (E := E) σ v2 6 er4) qw_696 qw_6 qw_693 qw_695 qs_8 yd_X7_its (by decide) (by decide) rfl (Nat.le_of_ble_eq_true rfl) dX7_isAhead_49) ?_
    refine qr_lcmp dX7_isAhead_52 ?_
    refine qr_if_eq (tgt := 74) dX7_isAhead_53 (by decide) (fun c12 => ?_) (fun c12 => ?_)
    · rw [if_pos c12] at h
      refine qr_aload_n dX7_isAhead_74 rfl 0 rfl ?_
      refine qr_iload_n dX7_isAhead_75 rfl 1 rfl ?_
      refine qr_bipush (v := 6) dX7_isAhead_76 (by decide) ?_
      obtain ⟨r5, er5, h⟩ := qm_bind h
      refine qr_call1 (st1 := [.long r5]) rfl (qr_callV (id := 210) (c := 5) (As := [.int v1, .int 6]) (st := []) rfl (by decide) rfl (ct_X7_its (l := l) (E := E) σ v1 6 er5) qw_696 qw_6 qw_693 qw_695 qs_8 yd_X7_its (by decide) (by decide) rfl (Nat.le_of_ble_eq_true rfl) dX7_isAhead_78) ?_
      refine qr_lconst (v := 1) dX7_isAhead_81 (by decide) ?_
      refine qr_lcmp dX7_isAhead_82 ?_
      refine qr_if_ne (tgt := 108) dX7_isAhead_83 (by decide) (fun c9 => ?_) (fun c9 => ?_)
      · rw [if_neg c9] at h
        refine qr_iconst (v := 0) dX7_isAhead_108 (by decide) ?_
        obtain rfl := Option.some.inj h
        cases hT
        exact qr_iret dX7_isAhead_109
      · rw [if_pos c9] at h
        refine qr_aload_n dX7_isAhead_86 rfl 0 rfl ?_
        refine qr_iload_n dX7_isAhead_87 rfl 1 rfl ?_
        refine qr_bipush (v := 14) dX7_isAhead_88 (by decide) ?_
        obtain ⟨r6, er6, h⟩ := qm_bind h
        refine qr_call1 (st1 := [.long r6]) rfl (qr_callV (id := 210) (c := 5) (As := [.int v1, .int 14]) (st := []) rfl (by decide) rfl (ct_X7_its (l := l) (E := E) σ v1 14 er6) qw_696 qw_6 qw_693 qw_695 qs_8 yd_X7_its (by decide) (by decide) rfl (Nat.le_of_ble_eq_true rfl) dX7_isAhead_90) ?_
        refine qr_aload_n dX7_isAhead_93 rfl 0 rfl ?_
        refine qr_iload_n dX7_isAhead_94 rfl 2 rfl ?_
        refine qr_bipush (v := 14) dX7_isAhead_95 (by decide) ?_
        obtain ⟨r7, er7, h⟩ := qm_bind h
        refine qr_call1 (st1 := [.long r7, .long r6]) rfl (qr_callV (id := 210) (c := 5) (As := [.int v2, .int 14]) (st := [.long r6]) rfl (by decide) rfl (ct_X7_its (l := l) (E := E) σ v2 14 er7) qw_696 qw_6 qw_693 qw_695 qs_8 yd_X7_its (by decide) (by decide) rfl (Nat.le_of_ble_eq_true rfl) dX7_isAhead_97) ?_
        refine qr_lcmp dX7_isAhead_100 ?_
        refine qr_if_ge (tgt := 108) dX7_isAhead_101 (by decide) (fun c8 => ?_) (fun c8 => ?_)
        · rw [if_pos c8] at h
          refine qr_iconst (v := 0) dX7_isAhead_108 (by decide) ?_
          obtain rfl := Option.some.inj h
          cases hT
          exact qr_iret dX7_isAhead_109
        · rw [if_neg c8] at h
          refine qr_iconst (v := 1) dX7_isAhead_104 (by decide) ?_
          refine qr_goto (tgt := 109) dX7_isAhead_105 (by decide) ?_
          obtain rfl := Option.some.inj h
          cases hT
          exact qr_iret dX7_isAhead_109
    · rw [if_neg c12] at h
      refine qr_aload_n dX7_isAhead_56 rfl 0 rfl ?_
      refine qr_iload_n dX7_isAhead_57 rfl 1 rfl ?_
      refine qr_bipush (v := 6) dX7_isAhead_58 (by decide) ?_
      obtain ⟨r10, er10, h⟩ := qm_bind h
      refine qr_call1 (st1 := [.long r10]) rfl (qr_callV (id := 210) (c := 5) (As := [.int v1, .int 6]) (st := []) rfl (by decide) rfl (ct_X7_its (l := l) (E := E) σ v1 6 er10) qw_696 qw_6 qw_693 qw_695 qs_8 yd_X7_its (by decide) (by decide) rfl (Nat.le_of_ble_eq_true rfl) dX7_isAhead_60) ?_
      refine qr_lconst (v := 0) dX7_isAhead_63 (by decide) ?_
      refine qr_lcmp dX7_isAhead_64 ?_
      refine qr_if_ne (tgt := 72) dX7_isAhead_65 (by decide) (fun c11 => ?_) (fun c11 => ?_)
      · rw [if_neg c11] at h
        refine qr_iconst (v := 0) dX7_isAhead_72 (by decide) ?_
        obtain rfl := Option.some.inj h
        cases hT
        exact qr_iret dX7_isAhead_73
      · rw [if_pos c11] at h
        refine qr_iconst (v := 1) dX7_isAhead_68 (by decide) ?_
        refine qr_goto (tgt := 73) dX7_isAhead_69 (by decide) ?_
        obtain rfl := Option.some.inj h
        cases hT
        exact qr_iret dX7_isAhead_73
  · rw [if_neg c16] at h
    refine qr_aload_n dX7_isAhead_16 rfl 0 rfl ?_
    refine qr_iload_n dX7_isAhead_17 rfl 1 rfl ?_
    refine qr_iconst (v := 5) dX7_isAhead_18 (by decide) ?_
    obtain ⟨r13, er13, h⟩ := qm_bind h
    refine qr_call1 (st1 := [.long r13]) rfl (qr_callV (id := 210) (c := 5) (As := [.int v1, .int 5]) (st := []) rfl (by decide) rfl (ct_X7_its (l := l) (E := E) σ v1 5 er13) qw_696 qw_6 qw_693 qw_695 qs_8 yd_X7_its (by decide) (by decide) rfl (Nat.le_of_ble_eq_true rfl) dX7_isAhead_19) ?_
    refine qr_aload_n dX7_isAhead_22 rfl 0 rfl ?_
    refine qr_iload_n dX7_isAhead_23 rfl 2 rfl ?_
    refine qr_iconst (v := 5) dX7_isAhead_24 (by decide) ?_
    obtain ⟨r14, er14, h⟩ := qm_bind h
    refine qr_call1 (st1 := [.long r14, .long r13]) rfl (qr_callV (id := 210) (c := 5) (As := [.int v2, .int 5]) (st := [.long r13]) rfl (by decide) rfl (ct_X7_its (l := l) (E := E) σ v2 5 er14) qw_696 qw_6 qw_693 qw_695 qs_8 yd_X7_its (by decide) (by decide) rfl (Nat.le_of_ble_eq_true rfl) dX7_isAhead_25) ?_
    refine qr_lcmp dX7_isAhead_28 ?_
    refine qr_if_ge (tgt := 36) dX7_isAhead_29 (by decide) (fun c15 => ?_) (fun c15 => ?_)
    · rw [if_pos c15] at h
      refine qr_iconst (v := 0) dX7_isAhead_36 (by decide) ?_
      obtain rfl := Option.some.inj h
      cases hT
      exact qr_iret dX7_isAhead_37
    · rw [if_neg c15] at h
      refine qr_iconst (v := 1) dX7_isAhead_32 (by decide) ?_
      refine qr_goto (tgt := 37) dX7_isAhead_33 (by decide) ?_
      obtain rfl := Option.some.inj h
      cases hT
      exact qr_iret dX7_isAhead_37
theorem ct_X7_isAhead {l : Launch} {E : qm_E} (σ : qm_M) (v1 : Int32) (v2 : Int32) {x : Bool} (h : fn_X7_isAhead σ v1 v2 = some x) : qm_Ct l E kd_X7_isAhead yX7_isAhead cX7_isAhead 3 (some .boolean) [.ref (qm_a E 210), .int v1, .int v2] σ (some (.int (qm_b x)), σ) := qm_ofWp rfl (Nat.le_of_ble_eq_true rfl) (qm_rtz _) (wf_X7_isAhead σ v1 v2  h rfl)
-- HungStreamsModel.byUrgency ()I
abbrev kd_X7_byUrgency : Nat := 4
theorem yd_X7_byUrgency : (yX7_byUrgency).cls ≠ "java/lang/invoke/MethodHandle" ∧ (yX7_byUrgency).cls ≠ "java/lang/invoke/VarHandle" ∧ (parseMethodDescriptor (yX7_byUrgency).desc).map (fun d => d.parameters.length) = some 0 := by decide +kernel
abbrev pp_X7_byUrgency_4 (l : Launch) (E : qm_E) (σ : qm_M) : (Int32 × Int32) → Option Value × qm_M → Prop := fun s r => qm_Wp l E kd_X7_byUrgency "HungStreamsModel" cX7_byUrgency 3 4 [(0, .ref (qm_a E 210)), (1, .int s.1), (2, .int s.2)] [] σ r
def bb_X7_byUrgency_4 (σ : qm_M) (v1 : Int32) (v2 : Int32) : Option ((Int32 × Int32) ⊕ (Int32)) :=
  if 12 < v2 then (some v1).bind (fun y => some (.inr y)) else (fn_X7_can σ v2).bind (fun r2 => if (qm_b r2) = 0 then (some (v2 + 1)).bind (fun z3 => some (.inl (v1, z3))) else if v1 = (-1) then (some (v2 + 1)).bind (fun z4 => some (.inl (v2, z4))) else (fn_X7_isAhead σ v2 v1).bind (fun r5 => if (qm_b r5) = 0 then (some (v2 + 1)).bind (fun z6 => some (.inl (v1, z6))) else (some (v2 + 1)).bind (fun z7 => some (.inl (v2, z7)))))
set_option maxRecDepth 20000 in
theorem wb_X7_byUrgency_4 {l : Launch} {E : qm_E} (σ : qm_M) (v1 : Int32) (v2 : Int32) {x : (Int32 × Int32) ⊕ (Int32)} (h : bb_X7_byUrgency_4 σ v1 v2 = some x) {r : Option Value × qm_M} (hT : (qm_T (pp_X7_byUrgency_4 l E σ) (fun x r => (some (.int x), σ) = r)) x r) : qm_Wp l E kd_X7_byUrgency "HungStreamsModel" cX7_byUrgency 3 4 [(0, .ref (qm_a E 210)), (1, .int v1), (2, .int v2)] [] σ r := by
  unfold bb_X7_byUrgency_4 at h
  refine qr_iload_n dX7_byUrgency_4 rfl 2 rfl ?_
  refine qr_bipush (v := 12) dX7_byUrgency_5 (by decide) ?_
  refine qr_icmp_gt (tgt := 40) dX7_byUrgency_7 (by decide) (fun c11 => ?_) (fun c11 => ?_)
  · rw [if_pos c11] at h
    obtain ⟨y1, h1, hx⟩ := qm_bind h
    clear h
    cases hx
    have h := h1
    refine qr_iload_n dX7_byUrgency_40 rfl 1 rfl ?_
    obtain rfl := Option.some.inj h
    cases hT
    exact qr_iret dX7_byUrgency_41
  · rw [if_neg c11] at h
    refine qr_aload_n dX7_byUrgency_10 rfl 0 rfl ?_
    refine qr_iload_n dX7_byUrgency_11 rfl 2 rfl ?_
    obtain ⟨r2, er2, h⟩ := qm_bind h
    refine qr_call1 (st1 := [.int (qm_b r2)]) rfl (qr_callV (id := 210) (c := 5) (As := [.int v2]) (st := []) rfl (by decide) rfl (ct_X7_can (l := l) (E := E) σ v2 er2) qw_790 qw_6 qw_787 qw_789 qs_24 yd_X7_can (by decide) (by decide) rfl (Nat.le_of_ble_eq_true rfl) dX7_byUrgency_12) ?_
    refine qr_if_eq (tgt := 34) dX7_byUrgency_15 (by decide) (fun c10 => ?_) (fun c10 => ?_)
    · rw [if_pos c10] at h
      obtain ⟨z3, ez3, h⟩ := qm_bind h
      refine qr_iinc (q := 2) (v := z3) (lv' := [(2, .int z3), (0, .ref (qm_a E 210)), (1, .int v1)]) dX7_byUrgency_34 rfl (Option.some.inj ez3) (by decide) rfl ?_
      refine qr_goto (tgt := 4) dX7_byUrgency_37 (by decide) ?_
      obtain rfl := Option.some.inj h
      exact qr_sub [1, 2, 0] rfl hT
    · rw [if_neg c10] at h
      refine qr_iload_n dX7_byUrgency_18 rfl 1 rfl ?_
      refine qr_iconst (v := (-1)) dX7_byUrgency_19 (by decide) ?_
      refine qr_icmp_eq (tgt := 32) dX7_byUrgency_20 (by decide) (fun c9 => ?_) (fun c9 => ?_)
      · rw [if_pos c9] at h
        refine qr_iload_n dX7_byUrgency_32 rfl 2 rfl ?_
        refine qr_istore_n (lv' := [(1, .int v2), (0, .ref (qm_a E 210)), (2, .int v2)]) dX7_byUrgency_33 rfl (by decide) rfl ?_
        obtain ⟨z4, ez4, h⟩ := qm_bind h
        refine qr_iinc (q := 2) (v := z4) (lv' := [(2, .int z4), (1, .int v2), (0, .ref (qm_a E 210))]) dX7_byUrgency_34 rfl (Option.some.inj ez4) (by decide) rfl ?_
        refine qr_goto (tgt := 4) dX7_byUrgency_37 (by decide) ?_
        obtain rfl := Option.some.inj h
        exact qr_sub [2, 1, 0] rfl hT
      · rw [if_neg c9] at h
        refine qr_aload_n dX7_byUrgency_23 rfl 0 rfl ?_
        refine qr_iload_n dX7_byUrgency_24 rfl 2 rfl ?_
        refine qr_iload_n dX7_byUrgency_25 rfl 1 rfl ?_
        obtain ⟨r5, er5, h⟩ := qm_bind h
        refine qr_call1 (st1 := [.int (qm_b r5)]) rfl (qr_callV (id := 210) (c := 5) (As := [.int v2, .int v1]) (st := []) rfl (by decide) rfl (ct_X7_isAhead (l := l) (E := E) σ v2 v1 er5) qw_854 qw_6 qw_851 qw_853 qs_32 yd_X7_isAhead (by decide) (by decide) rfl (Nat.le_of_ble_eq_true rfl) dX7_byUrgency_26) ?_
        refine qr_if_eq (tgt := 34) dX7_byUrgency_29 (by decide) (fun c8 => ?_) (fun c8 => ?_)
        · rw [if_pos c8] at h
          obtain ⟨z6, ez6, h⟩ := qm_bind h
          refine qr_iinc (q := 2) (v := z6) (lv' := [(2, .int z6), (0, .ref (qm_a E 210)), (1, .int v1)]) dX7_byUrgency_34 rfl (Option.some.inj ez6) (by decide) rfl ?_
          refine qr_goto (tgt := 4) dX7_byUrgency_37 (by decide) ?_
          obtain rfl := Option.some.inj h
          exact qr_sub [1, 2, 0] rfl hT
        · rw [if_neg c8] at h
          refine qr_iload_n dX7_byUrgency_32 rfl 2 rfl ?_
          refine qr_istore_n (lv' := [(1, .int v2), (0, .ref (qm_a E 210)), (2, .int v2)]) dX7_byUrgency_33 rfl (by decide) rfl ?_
          obtain ⟨z7, ez7, h⟩ := qm_bind h
          refine qr_iinc (q := 2) (v := z7) (lv' := [(2, .int z7), (1, .int v2), (0, .ref (qm_a E 210))]) dX7_byUrgency_34 rfl (Option.some.inj ez7) (by decide) rfl ?_
          refine qr_goto (tgt := 4) dX7_byUrgency_37 (by decide) ?_
          obtain rfl := Option.some.inj h
          exact qr_sub [2, 1, 0] rfl hT
def lp_X7_byUrgency_4 (σ : qm_M) (v1 : Int32) (v2 : Int32) : Option (Int32) := qm_loop (fun s : Int32 × Int32 => bb_X7_byUrgency_4 σ s.1 s.2) 1000 (v1, v2)
theorem wl_X7_byUrgency_4 {l : Launch} {E : qm_E} (σ : qm_M) (v1 : Int32) (v2 : Int32) {x : Int32} (h : lp_X7_byUrgency_4 σ v1 v2 = some x) {r : Option Value × qm_M} (hT : (fun x r => (some (.int x), σ) = r) x r) : qm_Wp l E kd_X7_byUrgency "HungStreamsModel" cX7_byUrgency 3 4 [(0, .ref (qm_a E 210)), (1, .int v1), (2, .int v2)] [] σ r :=
  qm_loop_T (P := pp_X7_byUrgency_4 l E σ) (T1 := (fun x r => (some (.int x), σ) = r)) (fun s x h r hT => wb_X7_byUrgency_4 (l := l) (E := E) σ s.1 s.2  h hT) h hT
def fn_X7_byUrgency (σ : qm_M)  : Option (Int32) :=
  lp_X7_byUrgency_4 σ (-1) 1
set_option maxRecDepth 20000 in
theorem wf_X7_byUrgency {l : Launch} {E : qm_E} (σ : qm_M)  {x : Int32} (h : fn_X7_byUrgency σ  = some x) {r : Option Value × qm_M} (hT : (fun x r => (some (.int x), σ) = r) x r) : qm_Wp l E kd_X7_byUrgency "HungStreamsModel" cX7_byUrgency 3 0 [(0, .ref (qm_a E 210))] [] σ r := by
  unfold fn_X7_byUrgency at h
  refine qr_iconst (v := (-1)) dX7_byUrgency_0 (by decide) ?_
  refine qr_istore_n (lv' := [(1, .int (-1)), (0, .ref (qm_a E 210))]) dX7_byUrgency_1 rfl (by decide) rfl ?_
  refine qr_iconst (v := 1) dX7_byUrgency_2 (by decide) ?_
  refine qr_istore_n (lv' := [(2, .int 1), (1, .int (-1)), (0, .ref (qm_a E 210))]) dX7_byUrgency_3 rfl (by decide) rfl ?_
  exact qr_sub [2, 1, 0] rfl (wl_X7_byUrgency_4 (l := l) (E := E) σ (-1) 1 h hT)
theorem ct_X7_byUrgency {l : Launch} {E : qm_E} (σ : qm_M)  {x : Int32} (h : fn_X7_byUrgency σ  = some x) : qm_Ct l E kd_X7_byUrgency yX7_byUrgency cX7_byUrgency 3 (some .int) [.ref (qm_a E 210)] σ (some (.int x), σ) := qm_ofWp rfl (Nat.le_of_ble_eq_true rfl) (Or.inl rfl) (wf_X7_byUrgency σ   h rfl)
-- HungStreamsModel.nextNow ()I
abbrev kd_X7_nextNow : Nat := 7
theorem yd_X7_nextNow : (yX7_nextNow).cls ≠ "java/lang/invoke/MethodHandle" ∧ (yX7_nextNow).cls ≠ "java/lang/invoke/VarHandle" ∧ (parseMethodDescriptor (yX7_nextNow).desc).map (fun d => d.parameters.length) = some 0 := by decide +kernel
def fn_X7_nextNow (σ : qm_M)  : Option (Int32) :=
  if (lg_cmp (σ.2 211 (208 : Int32).toNatClampNeg) 0) = 0 then some (-1) else if (lg_cmp (σ.2 211 (211 : Int32).toNatClampNeg) 0) = 0 then (fn_X7_byTree σ ).bind (fun r4 => some r4) else (fn_X7_byUrgency σ ).bind (fun r3 => some r3)
set_option maxRecDepth 20000 in
theorem wf_X7_nextNow {l : Launch} {E : qm_E} (σ : qm_M)  {x : Int32} (h : fn_X7_nextNow σ  = some x) {r : Option Value × qm_M} (hT : (fun x r => (some (.int x), σ) = r) x r) : qm_Wp l E kd_X7_nextNow "HungStreamsModel" cX7_nextNow 1 0 [(0, .ref (qm_a E 210))] [] σ r := by
  unfold fn_X7_nextNow at h
  refine qr_aload_n dX7_nextNow_0 rfl 0 rfl ?_
  refine qr_get5 (k := 0) (v := .ref (qm_a E 211)) rfl (by decide) rfl qw_624 dX7_nextNow_1 ?_
  refine qr_sipush (v := 208) dX7_nextNow_4 (by decide) ?_
  refine qr_lald rfl (by unfold vp_in; decide) dX7_nextNow_7 ?_
  refine qr_lconst (v := 0) dX7_nextNow_8 (by decide) ?_
  refine qr_lcmp dX7_nextNow_9 ?_
  refine qr_if_ne (tgt := 17) dX7_nextNow_10 (by decide) (fun c6 => ?_) (fun c6 => ?_)
  · rw [if_neg c6] at h
    refine qr_aload_n dX7_nextNow_17 rfl 0 rfl ?_
    refine qr_get5 (k := 0) (v := .ref (qm_a E 211)) rfl (by decide) rfl qw_624 dX7_nextNow_18 ?_
    refine qr_sipush (v := 211) dX7_nextNow_21 (by decide) ?_
    refine qr_lald rfl (by unfold vp_in; decide) dX7_nextNow_24 ?_
    refine qr_lconst (v := 0) dX7_nextNow_25 (by decide) ?_
    refine qr_lcmp dX7_nextNow_26 ?_
    refine qr_if_ne (tgt := 37) dX7_nextNow_27 (by decide) (fun c5 => ?_) (fun c5 => ?_)
    · rw [if_neg c5] at h
      refine qr_aload_n dX7_nextNow_37 rfl 0 rfl ?_
      obtain ⟨r3, er3, h⟩ := qm_bind h
      refine qr_call1 (st1 := [.int r3]) rfl (qr_callV (id := 210) (c := 5) (As := []) (st := []) rfl (by decide) rfl (ct_X7_byUrgency (l := l) (E := E) σ  er3) qw_850 qw_6 qw_847 qw_849 qs_31 yd_X7_byUrgency (by decide) (by decide) rfl (Nat.le_of_ble_eq_true rfl) dX7_nextNow_38) ?_
      obtain rfl := Option.some.inj h
      cases hT
      exact qr_iret dX7_nextNow_41
    · rw [if_pos c5] at h
      refine qr_aload_n dX7_nextNow_30 rfl 0 rfl ?_
      obtain ⟨r4, er4, h⟩ := qm_bind h
      refine qr_call1 (st1 := [.int r4]) rfl (qr_callV (id := 210) (c := 5) (As := []) (st := []) rfl (by decide) rfl (ct_X7_byTree (l := l) (E := E) σ  er4) qw_834 qw_6 qw_831 qw_833 qs_27 yd_X7_byTree (by decide) (by decide) rfl (Nat.le_of_ble_eq_true rfl) dX7_nextNow_31) ?_
      refine qr_goto (tgt := 41) dX7_nextNow_34 (by decide) ?_
      obtain rfl := Option.some.inj h
      cases hT
      exact qr_iret dX7_nextNow_41
  · rw [if_pos c6] at h
    refine qr_iconst (v := (-1)) dX7_nextNow_13 (by decide) ?_
    refine qr_goto (tgt := 41) dX7_nextNow_14 (by decide) ?_
    obtain rfl := Option.some.inj h
    cases hT
    exact qr_iret dX7_nextNow_41
theorem ct_X7_nextNow {l : Launch} {E : qm_E} (σ : qm_M)  {x : Int32} (h : fn_X7_nextNow σ  = some x) : qm_Ct l E kd_X7_nextNow yX7_nextNow cX7_nextNow 1 (some .int) [.ref (qm_a E 210)] σ (some (.int x), σ) := qm_ofWp rfl (Nat.le_of_ble_eq_true rfl) (Or.inl rfl) (wf_X7_nextNow σ   h rfl)
-- HungStreamsModel.next ()I
abbrev kd_X7_next : Nat := 8
theorem yd_X7_next : (yX7_next).cls ≠ "java/lang/invoke/MethodHandle" ∧ (yX7_next).cls ≠ "java/lang/invoke/VarHandle" ∧ (parseMethodDescriptor (yX7_next).desc).map (fun d => d.parameters.length) = some 0 := by decide +kernel
def fn_X7_next (σ : qm_M)  : Option (Int32) :=
  (fn_X7_nextNow σ ).bind (fun r1 => some r1)
set_option maxRecDepth 20000 in
theorem wf_X7_next {l : Launch} {E : qm_E} (σ : qm_M)  {x : Int32} (h : fn_X7_next σ  = some x) {r : Option Value × qm_M} (hT : (fun x r => (some (.int x), σ) = r) x r) : qm_Wp l E kd_X7_next "HungStreamsModel" cX7_next 1 0 [(0, .ref (qm_a E 210))] [] σ r := by
  unfold fn_X7_next at h
  refine qr_aload_n dX7_next_0 rfl 0 rfl ?_
  obtain ⟨r1, er1, h⟩ := qm_bind h
  refine qr_call1 (st1 := [.int r1]) rfl (qr_callV (id := 210) (c := 5) (As := []) (st := []) rfl (by decide) rfl (ct_X7_nextNow (l := l) (E := E) σ  er1) qw_830 qw_6 qw_827 qw_829 qs_26 yd_X7_nextNow (by decide) (by decide) rfl (Nat.le_of_ble_eq_true rfl) dX7_next_1) ?_
  obtain rfl := Option.some.inj h
  cases hT
  exact qr_iret dX7_next_4
theorem ct_X7_next {l : Launch} {E : qm_E} (σ : qm_M)  {x : Int32} (h : fn_X7_next σ  = some x) : qm_Ct l E kd_X7_next yX7_next cX7_next 1 (some .int) [.ref (qm_a E 210)] σ (some (.int x), σ) := qm_ofWp rfl (Nat.le_of_ble_eq_true rfl) (Or.inl rfl) (wf_X7_next σ   h rfl)
-- HungStreamsModel.looks ()V
abbrev kd_X7_looks : Nat := 6
theorem yd_X7_looks : (yX7_looks).cls ≠ "java/lang/invoke/MethodHandle" ∧ (yX7_looks).cls ≠ "java/lang/invoke/VarHandle" ∧ (parseMethodDescriptor (yX7_looks).desc).map (fun d => d.parameters.length) = some 0 := by decide +kernel
abbrev pp_X7_looks_7 (l : Launch) (E : qm_E) (v1 : Int32) : (Int32 × qm_M) → Option Value × qm_M → Prop := fun s r => qm_Wp l E kd_X7_looks "HungStreamsModel" cX7_looks 3 7 [(0, .ref (qm_a E 210)), (1, .int v1), (2, .int s.1)] [] s.2 r
abbrev pp_X7_looks_42 (l : Launch) (E : qm_E) (v1 : Int32) : (Int32 × qm_M) → Option Value × qm_M → Prop := fun s r => qm_Wp l E kd_X7_looks "HungStreamsModel" cX7_looks 3 42 [(0, .ref (qm_a E 210)), (1, .int v1), (2, .int s.1)] [] s.2 r
def bb_X7_looks_42 (σ : qm_M) (v1 : Int32) (v2 : Int32) : Option ((Int32 × qm_M) ⊕ (qm_M)) :=
  if 12 < v2 then (some σ).bind (fun y => some (.inr y)) else (fn_X7_puts σ v2 15 (((v1 >>> (v2 &&& 31)) &&& 1).toInt64)).bind (fun r3 => (some (v2 + 1)).bind (fun z4 => some (.inl (z4, r3))))
set_option maxRecDepth 20000 in
theorem wb_X7_looks_42 {l : Launch} {E : qm_E} (σ : qm_M) (v1 : Int32) (v2 : Int32) {x : (Int32 × qm_M) ⊕ (qm_M)} (h : bb_X7_looks_42 σ v1 v2 = some x) {r : Option Value × qm_M} (hT : (qm_T (pp_X7_looks_42 l E v1) (fun x r => (none, x) = r)) x r) : qm_Wp l E kd_X7_looks "HungStreamsModel" cX7_looks 3 42 [(0, .ref (qm_a E 210)), (1, .int v1), (2, .int v2)] [] σ r := by
  unfold bb_X7_looks_42 at h
  refine qr_iload_n dX7_looks_42 rfl 2 rfl ?_
  refine qr_bipush (v := 12) dX7_looks_43 (by decide) ?_
  refine qr_icmp_gt (tgt := 67) dX7_looks_45 (by decide) (fun c5 => ?_) (fun c5 => ?_)
  · rw [if_pos c5] at h
    obtain ⟨y2, h1, hx⟩ := qm_bind h
    clear h
    cases hx
    have h := h1
    obtain rfl := Option.some.inj h
    cases hT
    exact qr_vret dX7_looks_67
  · rw [if_neg c5] at h
    refine qr_aload_n dX7_looks_48 rfl 0 rfl ?_
    refine qr_iload_n dX7_looks_49 rfl 2 rfl ?_
    refine qr_bipush (v := 15) dX7_looks_50 (by decide) ?_
    refine qr_iload_n dX7_looks_52 rfl 1 rfl ?_
    refine qr_iload_n dX7_looks_53 rfl 2 rfl ?_
    refine qr_ishr dX7_looks_54 ?_
    refine qr_iconst (v := 1) dX7_looks_55 (by decide) ?_
    refine qr_iand dX7_looks_56 ?_
    refine qr_i2l dX7_looks_57 ?_
    obtain ⟨r3, er3, h⟩ := qm_bind h
    refine qr_call1 (st1 := []) rfl (qr_callV (id := 210) (c := 5) (As := [.int v2, .int 15, .long (((v1 >>> (v2 &&& 31)) &&& 1).toInt64)]) (st := []) rfl (by decide) rfl (ct_X7_puts (l := l) (E := E) σ v2 15 (((v1 >>> (v2 &&& 31)) &&& 1).toInt64) er3) qw_713 qw_6 qw_710 qw_712 qs_12 yd_X7_puts (by decide) (by decide) rfl (Nat.le_of_ble_eq_true rfl) dX7_looks_58) ?_
    obtain ⟨z4, ez4, h⟩ := qm_bind h
    refine qr_iinc (q := 2) (v := z4) (lv' := [(2, .int z4), (0, .ref (qm_a E 210)), (1, .int v1)]) dX7_looks_61 rfl (Option.some.inj ez4) (by decide) rfl ?_
    refine qr_goto (tgt := 42) dX7_looks_64 (by decide) ?_
    obtain rfl := Option.some.inj h
    exact qr_sub [1, 2, 0] rfl hT
def lp_X7_looks_42 (σ : qm_M) (v1 : Int32) (v2 : Int32) : Option (qm_M) := qm_loop (fun s : Int32 × qm_M => bb_X7_looks_42 s.2 v1 s.1) 1000 (v2, σ)
theorem wl_X7_looks_42 {l : Launch} {E : qm_E} (σ : qm_M) (v1 : Int32) (v2 : Int32) {x : qm_M} (h : lp_X7_looks_42 σ v1 v2 = some x) {r : Option Value × qm_M} (hT : (fun x r => (none, x) = r) x r) : qm_Wp l E kd_X7_looks "HungStreamsModel" cX7_looks 3 42 [(0, .ref (qm_a E 210)), (1, .int v1), (2, .int v2)] [] σ r :=
  qm_loop_T (P := pp_X7_looks_42 l E v1) (T1 := (fun x r => (none, x) = r)) (fun s x h r hT => wb_X7_looks_42 (l := l) (E := E) s.2 v1 s.1  h hT) h hT
def bb_X7_looks_7 (σ : qm_M) (v1 : Int32) (v2 : Int32) : Option ((Int32 × qm_M) ⊕ (qm_M)) :=
  if 12 < v2 then (lp_X7_looks_42 σ v1 1).bind (fun y => some (.inr y)) else (fn_X7_isStream σ v2).bind (fun r7 => if (qm_b r7) = 0 then (some (v2 + 1)).bind (fun z8 => some (.inl (z8, σ))) else (fn_X7_turnThen σ v2 v1).bind (fun r9 => (fn_X7_puts σ v2 9 r9).bind (fun r10 => (some (v2 + 1)).bind (fun z11 => some (.inl (z11, r10))))))
set_option maxRecDepth 20000 in
theorem wb_X7_looks_7 {l : Launch} {E : qm_E} (σ : qm_M) (v1 : Int32) (v2 : Int32) {x : (Int32 × qm_M) ⊕ (qm_M)} (h : bb_X7_looks_7 σ v1 v2 = some x) {r : Option Value × qm_M} (hT : (qm_T (pp_X7_looks_7 l E v1) (fun x r => (none, x) = r)) x r) : qm_Wp l E kd_X7_looks "HungStreamsModel" cX7_looks 3 7 [(0, .ref (qm_a E 210)), (1, .int v1), (2, .int v2)] [] σ r := by
  unfold bb_X7_looks_7 at h
  refine qr_iload_n dX7_looks_7 rfl 2 rfl ?_
  refine qr_bipush (v := 12) dX7_looks_8 (by decide) ?_
  refine qr_icmp_gt (tgt := 40) dX7_looks_10 (by decide) (fun c13 => ?_) (fun c13 => ?_)
  · rw [if_pos c13] at h
    obtain ⟨y6, h1, hx⟩ := qm_bind h
    clear h
    cases hx
    have h := h1
    refine qr_iconst (v := 1) dX7_looks_40 (by decide) ?_
    refine qr_istore_n (lv' := [(2, .int 1), (0, .ref (qm_a E 210)), (1, .int v1)]) dX7_looks_41 rfl (by decide) rfl ?_
    exact qr_sub [1, 2, 0] rfl (wl_X7_looks_42 (l := l) (E := E) σ v1 1 h hT)
  · rw [if_neg c13] at h
    refine qr_aload_n dX7_looks_13 rfl 0 rfl ?_
    refine qr_iload_n dX7_looks_14 rfl 2 rfl ?_
    obtain ⟨r7, er7, h⟩ := qm_bind h
    refine qr_call1 (st1 := [.int (qm_b r7)]) rfl (qr_callV (id := 210) (c := 5) (As := [.int v2]) (st := []) rfl (by decide) rfl (ct_X7_isStream (l := l) (E := E) σ v2 er7) qw_692 qw_6 qw_689 qw_691 qs_7 yd_X7_isStream (by decide) (by decide) rfl (Nat.le_of_ble_eq_true rfl) dX7_looks_15) ?_
    refine qr_if_eq (tgt := 34) dX7_looks_18 (by decide) (fun c12 => ?_) (fun c12 => ?_)
    · rw [if_pos c12] at h
      obtain ⟨z8, ez8, h⟩ := qm_bind h
      refine qr_iinc (q := 2) (v := z8) (lv' := [(2, .int z8), (0, .ref (qm_a E 210)), (1, .int v1)]) dX7_looks_34 rfl (Option.some.inj ez8) (by decide) rfl ?_
      refine qr_goto (tgt := 7) dX7_looks_37 (by decide) ?_
      obtain rfl := Option.some.inj h
      exact qr_sub [1, 2, 0] rfl hT
    · rw [if_neg c12] at h
      refine qr_aload_n dX7_looks_21 rfl 0 rfl ?_
      refine qr_iload_n dX7_looks_22 rfl 2 rfl ?_
      refine qr_bipush (v := 9) dX7_looks_23 (by decide) ?_
      refine qr_aload_n dX7_looks_25 rfl 0 rfl ?_
      refine qr_iload_n dX7_looks_26 rfl 2 rfl ?_
      refine qr_iload_n dX7_looks_27 rfl 1 rfl ?_
      obtain ⟨r9, er9, h⟩ := qm_bind h
      refine qr_call1 (st1 := [.long r9, .int 9, .int v2, .ref (qm_a E 210)]) rfl (qr_callV (id := 210) (c := 5) (As := [.int v2, .int v1]) (st := [.int 9, .int v2, .ref (qm_a E 210)]) rfl (by decide) rfl (ct_X7_turnThen (l := l) (E := E) σ v2 v1 er9) qw_846 qw_6 qw_843 qw_845 qs_30 yd_X7_turnThen (by decide) (by decide) rfl (Nat.le_of_ble_eq_true rfl) dX7_looks_28) ?_
      obtain ⟨r10, er10, h⟩ := qm_bind h
      refine qr_call1 (st1 := []) rfl (qr_callV (id := 210) (c := 5) (As := [.int v2, .int 9, .long r9]) (st := []) rfl (by decide) rfl (ct_X7_puts (l := l) (E := E) σ v2 9 r9 er10) qw_713 qw_6 qw_710 qw_712 qs_12 yd_X7_puts (by decide) (by decide) rfl (Nat.le_of_ble_eq_true rfl) dX7_looks_31) ?_
      obtain ⟨z11, ez11, h⟩ := qm_bind h
      refine qr_iinc (q := 2) (v := z11) (lv' := [(2, .int z11), (0, .ref (qm_a E 210)), (1, .int v1)]) dX7_looks_34 rfl (Option.some.inj ez11) (by decide) rfl ?_
      refine qr_goto (tgt := 7) dX7_looks_37 (by decide) ?_
      obtain rfl := Option.some.inj h
      exact qr_sub [1, 2, 0] rfl hT
def lp_X7_looks_7 (σ : qm_M) (v1 : Int32) (v2 : Int32) : Option (qm_M) := qm_loop (fun s : Int32 × qm_M => bb_X7_looks_7 s.2 v1 s.1) 1000 (v2, σ)
theorem wl_X7_looks_7 {l : Launch} {E : qm_E} (σ : qm_M) (v1 : Int32) (v2 : Int32) {x : qm_M} (h : lp_X7_looks_7 σ v1 v2 = some x) {r : Option Value × qm_M} (hT : (fun x r => (none, x) = r) x r) : qm_Wp l E kd_X7_looks "HungStreamsModel" cX7_looks 3 7 [(0, .ref (qm_a E 210)), (1, .int v1), (2, .int v2)] [] σ r :=
  qm_loop_T (P := pp_X7_looks_7 l E v1) (T1 := (fun x r => (none, x) = r)) (fun s x h r hT => wb_X7_looks_7 (l := l) (E := E) s.2 v1 s.1  h hT) h hT
def fn_X7_looks (σ : qm_M)  : Option (qm_M) :=
  (fn_X7_liveSet σ ).bind (fun r1 => lp_X7_looks_7 σ r1 1)
set_option maxRecDepth 20000 in
theorem wf_X7_looks {l : Launch} {E : qm_E} (σ : qm_M)  {x : qm_M} (h : fn_X7_looks σ  = some x) {r : Option Value × qm_M} (hT : (fun x r => (none, x) = r) x r) : qm_Wp l E kd_X7_looks "HungStreamsModel" cX7_looks 3 0 [(0, .ref (qm_a E 210))] [] σ r := by
  unfold fn_X7_looks at h
  refine qr_aload_n dX7_looks_0 rfl 0 rfl ?_
  obtain ⟨r1, er1, h⟩ := qm_bind h
  refine qr_call1 (st1 := [.int r1]) rfl (qr_callV (id := 210) (c := 5) (As := []) (st := []) rfl (by decide) rfl (ct_X7_liveSet (l := l) (E := E) σ  er1) qw_838 qw_6 qw_835 qw_837 qs_28 yd_X7_liveSet (by decide) (by decide) rfl (Nat.le_of_ble_eq_true rfl) dX7_looks_1) ?_
  refine qr_istore_n (lv' := [(1, .int r1), (0, .ref (qm_a E 210))]) dX7_looks_4 rfl (by decide) rfl ?_
  refine qr_iconst (v := 1) dX7_looks_5 (by decide) ?_
  refine qr_istore_n (lv' := [(2, .int 1), (1, .int r1), (0, .ref (qm_a E 210))]) dX7_looks_6 rfl (by decide) rfl ?_
  exact qr_sub [2, 1, 0] rfl (wl_X7_looks_7 (l := l) (E := E) σ r1 1 h hT)
theorem ct_X7_looks {l : Launch} {E : qm_E} (σ : qm_M)  {x : qm_M} (h : fn_X7_looks σ  = some x) : qm_Ct l E kd_X7_looks yX7_looks cX7_looks 3 none [.ref (qm_a E 210)] σ (none, x) := qm_ofWp rfl (Nat.le_of_ble_eq_true rfl) (rfl) (wf_X7_looks σ   h rfl)
-- HungStreamsModel.bytesOf (I)J
abbrev kd_X7_bytesOf : Nat := 2
theorem yd_X7_bytesOf : (yX7_bytesOf).cls ≠ "java/lang/invoke/MethodHandle" ∧ (yX7_bytesOf).cls ≠ "java/lang/invoke/VarHandle" ∧ (parseMethodDescriptor (yX7_bytesOf).desc).map (fun d => d.parameters.length) = some 1 := by decide +kernel
def bb_X7_bytesOf_56 (σ : qm_M) (v1 : Int32) (k0 : Int64) : Option (Int64) :=
  (fn_X7_its σ v1 4).bind (fun r5 => if 0 ≤ (lg_cmp r5 k0) then some k0 else (fn_X7_its σ v1 4).bind (fun r6 => some r6))
set_option maxRecDepth 20000 in
theorem wb_X7_bytesOf_56 {l : Launch} {E : qm_E} (σ : qm_M) (v1 : Int32) (k0 : Int64) {x : Int64} (h : bb_X7_bytesOf_56 σ v1 k0 = some x) {r : Option Value × qm_M} (hT : (fun x r => (some (.long x), σ) = r) x r) : qm_Wp l E kd_X7_bytesOf "HungStreamsModel" cX7_bytesOf 4 56 [(0, .ref (qm_a E 210)), (1, .int v1)] [.long k0] σ r := by
  unfold bb_X7_bytesOf_56 at h
  refine qr_lstore_n (lv' := [(2, .long k0), (0, .ref (qm_a E 210)), (1, .int v1)]) dX7_bytesOf_56 rfl (by decide) rfl ?_
  refine qr_aload_n dX7_bytesOf_57 rfl 1 rfl ?_
  refine qr_iload_n dX7_bytesOf_58 rfl 2 rfl ?_
  refine qr_iconst (v := 4) dX7_bytesOf_59 (by decide) ?_
  obtain ⟨r5, er5, h⟩ := qm_bind h
  refine qr_call1 (st1 := [.long r5]) rfl (qr_callV (id := 210) (c := 5) (As := [.int v1, .int 4]) (st := []) rfl (by decide) rfl (ct_X7_its (l := l) (E := E) σ v1 4 er5) qw_696 qw_6 qw_693 qw_695 qs_8 yd_X7_its (by decide) (by decide) rfl (Nat.le_of_ble_eq_true rfl) dX7_bytesOf_60) ?_
  refine qr_lload_n dX7_bytesOf_63 rfl 0 rfl ?_
  refine qr_lcmp dX7_bytesOf_64 ?_
  refine qr_if_ge (tgt := 77) dX7_bytesOf_65 (by decide) (fun c7 => ?_) (fun c7 => ?_)
  · rw [if_pos c7] at h
    refine qr_lload_n dX7_bytesOf_77 rfl 0 rfl ?_
    obtain rfl := Option.some.inj h
    cases hT
    exact qr_lret dX7_bytesOf_78
  · rw [if_neg c7] at h
    refine qr_aload_n dX7_bytesOf_68 rfl 1 rfl ?_
    refine qr_iload_n dX7_bytesOf_69 rfl 2 rfl ?_
    refine qr_iconst (v := 4) dX7_bytesOf_70 (by decide) ?_
    obtain ⟨r6, er6, h⟩ := qm_bind h
    refine qr_call1 (st1 := [.long r6]) rfl (qr_callV (id := 210) (c := 5) (As := [.int v1, .int 4]) (st := []) rfl (by decide) rfl (ct_X7_its (l := l) (E := E) σ v1 4 er6) qw_696 qw_6 qw_693 qw_695 qs_8 yd_X7_its (by decide) (by decide) rfl (Nat.le_of_ble_eq_true rfl) dX7_bytesOf_71) ?_
    refine qr_goto (tgt := 78) dX7_bytesOf_74 (by decide) ?_
    obtain rfl := Option.some.inj h
    cases hT
    exact qr_lret dX7_bytesOf_78
def bb_X7_bytesOf_34 (σ : qm_M) (v1 : Int32) (k0 : Int64) : Option (Int64) :=
  (fn_X7_its σ v1 3).bind (fun r4 => if 0 ≤ (lg_cmp r4 k0) then bb_X7_bytesOf_56 σ v1 k0 else (fn_X7_its σ v1 3).bind (fun r8 => bb_X7_bytesOf_56 σ v1 r8))
set_option maxRecDepth 20000 in
theorem wb_X7_bytesOf_34 {l : Launch} {E : qm_E} (σ : qm_M) (v1 : Int32) (k0 : Int64) {x : Int64} (h : bb_X7_bytesOf_34 σ v1 k0 = some x) {r : Option Value × qm_M} (hT : (fun x r => (some (.long x), σ) = r) x r) : qm_Wp l E kd_X7_bytesOf "HungStreamsModel" cX7_bytesOf 4 34 [(0, .ref (qm_a E 210)), (1, .int v1)] [.long k0] σ r := by
  unfold bb_X7_bytesOf_34 at h
  refine qr_lstore_n (lv' := [(2, .long k0), (0, .ref (qm_a E 210)), (1, .int v1)]) dX7_bytesOf_34 rfl (by decide) rfl ?_
  refine qr_aload_n dX7_bytesOf_35 rfl 1 rfl ?_
  refine qr_iload_n dX7_bytesOf_36 rfl 2 rfl ?_
  refine qr_iconst (v := 3) dX7_bytesOf_37 (by decide) ?_
  obtain ⟨r4, er4, h⟩ := qm_bind h
  refine qr_call1 (st1 := [.long r4]) rfl (qr_callV (id := 210) (c := 5) (As := [.int v1, .int 3]) (st := []) rfl (by decide) rfl (ct_X7_its (l := l) (E := E) σ v1 3 er4) qw_696 qw_6 qw_693 qw_695 qs_8 yd_X7_its (by decide) (by decide) rfl (Nat.le_of_ble_eq_true rfl) dX7_bytesOf_38) ?_
  refine qr_lload_n dX7_bytesOf_41 rfl 0 rfl ?_
  refine qr_lcmp dX7_bytesOf_42 ?_
  refine qr_if_ge (tgt := 55) dX7_bytesOf_43 (by decide) (fun c9 => ?_) (fun c9 => ?_)
  · rw [if_pos c9] at h
    refine qr_lload_n dX7_bytesOf_55 rfl 0 rfl ?_
    exact qr_sub [1, 2] rfl (wb_X7_bytesOf_56 (l := l) (E := E) σ v1 k0 h hT)
  · rw [if_neg c9] at h
    refine qr_aload_n dX7_bytesOf_46 rfl 1 rfl ?_
    refine qr_iload_n dX7_bytesOf_47 rfl 2 rfl ?_
    refine qr_iconst (v := 3) dX7_bytesOf_48 (by decide) ?_
    obtain ⟨r8, er8, h⟩ := qm_bind h
    refine qr_call1 (st1 := [.long r8]) rfl (qr_callV (id := 210) (c := 5) (As := [.int v1, .int 3]) (st := []) rfl (by decide) rfl (ct_X7_its (l := l) (E := E) σ v1 3 er8) qw_696 qw_6 qw_693 qw_695 qs_8 yd_X7_its (by decide) (by decide) rfl (Nat.le_of_ble_eq_true rfl) dX7_bytesOf_49) ?_
    refine qr_goto (tgt := 56) dX7_bytesOf_52 (by decide) ?_
    exact qr_sub [1, 2] rfl (wb_X7_bytesOf_56 (l := l) (E := E) σ v1 r8 h hT)
def fn_X7_bytesOf (σ : qm_M) (v1 : Int32) : Option (Int64) :=
  (some (σ.2 211 (209 : Int32).toNatClampNeg)).bind (fun z2 => if 0 ≤ (lg_cmp (σ.2 211 (208 : Int32).toNatClampNeg) z2) then bb_X7_bytesOf_34 σ v1 z2 else bb_X7_bytesOf_34 σ v1 (σ.2 211 (208 : Int32).toNatClampNeg))
set_option maxRecDepth 20000 in
theorem wf_X7_bytesOf {l : Launch} {E : qm_E} (σ : qm_M) (v1 : Int32) {x : Int64} (h : fn_X7_bytesOf σ v1 = some x) {r : Option Value × qm_M} (hT : (fun x r => (some (.long x), σ) = r) x r) : qm_Wp l E kd_X7_bytesOf "HungStreamsModel" cX7_bytesOf 4 0 [(0, .ref (qm_a E 210)), (1, .int v1)] [] σ r := by
  unfold fn_X7_bytesOf at h
  refine qr_aload_n dX7_bytesOf_0 rfl 0 rfl ?_
  refine qr_get5 (k := 0) (v := .ref (qm_a E 211)) rfl (by decide) rfl qw_624 dX7_bytesOf_1 ?_
  refine qr_sipush (v := 209) dX7_bytesOf_4 (by decide) ?_
  refine qr_lald rfl (by unfold vp_in; decide) dX7_bytesOf_7 ?_
  obtain ⟨z2, ez2, h⟩ := qm_bind h
  refine qr_eqj (Option.some.inj ez2) ?_
  refine qr_lstore_n (lv' := [(2, .long z2), (0, .ref (qm_a E 210)), (1, .int v1)]) dX7_bytesOf_8 rfl (by decide) rfl ?_
  refine qr_aload_n dX7_bytesOf_9 rfl 1 rfl ?_
  refine qr_get5 (k := 0) (v := .ref (qm_a E 211)) rfl (by decide) rfl qw_624 dX7_bytesOf_10 ?_
  refine qr_sipush (v := 208) dX7_bytesOf_13 (by decide) ?_
  refine qr_lald rfl (by unfold vp_in; decide) dX7_bytesOf_16 ?_
  refine qr_lload_n dX7_bytesOf_17 rfl 0 rfl ?_
  refine qr_lcmp dX7_bytesOf_18 ?_
  refine qr_if_ge (tgt := 33) dX7_bytesOf_19 (by decide) (fun c11 => ?_) (fun c11 => ?_)
  · rw [if_pos c11] at h
    refine qr_lload_n dX7_bytesOf_33 rfl 0 rfl ?_
    exact qr_sub [1, 2] rfl (wb_X7_bytesOf_34 (l := l) (E := E) σ v1 z2 h hT)
  · rw [if_neg c11] at h
    refine qr_aload_n dX7_bytesOf_22 rfl 1 rfl ?_
    refine qr_get5 (k := 0) (v := .ref (qm_a E 211)) rfl (by decide) rfl qw_624 dX7_bytesOf_23 ?_
    refine qr_sipush (v := 208) dX7_bytesOf_26 (by decide) ?_
    refine qr_lald rfl (by unfold vp_in; decide) dX7_bytesOf_29 ?_
    refine qr_goto (tgt := 34) dX7_bytesOf_30 (by decide) ?_
    exact qr_sub [1, 2] rfl (wb_X7_bytesOf_34 (l := l) (E := E) σ v1 (σ.2 211 (208 : Int32).toNatClampNeg) h hT)
theorem ct_X7_bytesOf {l : Launch} {E : qm_E} (σ : qm_M) (v1 : Int32) {x : Int64} (h : fn_X7_bytesOf σ v1 = some x) : qm_Ct l E kd_X7_bytesOf yX7_bytesOf cX7_bytesOf 4 (some .long) [.ref (qm_a E 210), .int v1] σ (some (.long x), σ) := qm_ofWp rfl (Nat.le_of_ble_eq_true rfl) (rfl) (wf_X7_bytesOf σ v1  h rfl)
-- HungStreamsModel.turns (IJ)V
abbrev kd_X7_turns : Nat := 3
theorem yd_X7_turns : (yX7_turns).cls ≠ "java/lang/invoke/MethodHandle" ∧ (yX7_turns).cls ≠ "java/lang/invoke/VarHandle" ∧ (parseMethodDescriptor (yX7_turns).desc).map (fun d => d.parameters.length) = some 2 := by decide +kernel
abbrev pp_X7_turns_3 (l : Launch) (E : qm_E) (v2 : Int64) : (Int32 × qm_M) → Option Value × qm_M → Prop := fun s r => qm_Wp l E kd_X7_turns "HungStreamsModel" cX7_turns 5 3 [(0, .ref (qm_a E 210)), (2, .long v2), (4, .int s.1)] [] s.2 r
def bb_X7_turns_3 (σ : qm_M) (v2 : Int64) (v4 : Int32) : Option ((Int32 × qm_M) ⊕ (qm_M)) :=
  if v4 = 0 then (some σ).bind (fun y => some (.inr y)) else (fn_X7_parent σ v4).bind (fun r2 => (fn_X7_its σ v4 9).bind (fun r3 => (fn_X7_puts σ r2 10 r3).bind (fun r4 => (fn_X7_its r4 v4 9).bind (fun r5 => (fn_X7_its r4 v4 2).bind (fun r6 => if ¬ r6 = 0 then (fn_X7_puts r4 v4 9 (r5 + ((v2 * 720720) / r6))).bind (fun r8 => (fn_X7_parent r8 v4).bind (fun r9 => some (.inl (r9, r8)))) else none)))))
set_option maxRecDepth 20000 in
theorem wb_X7_turns_3 {l : Launch} {E : qm_E} (σ : qm_M) (v2 : Int64) (v4 : Int32) {x : (Int32 × qm_M) ⊕ (qm_M)} (h : bb_X7_turns_3 σ v2 v4 = some x) {r : Option Value × qm_M} (hT : (qm_T (pp_X7_turns_3 l E v2) (fun x r => (none, x) = r)) x r) : qm_Wp l E kd_X7_turns "HungStreamsModel" cX7_turns 5 3 [(0, .ref (qm_a E 210)), (2, .long v2), (4, .int v4)] [] σ r := by
  unfold bb_X7_turns_3 at h
  refine qr_iload dX7_turns_3 2 rfl ?_
  refine qr_if_eq (tgt := 69) dX7_turns_5 (by decide) (fun c10 => ?_) (fun c10 => ?_)
  · rw [if_pos c10] at h
    obtain ⟨y1, h1, hx⟩ := qm_bind h
    clear h
    cases hx
    have h := h1
    obtain rfl := Option.some.inj h
    cases hT
    exact qr_vret dX7_turns_69
  · rw [if_neg c10] at h
    refine qr_aload_n dX7_turns_8 rfl 0 rfl ?_
    refine qr_aload_n dX7_turns_9 rfl 0 rfl ?_
    refine qr_iload dX7_turns_10 2 rfl ?_
    obtain ⟨r2, er2, h⟩ := qm_bind h
    refine qr_call1 (st1 := [.int r2, .ref (qm_a E 210)]) rfl (qr_callV (id := 210) (c := 5) (As := [.int v4]) (st := [.ref (qm_a E 210)]) rfl (by decide) rfl (ct_X7_parent (l := l) (E := E) σ v4 er2) qw_727 qw_6 qw_724 qw_726 qs_15 yd_X7_parent (by decide) (by decide) rfl (Nat.le_of_ble_eq_true rfl) dX7_turns_12) ?_
    refine qr_bipush (v := 10) dX7_turns_15 (by decide) ?_
    refine qr_aload_n dX7_turns_17 rfl 0 rfl ?_
    refine qr_iload dX7_turns_18 2 rfl ?_
    refine qr_bipush (v := 9) dX7_turns_20 (by decide) ?_
    obtain ⟨r3, er3, h⟩ := qm_bind h
    refine qr_call1 (st1 := [.long r3, .int 10, .int r2, .ref (qm_a E 210)]) rfl (qr_callV (id := 210) (c := 5) (As := [.int v4, .int 9]) (st := [.int 10, .int r2, .ref (qm_a E 210)]) rfl (by decide) rfl (ct_X7_its (l := l) (E := E) σ v4 9 er3) qw_696 qw_6 qw_693 qw_695 qs_8 yd_X7_its (by decide) (by decide) rfl (Nat.le_of_ble_eq_true rfl) dX7_turns_22) ?_
    obtain ⟨r4, er4, h⟩ := qm_bind h
    refine qr_call1 (st1 := []) rfl (qr_callV (id := 210) (c := 5) (As := [.int r2, .int 10, .long r3]) (st := []) rfl (by decide) rfl (ct_X7_puts (l := l) (E := E) σ r2 10 r3 er4) qw_713 qw_6 qw_710 qw_712 qs_12 yd_X7_puts (by decide) (by decide) rfl (Nat.le_of_ble_eq_true rfl) dX7_turns_25) ?_
    refine qr_aload_n dX7_turns_28 rfl 0 rfl ?_
    refine qr_iload dX7_turns_29 2 rfl ?_
    refine qr_bipush (v := 9) dX7_turns_31 (by decide) ?_
    refine qr_aload_n dX7_turns_33 rfl 0 rfl ?_
    refine qr_iload dX7_turns_34 2 rfl ?_
    refine qr_bipush (v := 9) dX7_turns_36 (by decide) ?_
    obtain ⟨r5, er5, h⟩ := qm_bind h
    refine qr_call1 (st1 := [.long r5, .int 9, .int v4, .ref (qm_a E 210)]) rfl (qr_callV (id := 210) (c := 5) (As := [.int v4, .int 9]) (st := [.int 9, .int v4, .ref (qm_a E 210)]) rfl (by decide) rfl (ct_X7_its (l := l) (E := E) r4 v4 9 er5) qw_696 qw_6 qw_693 qw_695 qs_8 yd_X7_its (by decide) (by decide) rfl (Nat.le_of_ble_eq_true rfl) dX7_turns_38) ?_
    refine qr_lload_n dX7_turns_41 rfl 1 rfl ?_
    refine qr_ldc2 qw_879 dX7_turns_42 ?_
    refine qr_lmul dX7_turns_45 ?_
    refine qr_aload_n dX7_turns_46 rfl 0 rfl ?_
    refine qr_iload dX7_turns_47 2 rfl ?_
    refine qr_iconst (v := 2) dX7_turns_49 (by decide) ?_
    obtain ⟨r6, er6, h⟩ := qm_bind h
    refine qr_call1 (st1 := [.long r6, .long (v2 * 720720), .long r5, .int 9, .int v4, .ref (qm_a E 210)]) rfl (qr_callV (id := 210) (c := 5) (As := [.int v4, .int 2]) (st := [.long (v2 * 720720), .long r5, .int 9, .int v4, .ref (qm_a E 210)]) rfl (by decide) rfl (ct_X7_its (l := l) (E := E) r4 v4 2 er6) qw_696 qw_6 qw_693 qw_695 qs_8 yd_X7_its (by decide) (by decide) rfl (Nat.le_of_ble_eq_true rfl) dX7_turns_50) ?_
    obtain ⟨c7, h⟩ := qm_chk h
    refine qr_ldiv dX7_turns_53 c7 ?_
    refine qr_ladd dX7_turns_54 ?_
    obtain ⟨r8, er8, h⟩ := qm_bind h
    refine qr_call1 (st1 := []) rfl (qr_callV (id := 210) (c := 5) (As := [.int v4, .int 9, .long (r5 + ((v2 * 720720) / r6))]) (st := []) rfl (by decide) rfl (ct_X7_puts (l := l) (E := E) r4 v4 9 (r5 + ((v2 * 720720) / r6)) er8) qw_713 qw_6 qw_710 qw_712 qs_12 yd_X7_puts (by decide) (by decide) rfl (Nat.le_of_ble_eq_true rfl) dX7_turns_55) ?_
    refine qr_aload_n dX7_turns_58 rfl 0 rfl ?_
    refine qr_iload dX7_turns_59 2 rfl ?_
    obtain ⟨r9, er9, h⟩ := qm_bind h
    refine qr_call1 (st1 := [.int r9]) rfl (qr_callV (id := 210) (c := 5) (As := [.int v4]) (st := []) rfl (by decide) rfl (ct_X7_parent (l := l) (E := E) r8 v4 er9) qw_727 qw_6 qw_724 qw_726 qs_15 yd_X7_parent (by decide) (by decide) rfl (Nat.le_of_ble_eq_true rfl) dX7_turns_61) ?_
    refine qr_istore (lv' := [(4, .int r9), (0, .ref (qm_a E 210)), (2, .long v2)]) dX7_turns_64 (by decide) rfl ?_
    refine qr_goto (tgt := 3) dX7_turns_66 (by decide) ?_
    obtain rfl := Option.some.inj h
    exact qr_sub [1, 2, 0] rfl hT
def lp_X7_turns_3 (σ : qm_M) (v2 : Int64) (v4 : Int32) : Option (qm_M) := qm_loop (fun s : Int32 × qm_M => bb_X7_turns_3 s.2 v2 s.1) 1000 (v4, σ)
theorem wl_X7_turns_3 {l : Launch} {E : qm_E} (σ : qm_M) (v2 : Int64) (v4 : Int32) {x : qm_M} (h : lp_X7_turns_3 σ v2 v4 = some x) {r : Option Value × qm_M} (hT : (fun x r => (none, x) = r) x r) : qm_Wp l E kd_X7_turns "HungStreamsModel" cX7_turns 5 3 [(0, .ref (qm_a E 210)), (2, .long v2), (4, .int v4)] [] σ r :=
  qm_loop_T (P := pp_X7_turns_3 l E v2) (T1 := (fun x r => (none, x) = r)) (fun s x h r hT => wb_X7_turns_3 (l := l) (E := E) s.2 v2 s.1  h hT) h hT
def fn_X7_turns (σ : qm_M) (v1 : Int32) (v2 : Int64) : Option (qm_M) :=
  lp_X7_turns_3 σ v2 v1
set_option maxRecDepth 20000 in
theorem wf_X7_turns {l : Launch} {E : qm_E} (σ : qm_M) (v1 : Int32) (v2 : Int64) {x : qm_M} (h : fn_X7_turns σ v1 v2 = some x) {r : Option Value × qm_M} (hT : (fun x r => (none, x) = r) x r) : qm_Wp l E kd_X7_turns "HungStreamsModel" cX7_turns 5 0 [(0, .ref (qm_a E 210)), (1, .int v1), (2, .long v2)] [] σ r := by
  unfold fn_X7_turns at h
  refine qr_iload_n dX7_turns_0 rfl 1 rfl ?_
  refine qr_istore (lv' := [(4, .int v1), (0, .ref (qm_a E 210)), (1, .int v1), (2, .long v2)]) dX7_turns_1 (by decide) rfl ?_
  exact qr_sub [1, 3, 0] rfl (wl_X7_turns_3 (l := l) (E := E) σ v2 v1 h hT)
theorem ct_X7_turns {l : Launch} {E : qm_E} (σ : qm_M) (v1 : Int32) (v2 : Int64) {x : qm_M} (h : fn_X7_turns σ v1 v2 = some x) : qm_Ct l E kd_X7_turns yX7_turns cX7_turns 5 none [.ref (qm_a E 210), .int v1, .long v2] σ (none, x) := qm_ofWp rfl (Nat.le_of_ble_eq_true rfl) (rfl) (wf_X7_turns σ v1 v2  h rfl)
-- HungStreamsModel.isSent ()Z
abbrev kd_X7_isSent : Nat := 8
theorem yd_X7_isSent : (yX7_isSent).cls ≠ "java/lang/invoke/MethodHandle" ∧ (yX7_isSent).cls ≠ "java/lang/invoke/VarHandle" ∧ (parseMethodDescriptor (yX7_isSent).desc).map (fun d => d.parameters.length) = some 0 := by decide +kernel
abbrev pp_X7_isSent_151 (l : Launch) (E : qm_E) (v1 : Int32) (v2 : Int32) : (Int32 × qm_M) → Option Value × qm_M → Prop := fun s r => qm_Wp l E kd_X7_isSent "HungStreamsModel" cX7_isSent 8 151 [(0, .ref (qm_a E 210)), (1, .int v1), (2, .int v2), (5, .int s.1)] [] s.2 r
abbrev pp_X7_isSent_244 (l : Launch) (E : qm_E) : (Int32 × qm_M) → Option Value × qm_M → Prop := fun s r => qm_Wp l E kd_X7_isSent "HungStreamsModel" cX7_isSent 8 244 [(0, .ref (qm_a E 210)), (5, .int s.1)] [] s.2 r
def bb_X7_isSent_244 (σ : qm_M) (v5 : Int32) : Option ((Int32 × qm_M) ⊕ (Bool × qm_M)) :=
  if 12 < v5 then ((fn_X7_goesAll σ ).bind (fun r24 => some (true, r24))).bind (fun y => some (.inr y)) else (fn_X7_isStream σ v5).bind (fun r26 => if (qm_b r26) = 0 then (some (v5 + 1)).bind (fun z27 => some (.inl (z27, σ))) else (fn_X7_its σ v5 7).bind (fun r28 => if (lg_cmp r28 0) = 0 then (fn_X7_its σ v5 8).bind (fun r30 => (fn_X7_puts σ v5 8 (r30 + 1)).bind (fun r31 => (some (v5 + 1)).bind (fun z32 => some (.inl (z32, r31))))) else (some (v5 + 1)).bind (fun z29 => some (.inl (z29, σ)))))
set_option maxRecDepth 20000 in
theorem wb_X7_isSent_244 {l : Launch} {E : qm_E} (σ : qm_M) (v5 : Int32) {x : (Int32 × qm_M) ⊕ (Bool × qm_M)} (h : bb_X7_isSent_244 σ v5 = some x) {r : Option Value × qm_M} (hT : (qm_T (pp_X7_isSent_244 l E) (fun x r => (some (.int (qm_b x.1)), x.2) = r)) x r) : qm_Wp l E kd_X7_isSent "HungStreamsModel" cX7_isSent 8 244 [(0, .ref (qm_a E 210)), (5, .int v5)] [] σ r := by
  unfold bb_X7_isSent_244 at h
  refine qr_iload dX7_isSent_244 1 rfl ?_
  refine qr_bipush (v := 12) dX7_isSent_246 (by decide) ?_
  refine qr_icmp_gt (tgt := 297) dX7_isSent_248 (by decide) (fun c35 => ?_) (fun c35 => ?_)
  · rw [if_pos c35] at h
    obtain ⟨y25, h1, hx⟩ := qm_bind h
    clear h
    cases hx
    have h := h1
    refine qr_aload_n dX7_isSent_297 rfl 0 rfl ?_
    obtain ⟨r24, er24, h⟩ := qm_bind h
    refine qr_call1 (st1 := []) rfl (qr_callV (id := 210) (c := 5) (As := []) (st := []) rfl (by decide) rfl (ct_X7_goesAll (l := l) (E := E) σ  er24) qw_762 qw_6 qw_759 qw_761 qs_19 yd_X7_goesAll (by decide) (by decide) rfl (Nat.le_of_ble_eq_true rfl) dX7_isSent_298) ?_
    refine qr_iconst (v := 1) dX7_isSent_301 (by decide) ?_
    obtain rfl := Option.some.inj h
    cases hT
    exact qr_iret dX7_isSent_302
  · rw [if_neg c35] at h
    refine qr_aload_n dX7_isSent_251 rfl 0 rfl ?_
    refine qr_iload dX7_isSent_252 1 rfl ?_
    obtain ⟨r26, er26, h⟩ := qm_bind h
    refine qr_call1 (st1 := [.int (qm_b r26)]) rfl (qr_callV (id := 210) (c := 5) (As := [.int v5]) (st := []) rfl (by decide) rfl (ct_X7_isStream (l := l) (E := E) σ v5 er26) qw_692 qw_6 qw_689 qw_691 qs_7 yd_X7_isStream (by decide) (by decide) rfl (Nat.le_of_ble_eq_true rfl) dX7_isSent_254) ?_
    refine qr_if_eq (tgt := 291) dX7_isSent_257 (by decide) (fun c34 => ?_) (fun c34 => ?_)
    · rw [if_pos c34] at h
      obtain ⟨z27, ez27, h⟩ := qm_bind h
      refine qr_iinc (q := 1) (v := z27) (lv' := [(5, .int z27), (0, .ref (qm_a E 210))]) dX7_isSent_291 rfl (Option.some.inj ez27) (by decide) rfl ?_
      refine qr_goto (tgt := 244) dX7_isSent_294 (by decide) ?_
      obtain rfl := Option.some.inj h
      exact qr_sub [1, 0] rfl hT
    · rw [if_neg c34] at h
      refine qr_aload_n dX7_isSent_260 rfl 0 rfl ?_
      refine qr_iload dX7_isSent_261 1 rfl ?_
      refine qr_bipush (v := 7) dX7_isSent_263 (by decide) ?_
      obtain ⟨r28, er28, h⟩ := qm_bind h
      refine qr_call1 (st1 := [.long r28]) rfl (qr_callV (id := 210) (c := 5) (As := [.int v5, .int 7]) (st := []) rfl (by decide) rfl (ct_X7_its (l := l) (E := E) σ v5 7 er28) qw_696 qw_6 qw_693 qw_695 qs_8 yd_X7_its (by decide) (by decide) rfl (Nat.le_of_ble_eq_true rfl) dX7_isSent_265) ?_
      refine qr_lconst (v := 0) dX7_isSent_268 (by decide) ?_
      refine qr_lcmp dX7_isSent_269 ?_
      refine qr_if_ne (tgt := 291) dX7_isSent_270 (by decide) (fun c33 => ?_) (fun c33 => ?_)
      · rw [if_neg c33] at h
        obtain ⟨z29, ez29, h⟩ := qm_bind h
        refine qr_iinc (q := 1) (v := z29) (lv' := [(5, .int z29), (0, .ref (qm_a E 210))]) dX7_isSent_291 rfl (Option.some.inj ez29) (by decide) rfl ?_
        refine qr_goto (tgt := 244) dX7_isSent_294 (by decide) ?_
        obtain rfl := Option.some.inj h
        exact qr_sub [1, 0] rfl hT
      · rw [if_pos c33] at h
        refine qr_aload_n dX7_isSent_273 rfl 0 rfl ?_
        refine qr_iload dX7_isSent_274 1 rfl ?_
        refine qr_bipush (v := 8) dX7_isSent_276 (by decide) ?_
        refine qr_aload_n dX7_isSent_278 rfl 0 rfl ?_
        refine qr_iload dX7_isSent_279 1 rfl ?_
        refine qr_bipush (v := 8) dX7_isSent_281 (by decide) ?_
        obtain ⟨r30, er30, h⟩ := qm_bind h
        refine qr_call1 (st1 := [.long r30, .int 8, .int v5, .ref (qm_a E 210)]) rfl (qr_callV (id := 210) (c := 5) (As := [.int v5, .int 8]) (st := [.int 8, .int v5, .ref (qm_a E 210)]) rfl (by decide) rfl (ct_X7_its (l := l) (E := E) σ v5 8 er30) qw_696 qw_6 qw_693 qw_695 qs_8 yd_X7_its (by decide) (by decide) rfl (Nat.le_of_ble_eq_true rfl) dX7_isSent_283) ?_
        refine qr_lconst (v := 1) dX7_isSent_286 (by decide) ?_
        refine qr_ladd dX7_isSent_287 ?_
        obtain ⟨r31, er31, h⟩ := qm_bind h
        refine qr_call1 (st1 := []) rfl (qr_callV (id := 210) (c := 5) (As := [.int v5, .int 8, .long (r30 + 1)]) (st := []) rfl (by decide) rfl (ct_X7_puts (l := l) (E := E) σ v5 8 (r30 + 1) er31) qw_713 qw_6 qw_710 qw_712 qs_12 yd_X7_puts (by decide) (by decide) rfl (Nat.le_of_ble_eq_true rfl) dX7_isSent_288) ?_
        obtain ⟨z32, ez32, h⟩ := qm_bind h
        refine qr_iinc (q := 1) (v := z32) (lv' := [(5, .int z32), (0, .ref (qm_a E 210))]) dX7_isSent_291 rfl (Option.some.inj ez32) (by decide) rfl ?_
        refine qr_goto (tgt := 244) dX7_isSent_294 (by decide) ?_
        obtain rfl := Option.some.inj h
        exact qr_sub [1, 0] rfl hT
def lp_X7_isSent_244 (σ : qm_M) (v5 : Int32) : Option (Bool × qm_M) := qm_loop (fun s : Int32 × qm_M => bb_X7_isSent_244 s.2 s.1) 1000 (v5, σ)
theorem wl_X7_isSent_244 {l : Launch} {E : qm_E} (σ : qm_M) (v5 : Int32) {x : Bool × qm_M} (h : lp_X7_isSent_244 σ v5 = some x) {r : Option Value × qm_M} (hT : (fun x r => (some (.int (qm_b x.1)), x.2) = r) x r) : qm_Wp l E kd_X7_isSent "HungStreamsModel" cX7_isSent 8 244 [(0, .ref (qm_a E 210)), (5, .int v5)] [] σ r :=
  qm_loop_T (P := pp_X7_isSent_244 l E) (T1 := (fun x r => (some (.int (qm_b x.1)), x.2) = r)) (fun s x h r hT => wb_X7_isSent_244 (l := l) (E := E) s.2 s.1  h hT) h hT
def bb_X7_isSent_188 (σ : qm_M) (v1 : Int32) (v2 : Int32) (v5 : Int32) (k0 : Int64) : Option ((Int32 × qm_M) ⊕ (Bool × qm_M)) :=
  (fn_X7_puts σ v5 12 k0).bind (fun r39 => (fn_X7_its r39 v5 13).bind (fun r40 => if (lg_cmp k0 r40) ≤ 0 then (fn_X7_its r39 v5 13).bind (fun r41 => (fn_X7_puts r39 v5 13 r41).bind (fun r42 => (some (v5 + 1)).bind (fun z43 => some (.inl (z43, r42))))) else (fn_X7_puts r39 v5 13 k0).bind (fun r44 => (some (v5 + 1)).bind (fun z45 => some (.inl (z45, r44))))))
set_option maxRecDepth 20000 in
theorem wb_X7_isSent_188 {l : Launch} {E : qm_E} (σ : qm_M) (v1 : Int32) (v2 : Int32) (v5 : Int32) (k0 : Int64) {x : (Int32 × qm_M) ⊕ (Bool × qm_M)} (h : bb_X7_isSent_188 σ v1 v2 v5 k0 = some x) {r : Option Value × qm_M} (hT : (qm_T (pp_X7_isSent_151 l E v1 v2) (fun x r => (some (.int (qm_b x.1)), x.2) = r)) x r) : qm_Wp l E kd_X7_isSent "HungStreamsModel" cX7_isSent 8 188 [(0, .ref (qm_a E 210)), (1, .int v1), (2, .int v2), (5, .int v5)] [.long k0] σ r := by
  unfold bb_X7_isSent_188 at h
  refine qr_lstore (lv' := [(6, .long k0), (0, .ref (qm_a E 210)), (1, .int v1), (2, .int v2), (5, .int v5)]) dX7_isSent_188 (by decide) rfl ?_
  refine qr_aload_n dX7_isSent_190 rfl 1 rfl ?_
  refine qr_iload dX7_isSent_191 4 rfl ?_
  refine qr_bipush (v := 12) dX7_isSent_193 (by decide) ?_
  refine qr_lload dX7_isSent_195 0 rfl ?_
  obtain ⟨r39, er39, h⟩ := qm_bind h
  refine qr_call1 (st1 := []) rfl (qr_callV (id := 210) (c := 5) (As := [.int v5, .int 12, .long k0]) (st := []) rfl (by decide) rfl (ct_X7_puts (l := l) (E := E) σ v5 12 k0 er39) qw_713 qw_6 qw_710 qw_712 qs_12 yd_X7_puts (by decide) (by decide) rfl (Nat.le_of_ble_eq_true rfl) dX7_isSent_197) ?_
  refine qr_aload_n dX7_isSent_200 rfl 1 rfl ?_
  refine qr_iload dX7_isSent_201 4 rfl ?_
  refine qr_bipush (v := 13) dX7_isSent_203 (by decide) ?_
  refine qr_lload dX7_isSent_205 0 rfl ?_
  refine qr_aload_n dX7_isSent_207 rfl 1 rfl ?_
  refine qr_iload dX7_isSent_208 4 rfl ?_
  refine qr_bipush (v := 13) dX7_isSent_210 (by decide) ?_
  obtain ⟨r40, er40, h⟩ := qm_bind h
  refine qr_call1 (st1 := [.long r40, .long k0, .int 13, .int v5, .ref (qm_a E 210)]) rfl (qr_callV (id := 210) (c := 5) (As := [.int v5, .int 13]) (st := [.long k0, .int 13, .int v5, .ref (qm_a E 210)]) rfl (by decide) rfl (ct_X7_its (l := l) (E := E) r39 v5 13 er40) qw_696 qw_6 qw_693 qw_695 qs_8 yd_X7_its (by decide) (by decide) rfl (Nat.le_of_ble_eq_true rfl) dX7_isSent_212) ?_
  refine qr_lcmp dX7_isSent_215 ?_
  refine qr_if_le (tgt := 224) dX7_isSent_216 (by decide) (fun c46 => ?_) (fun c46 => ?_)
  · rw [if_pos c46] at h
    refine qr_aload_n dX7_isSent_224 rfl 1 rfl ?_
    refine qr_iload dX7_isSent_225 4 rfl ?_
    refine qr_bipush (v := 13) dX7_isSent_227 (by decide) ?_
    obtain ⟨r41, er41, h⟩ := qm_bind h
    refine qr_call1 (st1 := [.long r41, .int 13, .int v5, .ref (qm_a E 210)]) rfl (qr_callV (id := 210) (c := 5) (As := [.int v5, .int 13]) (st := [.int 13, .int v5, .ref (qm_a E 210)]) rfl (by decide) rfl (ct_X7_its (l := l) (E := E) r39 v5 13 er41) qw_696 qw_6 qw_693 qw_695 qs_8 yd_X7_its (by decide) (by decide) rfl (Nat.le_of_ble_eq_true rfl) dX7_isSent_229) ?_
    obtain ⟨r42, er42, h⟩ := qm_bind h
    refine qr_call1 (st1 := []) rfl (qr_callV (id := 210) (c := 5) (As := [.int v5, .int 13, .long r41]) (st := []) rfl (by decide) rfl (ct_X7_puts (l := l) (E := E) r39 v5 13 r41 er42) qw_713 qw_6 qw_710 qw_712 qs_12 yd_X7_puts (by decide) (by decide) rfl (Nat.le_of_ble_eq_true rfl) dX7_isSent_232) ?_
    obtain ⟨z43, ez43, h⟩ := qm_bind h
    refine qr_iinc (q := 4) (v := z43) (lv' := [(5, .int z43), (6, .long k0), (0, .ref (qm_a E 210)), (1, .int v1), (2, .int v2)]) dX7_isSent_235 rfl (Option.some.inj ez43) (by decide) rfl ?_
    refine qr_goto (tgt := 151) dX7_isSent_238 (by decide) ?_
    obtain rfl := Option.some.inj h
    exact qr_sub [2, 3, 4, 0] rfl hT
  · rw [if_neg c46] at h
    refine qr_lload dX7_isSent_219 0 rfl ?_
    refine qr_goto (tgt := 232) dX7_isSent_221 (by decide) ?_
    obtain ⟨r44, er44, h⟩ := qm_bind h
    refine qr_call1 (st1 := []) rfl (qr_callV (id := 210) (c := 5) (As := [.int v5, .int 13, .long k0]) (st := []) rfl (by decide) rfl (ct_X7_puts (l := l) (E := E) r39 v5 13 k0 er44) qw_713 qw_6 qw_710 qw_712 qs_12 yd_X7_puts (by decide) (by decide) rfl (Nat.le_of_ble_eq_true rfl) dX7_isSent_232) ?_
    obtain ⟨z45, ez45, h⟩ := qm_bind h
    refine qr_iinc (q := 4) (v := z45) (lv' := [(5, .int z45), (6, .long k0), (0, .ref (qm_a E 210)), (1, .int v1), (2, .int v2)]) dX7_isSent_235 rfl (Option.some.inj ez45) (by decide) rfl ?_
    refine qr_goto (tgt := 151) dX7_isSent_238 (by decide) ?_
    obtain rfl := Option.some.inj h
    exact qr_sub [2, 3, 4, 0] rfl hT
def bb_X7_isSent_151 (σ : qm_M) (v1 : Int32) (v2 : Int32) (v5 : Int32) : Option ((Int32 × qm_M) ⊕ (Bool × qm_M)) :=
  if 12 < v5 then (lp_X7_isSent_244 σ 1).bind (fun y => some (.inr y)) else if ((v2 >>> (v5 &&& 31)) &&& 1) = 1 then if v5 = v1 then bb_X7_isSent_188 σ v1 v2 v5 0 else (fn_X7_its σ v5 12).bind (fun r38 => bb_X7_isSent_188 σ v1 v2 v5 (r38 + 1)) else (some (v5 + 1)).bind (fun z37 => some (.inl (z37, σ)))
set_option maxRecDepth 20000 in
theorem wb_X7_isSent_151 {l : Launch} {E : qm_E} (σ : qm_M) (v1 : Int32) (v2 : Int32) (v5 : Int32) {x : (Int32 × qm_M) ⊕ (Bool × qm_M)} (h : bb_X7_isSent_151 σ v1 v2 v5 = some x) {r : Option Value × qm_M} (hT : (qm_T (pp_X7_isSent_151 l E v1 v2) (fun x r => (some (.int (qm_b x.1)), x.2) = r)) x r) : qm_Wp l E kd_X7_isSent "HungStreamsModel" cX7_isSent 8 151 [(0, .ref (qm_a E 210)), (1, .int v1), (2, .int v2), (5, .int v5)] [] σ r := by
  unfold bb_X7_isSent_151 at h
  refine qr_iload dX7_isSent_151 3 rfl ?_
  refine qr_bipush (v := 12) dX7_isSent_153 (by decide) ?_
  refine qr_icmp_gt (tgt := 241) dX7_isSent_155 (by decide) (fun c49 => ?_) (fun c49 => ?_)
  · rw [if_pos c49] at h
    obtain ⟨y36, h1, hx⟩ := qm_bind h
    clear h
    cases hx
    have h := h1
    refine qr_iconst (v := 1) dX7_isSent_241 (by decide) ?_
    refine qr_istore (lv' := [(5, .int 1), (0, .ref (qm_a E 210)), (1, .int v1), (2, .int v2)]) dX7_isSent_242 (by decide) rfl ?_
    exact qr_sub [1, 0] rfl (wl_X7_isSent_244 (l := l) (E := E) σ 1 h hT)
  · rw [if_neg c49] at h
    refine qr_iload_n dX7_isSent_158 rfl 2 rfl ?_
    refine qr_iload dX7_isSent_159 3 rfl ?_
    refine qr_ishr dX7_isSent_161 ?_
    refine qr_iconst (v := 1) dX7_isSent_162 (by decide) ?_
    refine qr_iand dX7_isSent_163 ?_
    refine qr_iconst (v := 1) dX7_isSent_164 (by decide) ?_
    refine qr_icmp_ne (tgt := 235) dX7_isSent_165 (by decide) (fun c48 => ?_) (fun c48 => ?_)
    · rw [if_neg c48] at h
      obtain ⟨z37, ez37, h⟩ := qm_bind h
      refine qr_iinc (q := 3) (v := z37) (lv' := [(5, .int z37), (0, .ref (qm_a E 210)), (1, .int v1), (2, .int v2)]) dX7_isSent_235 rfl (Option.some.inj ez37) (by decide) rfl ?_
      refine qr_goto (tgt := 151) dX7_isSent_238 (by decide) ?_
      obtain rfl := Option.some.inj h
      exact qr_sub [1, 2, 3, 0] rfl hT
    · rw [if_pos c48] at h
      refine qr_iload dX7_isSent_168 3 rfl ?_
      refine qr_iload_n dX7_isSent_170 rfl 1 rfl ?_
      refine qr_icmp_ne (tgt := 178) dX7_isSent_171 (by decide) (fun c47 => ?_) (fun c47 => ?_)
      · rw [if_neg c47] at h
        refine qr_aload_n dX7_isSent_178 rfl 0 rfl ?_
        refine qr_iload dX7_isSent_179 3 rfl ?_
        refine qr_bipush (v := 12) dX7_isSent_181 (by decide) ?_
        obtain ⟨r38, er38, h⟩ := qm_bind h
        refine qr_call1 (st1 := [.long r38]) rfl (qr_callV (id := 210) (c := 5) (As := [.int v5, .int 12]) (st := []) rfl (by decide) rfl (ct_X7_its (l := l) (E := E) σ v5 12 er38) qw_696 qw_6 qw_693 qw_695 qs_8 yd_X7_its (by decide) (by decide) rfl (Nat.le_of_ble_eq_true rfl) dX7_isSent_183) ?_
        refine qr_lconst (v := 1) dX7_isSent_186 (by decide) ?_
        refine qr_ladd dX7_isSent_187 ?_
        exact qr_sub [0, 1, 2, 3] rfl (wb_X7_isSent_188 (l := l) (E := E) σ v1 v2 v5 (r38 + 1) h hT)
      · rw [if_pos c47] at h
        refine qr_lconst (v := 0) dX7_isSent_174 (by decide) ?_
        refine qr_goto (tgt := 188) dX7_isSent_175 (by decide) ?_
        exact qr_sub [0, 1, 2, 3] rfl (wb_X7_isSent_188 (l := l) (E := E) σ v1 v2 v5 0 h hT)
def lp_X7_isSent_151 (σ : qm_M) (v1 : Int32) (v2 : Int32) (v5 : Int32) : Option (Bool × qm_M) := qm_loop (fun s : Int32 × qm_M => bb_X7_isSent_151 s.2 v1 v2 s.1) 1000 (v5, σ)
theorem wl_X7_isSent_151 {l : Launch} {E : qm_E} (σ : qm_M) (v1 : Int32) (v2 : Int32) (v5 : Int32) {x : Bool × qm_M} (h : lp_X7_isSent_151 σ v1 v2 v5 = some x) {r : Option Value × qm_M} (hT : (fun x r => (some (.int (qm_b x.1)), x.2) = r) x r) : qm_Wp l E kd_X7_isSent "HungStreamsModel" cX7_isSent 8 151 [(0, .ref (qm_a E 210)), (1, .int v1), (2, .int v2), (5, .int v5)] [] σ r :=
  qm_loop_T (P := pp_X7_isSent_151 l E v1 v2) (T1 := (fun x r => (some (.int (qm_b x.1)), x.2) = r)) (fun s x h r hT => wb_X7_isSent_151 (l := l) (E := E) s.2 v1 v2 s.1  h hT) h hT
def bb_X7_isSent_46 (σ : qm_M) (v1 : Int32) (v2 : Int32) (v3 : Int64) : Option (Bool × qm_M) :=
  (some (qm_sl σ 211 (208 : Int32).toNatClampNeg ((σ.2 211 (208 : Int32).toNatClampNeg) - v3))).bind (fun σ8 => (fn_X7_its σ8 v1 3).bind (fun r9 => (fn_X7_puts σ8 v1 3 (r9 - v3)).bind (fun r10 => (fn_X7_its r10 v1 4).bind (fun r11 => (fn_X7_puts r10 v1 4 (r11 - v3)).bind (fun r12 => (fn_X7_its r12 v1 11).bind (fun r13 => (fn_X7_puts r12 v1 11 (r13 + v3)).bind (fun r14 => (some (qm_sl r14 211 (212 : Int32).toNatClampNeg ((r14.2 211 (212 : Int32).toNatClampNeg) + 1))).bind (fun σ17 => (fn_X7_puts σ17 v1 14 (σ17.2 211 (212 : Int32).toNatClampNeg)).bind (fun r19 => (some (qm_sl r19 211 (213 : Int32).toNatClampNeg v3)).bind (fun σ21 => (some (qm_sl σ21 211 (214 : Int32).toNatClampNeg v1.toInt64)).bind (fun σ23 => lp_X7_isSent_151 σ23 v1 v2 1)))))))))))
set_option maxRecDepth 20000 in
theorem wb_X7_isSent_46 {l : Launch} {E : qm_E} (σ : qm_M) (v1 : Int32) (v2 : Int32) (v3 : Int64) {x : Bool × qm_M} (h : bb_X7_isSent_46 σ v1 v2 v3 = some x) {r : Option Value × qm_M} (hT : (fun x r => (some (.int (qm_b x.1)), x.2) = r) x r) : qm_Wp l E kd_X7_isSent "HungStreamsModel" cX7_isSent 8 46 [(0, .ref (qm_a E 210)), (1, .int v1), (2, .int v2), (3, .long v3)] [] σ r := by
  unfold bb_X7_isSent_46 at h
  refine qr_aload_n dX7_isSent_46 rfl 0 rfl ?_
  refine qr_get5 (k := 0) (v := .ref (qm_a E 211)) rfl (by decide) rfl qw_624 dX7_isSent_47 ?_
  refine qr_sipush (v := 208) dX7_isSent_50 (by decide) ?_
  refine qr_dup2 dX7_isSent_53 rfl rfl ?_
  refine qr_lald rfl (by unfold vp_in; decide) dX7_isSent_54 ?_
  refine qr_lload_n dX7_isSent_55 rfl 3 rfl ?_
  refine qr_lsub dX7_isSent_56 ?_
  obtain ⟨σ8, eσ8, h⟩ := qm_bind h
  refine qr_last rfl (by unfold vp_in; decide) dX7_isSent_57 (qr_eqm (Option.some.inj eσ8) ?_)
  refine qr_aload_n dX7_isSent_58 rfl 0 rfl ?_
  refine qr_iload_n dX7_isSent_59 rfl 1 rfl ?_
  refine qr_iconst (v := 3) dX7_isSent_60 (by decide) ?_
  refine qr_aload_n dX7_isSent_61 rfl 0 rfl ?_
  refine qr_iload_n dX7_isSent_62 rfl 1 rfl ?_
  refine qr_iconst (v := 3) dX7_isSent_63 (by decide) ?_
  obtain ⟨r9, er9, h⟩ := qm_bind h
  refine qr_call1 (st1 := [.long r9, .int 3, .int v1, .ref (qm_a E 210)]) rfl (qr_callV (id := 210) (c := 5) (As := [.int v1, .int 3]) (st := [.int 3, .int v1, .ref (qm_a E 210)]) rfl (by decide) rfl (ct_X7_its (l := l) (E := E) σ8 v1 3 er9) qw_696 qw_6 qw_693 qw_695 qs_8 yd_X7_its (by decide) (by decide) rfl (Nat.le_of_ble_eq_true rfl) dX7_isSent_64) ?_
  refine qr_lload_n dX7_isSent_67 rfl 3 rfl ?_
  refine qr_lsub dX7_isSent_68 ?_
  obtain ⟨r10, er10, h⟩ := qm_bind h
  refine qr_call1 (st1 := []) rfl (qr_callV (id := 210) (c := 5) (As := [.int v1, .int 3, .long (r9 - v3)]) (st := []) rfl (by decide) rfl (ct_X7_puts (l := l) (E := E) σ8 v1 3 (r9 - v3) er10) qw_713 qw_6 qw_710 qw_712 qs_12 yd_X7_puts (by decide) (by decide) rfl (Nat.le_of_ble_eq_true rfl) dX7_isSent_69) ?_
  refine qr_aload_n dX7_isSent_72 rfl 0 rfl ?_
  refine qr_iload_n dX7_isSent_73 rfl 1 rfl ?_
  refine qr_iconst (v := 4) dX7_isSent_74 (by decide) ?_
  refine qr_aload_n dX7_isSent_75 rfl 0 rfl ?_
  refine qr_iload_n dX7_isSent_76 rfl 1 rfl ?_
  refine qr_iconst (v := 4) dX7_isSent_77 (by decide) ?_
  obtain ⟨r11, er11, h⟩ := qm_bind h
  refine qr_call1 (st1 := [.long r11, .int 4, .int v1, .ref (qm_a E 210)]) rfl (qr_callV (id := 210) (c := 5) (As := [.int v1, .int 4]) (st := [.int 4, .int v1, .ref (qm_a E 210)]) rfl (by decide) rfl (ct_X7_its (l := l) (E := E) r10 v1 4 er11) qw_696 qw_6 qw_693 qw_695 qs_8 yd_X7_its (by decide) (by decide) rfl (Nat.le_of_ble_eq_true rfl) dX7_isSent_78) ?_
  refine qr_lload_n dX7_isSent_81 rfl 3 rfl ?_
  refine qr_lsub dX7_isSent_82 ?_
  obtain ⟨r12, er12, h⟩ := qm_bind h
  refine qr_call1 (st1 := []) rfl (qr_callV (id := 210) (c := 5) (As := [.int v1, .int 4, .long (r11 - v3)]) (st := []) rfl (by decide) rfl (ct_X7_puts (l := l) (E := E) r10 v1 4 (r11 - v3) er12) qw_713 qw_6 qw_710 qw_712 qs_12 yd_X7_puts (by decide) (by decide) rfl (Nat.le_of_ble_eq_true rfl) dX7_isSent_83) ?_
  refine qr_aload_n dX7_isSent_86 rfl 0 rfl ?_
  refine qr_iload_n dX7_isSent_87 rfl 1 rfl ?_
  refine qr_bipush (v := 11) dX7_isSent_88 (by decide) ?_
  refine qr_aload_n dX7_isSent_90 rfl 0 rfl ?_
  refine qr_iload_n dX7_isSent_91 rfl 1 rfl ?_
  refine qr_bipush (v := 11) dX7_isSent_92 (by decide) ?_
  obtain ⟨r13, er13, h⟩ := qm_bind h
  refine qr_call1 (st1 := [.long r13, .int 11, .int v1, .ref (qm_a E 210)]) rfl (qr_callV (id := 210) (c := 5) (As := [.int v1, .int 11]) (st := [.int 11, .int v1, .ref (qm_a E 210)]) rfl (by decide) rfl (ct_X7_its (l := l) (E := E) r12 v1 11 er13) qw_696 qw_6 qw_693 qw_695 qs_8 yd_X7_its (by decide) (by decide) rfl (Nat.le_of_ble_eq_true rfl) dX7_isSent_94) ?_
  refine qr_lload_n dX7_isSent_97 rfl 3 rfl ?_
  refine qr_ladd dX7_isSent_98 ?_
  obtain ⟨r14, er14, h⟩ := qm_bind h
  refine qr_call1 (st1 := []) rfl (qr_callV (id := 210) (c := 5) (As := [.int v1, .int 11, .long (r13 + v3)]) (st := []) rfl (by decide) rfl (ct_X7_puts (l := l) (E := E) r12 v1 11 (r13 + v3) er14) qw_713 qw_6 qw_710 qw_712 qs_12 yd_X7_puts (by decide) (by decide) rfl (Nat.le_of_ble_eq_true rfl) dX7_isSent_99) ?_
  refine qr_aload_n dX7_isSent_102 rfl 0 rfl ?_
  refine qr_get5 (k := 0) (v := .ref (qm_a E 211)) rfl (by decide) rfl qw_624 dX7_isSent_103 ?_
  refine qr_sipush (v := 212) dX7_isSent_106 (by decide) ?_
  refine qr_dup2 dX7_isSent_109 rfl rfl ?_
  refine qr_lald rfl (by unfold vp_in; decide) dX7_isSent_110 ?_
  refine qr_lconst (v := 1) dX7_isSent_111 (by decide) ?_
  refine qr_ladd dX7_isSent_112 ?_
  obtain ⟨σ17, eσ17, h⟩ := qm_bind h
  refine qr_last rfl (by unfold vp_in; decide) dX7_isSent_113 (qr_eqm (Option.some.inj eσ17) ?_)
  refine qr_aload_n dX7_isSent_114 rfl 0 rfl ?_
  refine qr_iload_n dX7_isSent_115 rfl 1 rfl ?_
  refine qr_bipush (v := 14) dX7_isSent_116 (by decide) ?_
  refine qr_aload_n dX7_isSent_118 rfl 0 rfl ?_
  refine qr_get5 (k := 0) (v := .ref (qm_a E 211)) rfl (by decide) rfl qw_624 dX7_isSent_119 ?_
  refine qr_sipush (v := 212) dX7_isSent_122 (by decide) ?_
  refine qr_lald rfl (by unfold vp_in; decide) dX7_isSent_125 ?_
  obtain ⟨r19, er19, h⟩ := qm_bind h
  refine qr_call1 (st1 := []) rfl (qr_callV (id := 210) (c := 5) (As := [.int v1, .int 14, .long (σ17.2 211 (212 : Int32).toNatClampNeg)]) (st := []) rfl (by decide) rfl (ct_X7_puts (l := l) (E := E) σ17 v1 14 (σ17.2 211 (212 : Int32).toNatClampNeg) er19) qw_713 qw_6 qw_710 qw_712 qs_12 yd_X7_puts (by decide) (by decide) rfl (Nat.le_of_ble_eq_true rfl) dX7_isSent_126) ?_
  refine qr_aload_n dX7_isSent_129 rfl 0 rfl ?_
  refine qr_get5 (k := 0) (v := .ref (qm_a E 211)) rfl (by decide) rfl qw_624 dX7_isSent_130 ?_
  refine qr_sipush (v := 213) dX7_isSent_133 (by decide) ?_
  refine qr_lload_n dX7_isSent_136 rfl 3 rfl ?_
  obtain ⟨σ21, eσ21, h⟩ := qm_bind h
  refine qr_last rfl (by unfold vp_in; decide) dX7_isSent_137 (qr_eqm (Option.some.inj eσ21) ?_)
  refine qr_aload_n dX7_isSent_138 rfl 0 rfl ?_
  refine qr_get5 (k := 0) (v := .ref (qm_a E 211)) rfl (by decide) rfl qw_624 dX7_isSent_139 ?_
  refine qr_sipush (v := 214) dX7_isSent_142 (by decide) ?_
  refine qr_iload_n dX7_isSent_145 rfl 1 rfl ?_
  refine qr_i2l dX7_isSent_146 ?_
  obtain ⟨σ23, eσ23, h⟩ := qm_bind h
  refine qr_last rfl (by unfold vp_in; decide) dX7_isSent_147 (qr_eqm (Option.some.inj eσ23) ?_)
  refine qr_iconst (v := 1) dX7_isSent_148 (by decide) ?_
  refine qr_istore (lv' := [(5, .int 1), (0, .ref (qm_a E 210)), (1, .int v1), (2, .int v2), (3, .long v3)]) dX7_isSent_149 (by decide) rfl ?_
  exact qr_sub [1, 2, 3, 0] rfl (wl_X7_isSent_151 (l := l) (E := E) σ23 v1 v2 1 h hT)
def fn_X7_isSent (σ : qm_M)  : Option (Bool × qm_M) :=
  (fn_X7_looks σ ).bind (fun r1 => (fn_X7_nextNow r1 ).bind (fun r2 => if r2 = (-1) then some (false, r1) else (fn_X7_canSet r1 ).bind (fun r3 => (fn_X7_bytesOf r1 r2).bind (fun r4 => if (lg_cmp (r1.2 211 (211 : Int32).toNatClampNeg) 0) = 0 then (fn_X7_turns r1 r2 r4).bind (fun r50 => bb_X7_isSent_46 r50 r2 r3 r4) else bb_X7_isSent_46 r1 r2 r3 r4))))
set_option maxRecDepth 20000 in
theorem wf_X7_isSent {l : Launch} {E : qm_E} (σ : qm_M)  {x : Bool × qm_M} (h : fn_X7_isSent σ  = some x) {r : Option Value × qm_M} (hT : (fun x r => (some (.int (qm_b x.1)), x.2) = r) x r) : qm_Wp l E kd_X7_isSent "HungStreamsModel" cX7_isSent 8 0 [(0, .ref (qm_a E 210))] [] σ r := by
  unfold fn_X7_isSent at h
  refine qr_aload_n dX7_isSent_0 rfl 0 rfl ?_
  obtain ⟨r1, er1, h⟩ := qm_bind h
  refine qr_call1 (st1 := []) rfl (qr_callV (id := 210) (c := 5) (As := []) (st := []) rfl (by decide) rfl (ct_X7_looks (l := l) (E := E) σ  er1) qw_866 qw_6 qw_863 qw_865 qs_34 yd_X7_looks (by decide) (by decide) rfl (Nat.le_of_ble_eq_true rfl) dX7_isSent_1) ?_
  refine qr_aload_n dX7_isSent_4 rfl 0 rfl ?_
  obtain ⟨r2, er2, h⟩ := qm_bind h
  refine qr_call1 (st1 := [.int r2]) rfl (qr_callV (id := 210) (c := 5) (As := []) (st := []) rfl (by decide) rfl (ct_X7_nextNow (l := l) (E := E) r1  er2) qw_830 qw_6 qw_827 qw_829 qs_26 yd_X7_nextNow (by decide) (by decide) rfl (Nat.le_of_ble_eq_true rfl) dX7_isSent_5) ?_
  refine qr_istore_n (lv' := [(1, .int r2), (0, .ref (qm_a E 210))]) dX7_isSent_8 rfl (by decide) rfl ?_
  refine qr_iload_n dX7_isSent_9 rfl 0 rfl ?_
  refine qr_iconst (v := (-1)) dX7_isSent_10 (by decide) ?_
  refine qr_icmp_ne (tgt := 16) dX7_isSent_11 (by decide) (fun c52 => ?_) (fun c52 => ?_)
  · rw [if_neg c52] at h
    refine qr_aload_n dX7_isSent_16 rfl 1 rfl ?_
    obtain ⟨r3, er3, h⟩ := qm_bind h
    refine qr_call1 (st1 := [.int r3]) rfl (qr_callV (id := 210) (c := 5) (As := []) (st := []) rfl (by decide) rfl (ct_X7_canSet (l := l) (E := E) r1  er3) qw_870 qw_6 qw_867 qw_869 qs_35 yd_X7_canSet (by decide) (by decide) rfl (Nat.le_of_ble_eq_true rfl) dX7_isSent_17) ?_
    refine qr_istore_n (lv' := [(2, .int r3), (1, .int r2), (0, .ref (qm_a E 210))]) dX7_isSent_20 rfl (by decide) rfl ?_
    refine qr_aload_n dX7_isSent_21 rfl 2 rfl ?_
    refine qr_iload_n dX7_isSent_22 rfl 1 rfl ?_
    obtain ⟨r4, er4, h⟩ := qm_bind h
    refine qr_call1 (st1 := [.long r4]) rfl (qr_callV (id := 210) (c := 5) (As := [.int r2]) (st := []) rfl (by decide) rfl (ct_X7_bytesOf (l := l) (E := E) r1 r2 er4) qw_874 qw_6 qw_871 qw_873 qs_36 yd_X7_bytesOf (by decide) (by decide) rfl (Nat.le_of_ble_eq_true rfl) dX7_isSent_23) ?_
    refine qr_lstore_n (lv' := [(3, .long r4), (2, .int r3), (1, .int r2), (0, .ref (qm_a E 210))]) dX7_isSent_26 rfl (by decide) rfl ?_
    refine qr_aload_n dX7_isSent_27 rfl 3 rfl ?_
    refine qr_get5 (k := 0) (v := .ref (qm_a E 211)) rfl (by decide) rfl qw_624 dX7_isSent_28 ?_
    refine qr_sipush (v := 211) dX7_isSent_31 (by decide) ?_
    refine qr_lald rfl (by unfold vp_in; decide) dX7_isSent_34 ?_
    refine qr_lconst (v := 0) dX7_isSent_35 (by decide) ?_
    refine qr_lcmp dX7_isSent_36 ?_
    refine qr_if_ne (tgt := 46) dX7_isSent_37 (by decide) (fun c51 => ?_) (fun c51 => ?_)
    · rw [if_neg c51] at h
      exact qr_sub [3, 2, 1, 0] rfl (wb_X7_isSent_46 (l := l) (E := E) r1 r2 r3 r4 h hT)
    · rw [if_pos c51] at h
      refine qr_aload_n dX7_isSent_40 rfl 3 rfl ?_
      refine qr_iload_n dX7_isSent_41 rfl 2 rfl ?_
      refine qr_lload_n dX7_isSent_42 rfl 0 rfl ?_
      obtain ⟨r50, er50, h⟩ := qm_bind h
      refine qr_call1 (st1 := []) rfl (qr_callV (id := 210) (c := 5) (As := [.int r2, .long r4]) (st := []) rfl (by decide) rfl (ct_X7_turns (l := l) (E := E) r1 r2 r4 er50) qw_878 qw_6 qw_875 qw_877 qs_37 yd_X7_turns (by decide) (by decide) rfl (Nat.le_of_ble_eq_true rfl) dX7_isSent_43) ?_
      exact qr_sub [3, 2, 1, 0] rfl (wb_X7_isSent_46 (l := l) (E := E) r50 r2 r3 r4 h hT)
  · rw [if_pos c52] at h
    refine qr_iconst (v := 0) dX7_isSent_14 (by decide) ?_
    obtain rfl := Option.some.inj h
    cases hT
    exact qr_iret dX7_isSent_15
theorem ct_X7_isSent {l : Launch} {E : qm_E} (σ : qm_M)  {x : Bool × qm_M} (h : fn_X7_isSent σ  = some x) : qm_Ct l E kd_X7_isSent yX7_isSent cX7_isSent 8 (some .boolean) [.ref (qm_a E 210)] σ (some (.int (qm_b x.1)), x.2) := qm_ofWp rfl (Nat.le_of_ble_eq_true rfl) (qm_rtz _) (wf_X7_isSent σ   h rfl)
