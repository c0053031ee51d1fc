-- HungStreamsModel.liveSet ()I
abbrev kd_X7_liveSet : Nat := 5
theorem yd_X7_liveSet : (yX7_liveSet).cls ≠ "java/lang/invoke/MethodHandle" ∧ (yX7_liveSet).cls ≠ "java/lang/invoke/VarHandle" ∧ (parseMethodDescriptor (yX7_liveSet).desc).map (fun d => d.parameters.length) = some 0 := by decide +kernel
abbrev pp_X7_liveSet_4 (l : Launch) (E : qm_E) (σ : qm_M) : (Int32 × Int32) → Option Value × qm_M → Prop := fun s r => qm_Wp l E kd_X7_liveSet "HungStreamsModel" cX7_liveSet 3 4 [(0, .ref (qm_a E 210)), (1, .int s.1), (2, .int s.2)] [] σ r
def bb_X7_liveSet_4 (σ : qm_M) (v1 : Int32) (v2 : Int32) : Option ((Int32 × Int32) ⊕ (Int32)) :=
  if 12 < v2 then (some v1).bind (fun y => some (.inr y)) else (fn_X7_isLive σ v2).bind (fun r2 => if (qm_b r2) = 0 then (some (v1 ||| 0)).bind (fun z3 => (some (v2 + 1)).bind (fun z4 => some (.inl (z3, z4)))) else (some (v1 ||| (1 <<< (v2 &&& 31)))).bind (fun z5 => (some (v2 + 1)).bind (fun z6 => some (.inl (z5, z6)))))
set_option maxRecDepth 20000 in
theorem wb_X7_liveSet_4 {l : Launch} {E : qm_E} (σ : qm_M) (v1 : Int32) (v2 : Int32) {x : (Int32 × Int32) ⊕ (Int32)} (h : bb_X7_liveSet_4 σ v1 v2 = some x) {r : Option Value × qm_M} (hT : (qm_T (pp_X7_liveSet_4 l E σ) (fun x r => (some (.int x), σ) = r)) x r) : qm_Wp l E kd_X7_liveSet "HungStreamsModel" cX7_liveSet 3 4 [(0, .ref (qm_a E 210)), (1, .int v1), (2, .int v2)] [] σ r := by
  unfold bb_X7_liveSet_4 at h
  refine qr_iload_n dX7_liveSet_4 rfl 2 rfl ?_
  refine qr_bipush (v := 12) dX7_liveSet_5 (by decide) ?_
  refine qr_icmp_gt (tgt := 34) dX7_liveSet_7 (by decide) (fun c8 => ?_) (fun c8 => ?_)
  · rw [if_pos c8] at h
    obtain ⟨y1, h1, hx⟩ := qm_bind h
    clear h
    cases hx
    have h := h1
    refine qr_iload_n dX7_liveSet_34 rfl 1 rfl ?_
    obtain rfl := Option.some.inj h
    cases hT
    exact qr_iret dX7_liveSet_35
  · rw [if_neg c8] at h
    refine qr_iload_n dX7_liveSet_10 rfl 1 rfl ?_
    refine qr_aload_n dX7_liveSet_11 rfl 0 rfl ?_
    refine qr_iload_n dX7_liveSet_12 rfl 2 rfl ?_
    obtain ⟨r2, er2, h⟩ := qm_bind h
    refine qr_call1 (st1 := [.int (qm_b r2), .int v1]) rfl (qr_callV (id := 210) (c := 5) (As := [.int v2]) (st := [.int v1]) rfl (by decide) rfl (ct_X7_isLive (l := l) (E := E) σ v2 er2) qw_794 qw_6 qw_791 qw_793 qs_25 yd_X7_isLive (by decide) (by decide) rfl (Nat.le_of_ble_eq_true rfl) dX7_liveSet_13) ?_
    refine qr_if_eq (tgt := 25) dX7_liveSet_16 (by decide) (fun c7 => ?_) (fun c7 => ?_)
    · rw [if_pos c7] at h
      refine qr_iconst (v := 0) dX7_liveSet_25 (by decide) ?_
      refine qr_ior dX7_liveSet_26 ?_
      obtain ⟨z3, ez3, h⟩ := qm_bind h
      refine qr_eqi (Option.some.inj ez3) ?_
      refine qr_istore_n (lv' := [(1, .int z3), (0, .ref (qm_a E 210)), (2, .int v2)]) dX7_liveSet_27 rfl (by decide) rfl ?_
      obtain ⟨z4, ez4, h⟩ := qm_bind h
      refine qr_iinc (q := 2) (v := z4) (lv' := [(2, .int z4), (1, .int z3), (0, .ref (qm_a E 210))]) dX7_liveSet_28 rfl (Option.some.inj ez4) (by decide) rfl ?_
      refine qr_goto (tgt := 4) dX7_liveSet_31 (by decide) ?_
      obtain rfl := Option.some.inj h
      exact qr_sub [2, 1, 0] rfl hT
    · rw [if_neg c7] at h
      refine qr_iconst (v := 1) dX7_liveSet_19 (by decide) ?_
      refine qr_iload_n dX7_liveSet_20 rfl 2 rfl ?_
      refine qr_ishl dX7_liveSet_21 ?_
      refine qr_goto (tgt := 26) dX7_liveSet_22 (by decide) ?_
      refine qr_ior dX7_liveSet_26 ?_
      obtain ⟨z5, ez5, h⟩ := qm_bind h
      refine qr_eqi (Option.some.inj ez5) ?_
      refine qr_istore_n (lv' := [(1, .int z5), (0, .ref (qm_a E 210)), (2, .int v2)]) dX7_liveSet_27 rfl (by decide) rfl ?_
      obtain ⟨z6, ez6, h⟩ := qm_bind h
      refine qr_iinc (q := 2) (v := z6) (lv' := [(2, .int z6), (1, .int z5), (0, .ref (qm_a E 210))]) dX7_liveSet_28 rfl (Option.some.inj ez6) (by decide) rfl ?_
      refine qr_goto (tgt := 4) dX7_liveSet_31 (by decide) ?_
      obtain rfl := Option.some.inj h
      exact qr_sub [2, 1, 0] rfl hT
def lp_X7_liveSet_4 (σ : qm_M) (v1 : Int32) (v2 : Int32) : Option (Int32) := qm_loop (fun s : Int32 × Int32 => bb_X7_liveSet_4 σ s.1 s.2) 1000 (v1, v2)
theorem wl_X7_liveSet_4 {l : Launch} {E : qm_E} (σ : qm_M) (v1 : Int32) (v2 : Int32) {x : Int32} (h : lp_X7_liveSet_4 σ v1 v2 = some x) {r : Option Value × qm_M} (hT : (fun x r => (some (.int x), σ) = r) x r) : qm_Wp l E kd_X7_liveSet "HungStreamsModel" cX7_liveSet 3 4 [(0, .ref (qm_a E 210)), (1, .int v1), (2, .int v2)] [] σ r :=
  qm_loop_T (P := pp_X7_liveSet_4 l E σ) (T1 := (fun x r => (some (.int x), σ) = r)) (fun s x h r hT => wb_X7_liveSet_4 (l := l) (E := E) σ s.1 s.2  h hT) h hT
def fn_X7_liveSet (σ : qm_M)  : Option (Int32) :=
  lp_X7_liveSet_4 σ 0 1
set_option maxRecDepth 20000 in
theorem wf_X7_liveSet {l : Launch} {E : qm_E} (σ : qm_M)  {x : Int32} (h : fn_X7_liveSet σ  = some x) {r : Option Value × qm_M} (hT : (fun x r => (some (.int x), σ) = r) x r) : qm_Wp l E kd_X7_liveSet "HungStreamsModel" cX7_liveSet 3 0 [(0, .ref (qm_a E 210))] [] σ r := by
  unfold fn_X7_liveSet at h
  refine qr_iconst (v := 0) dX7_liveSet_0 (by decide) ?_
  refine qr_istore_n (lv' := [(1, .int 0), (0, .ref (qm_a E 210))]) dX7_liveSet_1 rfl (by decide) rfl ?_
  refine qr_iconst (v := 1) dX7_liveSet_2 (by decide) ?_
  refine qr_istore_n (lv' := [(2, .int 1), (1, .int 0), (0, .ref (qm_a E 210))]) dX7_liveSet_3 rfl (by decide) rfl ?_
  exact qr_sub [2, 1, 0] rfl (wl_X7_liveSet_4 (l := l) (E := E) σ 0 1 h hT)
theorem ct_X7_liveSet {l : Launch} {E : qm_E} (σ : qm_M)  {x : Int32} (h : fn_X7_liveSet σ  = some x) : qm_Ct l E kd_X7_liveSet yX7_liveSet cX7_liveSet 3 (some .int) [.ref (qm_a E 210)] σ (some (.int x), σ) := qm_ofWp rfl (Nat.le_of_ble_eq_true rfl) (Or.inl rfl) (wf_X7_liveSet σ   h rfl)
-- HungStreamsModel.below (I)I
abbrev kd_X7_below : Nat := 4
theorem yd_X7_below : (yX7_below).cls ≠ "java/lang/invoke/MethodHandle" ∧ (yX7_below).cls ≠ "java/lang/invoke/VarHandle" ∧ (parseMethodDescriptor (yX7_below).desc).map (fun d => d.parameters.length) = some 1 := by decide +kernel
abbrev pp_X7_below_4 (l : Launch) (E : qm_E) (σ : qm_M) (v1 : Int32) : (Int32 × Int32) → Option Value × qm_M → Prop := fun s r => qm_Wp l E kd_X7_below "HungStreamsModel" cX7_below 4 4 [(0, .ref (qm_a E 210)), (1, .int v1), (2, .int s.1), (3, .int s.2)] [] σ r
def bb_X7_below_4 (σ : qm_M) (v1 : Int32) (v2 : Int32) (v3 : Int32) : Option ((Int32 × Int32) ⊕ (Int32)) :=
  if 12 < v3 then (some v2).bind (fun y => some (.inr y)) else (fn_X7_isStream σ v3).bind (fun r2 => if (qm_b r2) = 0 then (some (v2 + 0)).bind (fun z3 => (some (v3 + 1)).bind (fun z4 => some (.inl (z3, z4)))) else (fn_X7_isBelow σ v3 v1).bind (fun r5 => if (qm_b r5) = 0 then (some (v2 + 0)).bind (fun z6 => (some (v3 + 1)).bind (fun z7 => some (.inl (z6, z7)))) else (some (v2 + 1)).bind (fun z8 => (some (v3 + 1)).bind (fun z9 => some (.inl (z8, z9))))))
set_option maxRecDepth 20000 in
theorem wb_X7_below_4 {l : Launch} {E : qm_E} (σ : qm_M) (v1 : Int32) (v2 : Int32) (v3 : Int32) {x : (Int32 × Int32) ⊕ (Int32)} (h : bb_X7_below_4 σ v1 v2 v3 = some x) {r : Option Value × qm_M} (hT : (qm_T (pp_X7_below_4 l E σ v1) (fun x r => (some (.int x), σ) = r)) x r) : qm_Wp l E kd_X7_below "HungStreamsModel" cX7_below 4 4 [(0, .ref (qm_a E 210)), (1, .int v1), (2, .int v2), (3, .int v3)] [] σ r := by
  unfold bb_X7_below_4 at h
  refine qr_iload_n dX7_below_4 rfl 3 rfl ?_
  refine qr_bipush (v := 12) dX7_below_5 (by decide) ?_
  refine qr_icmp_gt (tgt := 41) dX7_below_7 (by decide) (fun c12 => ?_) (fun c12 => ?_)
  · rw [if_pos c12] at h
    obtain ⟨y1, h1, hx⟩ := qm_bind h
    clear h
    cases hx
    have h := h1
    refine qr_iload_n dX7_below_41 rfl 2 rfl ?_
    obtain rfl := Option.some.inj h
    cases hT
    exact qr_iret dX7_below_42
  · rw [if_neg c12] at h
    refine qr_iload_n dX7_below_10 rfl 2 rfl ?_
    refine qr_aload_n dX7_below_11 rfl 0 rfl ?_
    refine qr_iload_n dX7_below_12 rfl 3 rfl ?_
    obtain ⟨r2, er2, h⟩ := qm_bind h
    refine qr_call1 (st1 := [.int (qm_b r2), .int v2]) rfl (qr_callV (id := 210) (c := 5) (As := [.int v3]) (st := [.int v2]) rfl (by decide) rfl (ct_X7_isStream (l := l) (E := E) σ v3 er2) qw_692 qw_6 qw_689 qw_691 qs_7 yd_X7_isStream (by decide) (by decide) rfl (Nat.le_of_ble_eq_true rfl) dX7_below_13) ?_
    refine qr_if_eq (tgt := 32) dX7_below_16 (by decide) (fun c11 => ?_) (fun c11 => ?_)
    · rw [if_pos c11] at h
      refine qr_iconst (v := 0) dX7_below_32 (by decide) ?_
      refine qr_iadd dX7_below_33 ?_
      obtain ⟨z3, ez3, h⟩ := qm_bind h
      refine qr_eqi (Option.some.inj ez3) ?_
      refine qr_istore_n (lv' := [(2, .int z3), (0, .ref (qm_a E 210)), (1, .int v1), (3, .int v3)]) dX7_below_34 rfl (by decide) rfl ?_
      obtain ⟨z4, ez4, h⟩ := qm_bind h
      refine qr_iinc (q := 3) (v := z4) (lv' := [(3, .int z4), (2, .int z3), (0, .ref (qm_a E 210)), (1, .int v1)]) dX7_below_35 rfl (Option.some.inj ez4) (by decide) rfl ?_
      refine qr_goto (tgt := 4) dX7_below_38 (by decide) ?_
      obtain rfl := Option.some.inj h
      exact qr_sub [2, 3, 1, 0] rfl hT
    · rw [if_neg c11] at h
      refine qr_aload_n dX7_below_19 rfl 0 rfl ?_
      refine qr_iload_n dX7_below_20 rfl 3 rfl ?_
      refine qr_iload_n dX7_below_21 rfl 1 rfl ?_
      obtain ⟨r5, er5, h⟩ := qm_bind h
      refine qr_call1 (st1 := [.int (qm_b r5), .int v2]) rfl (qr_callV (id := 210) (c := 5) (As := [.int v3, .int v1]) (st := [.int v2]) rfl (by decide) rfl (ct_X7_isBelow (l := l) (E := E) σ v3 v1 er5) qw_743 qw_6 qw_740 qw_742 qs_18 yd_X7_isBelow (by decide) (by decide) rfl (Nat.le_of_ble_eq_true rfl) dX7_below_22) ?_
      refine qr_if_eq (tgt := 32) dX7_below_25 (by decide) (fun c10 => ?_) (fun c10 => ?_)
      · rw [if_pos c10] at h
        refine qr_iconst (v := 0) dX7_below_32 (by decide) ?_
        refine qr_iadd dX7_below_33 ?_
        obtain ⟨z6, ez6, h⟩ := qm_bind h
        refine qr_eqi (Option.some.inj ez6) ?_
        refine qr_istore_n (lv' := [(2, .int z6), (0, .ref (qm_a E 210)), (1, .int v1), (3, .int v3)]) dX7_below_34 rfl (by decide) rfl ?_
        obtain ⟨z7, ez7, h⟩ := qm_bind h
        refine qr_iinc (q := 3) (v := z7) (lv' := [(3, .int z7), (2, .int z6), (0, .ref (qm_a E 210)), (1, .int v1)]) dX7_below_35 rfl (Option.some.inj ez7) (by decide) rfl ?_
        refine qr_goto (tgt := 4) dX7_below_38 (by decide) ?_
        obtain rfl := Option.some.inj h
        exact qr_sub [2, 3, 1, 0] rfl hT
      · rw [if_neg c10] at h
        refine qr_iconst (v := 1) dX7_below_28 (by decide) ?_
        refine qr_goto (tgt := 33) dX7_below_29 (by decide) ?_
        refine qr_iadd dX7_below_33 ?_
        obtain ⟨z8, ez8, h⟩ := qm_bind h
        refine qr_eqi (Option.some.inj ez8) ?_
        refine qr_istore_n (lv' := [(2, .int z8), (0, .ref (qm_a E 210)), (1, .int v1), (3, .int v3)]) dX7_below_34 rfl (by decide) rfl ?_
        obtain ⟨z9, ez9, h⟩ := qm_bind h
        refine qr_iinc (q := 3) (v := z9) (lv' := [(3, .int z9), (2, .int z8), (0, .ref (qm_a E 210)), (1, .int v1)]) dX7_below_35 rfl (Option.some.inj ez9) (by decide) rfl ?_
        refine qr_goto (tgt := 4) dX7_below_38 (by decide) ?_
        obtain rfl := Option.some.inj h
        exact qr_sub [2, 3, 1, 0] rfl hT
def lp_X7_below_4 (σ : qm_M) (v1 : Int32) (v2 : Int32) (v3 : Int32) : Option (Int32) := qm_loop (fun s : Int32 × Int32 => bb_X7_below_4 σ v1 s.1 s.2) 1000 (v2, v3)
theorem wl_X7_below_4 {l : Launch} {E : qm_E} (σ : qm_M) (v1 : Int32) (v2 : Int32) (v3 : Int32) {x : Int32} (h : lp_X7_below_4 σ v1 v2 v3 = some x) {r : Option Value × qm_M} (hT : (fun x r => (some (.int x), σ) = r) x r) : qm_Wp l E kd_X7_below "HungStreamsModel" cX7_below 4 4 [(0, .ref (qm_a E 210)), (1, .int v1), (2, .int v2), (3, .int v3)] [] σ r :=
  qm_loop_T (P := pp_X7_below_4 l E σ v1) (T1 := (fun x r => (some (.int x), σ) = r)) (fun s x h r hT => wb_X7_below_4 (l := l) (E := E) σ v1 s.1 s.2  h hT) h hT
def fn_X7_below (σ : qm_M) (v1 : Int32) : Option (Int32) :=
  lp_X7_below_4 σ v1 0 1
set_option maxRecDepth 20000 in
theorem wf_X7_below {l : Launch} {E : qm_E} (σ : qm_M) (v1 : Int32) {x : Int32} (h : fn_X7_below σ v1 = some x) {r : Option Value × qm_M} (hT : (fun x r => (some (.int x), σ) = r) x r) : qm_Wp l E kd_X7_below "HungStreamsModel" cX7_below 4 0 [(0, .ref (qm_a E 210)), (1, .int v1)] [] σ r := by
  unfold fn_X7_below at h
  refine qr_iconst (v := 0) dX7_below_0 (by decide) ?_
  refine qr_istore_n (lv' := [(2, .int 0), (0, .ref (qm_a E 210)), (1, .int v1)]) dX7_below_1 rfl (by decide) rfl ?_
  refine qr_iconst (v := 1) dX7_below_2 (by decide) ?_
  refine qr_istore_n (lv' := [(3, .int 1), (2, .int 0), (0, .ref (qm_a E 210)), (1, .int v1)]) dX7_below_3 rfl (by decide) rfl ?_
  exact qr_sub [2, 3, 1, 0] rfl (wl_X7_below_4 (l := l) (E := E) σ v1 0 1 h hT)
theorem ct_X7_below {l : Launch} {E : qm_E} (σ : qm_M) (v1 : Int32) {x : Int32} (h : fn_X7_below σ v1 = some x) : qm_Ct l E kd_X7_below yX7_below cX7_below 4 (some .int) [.ref (qm_a E 210), .int v1] σ (some (.int x), σ) := qm_ofWp rfl (Nat.le_of_ble_eq_true rfl) (Or.inl rfl) (wf_X7_below σ v1  h rfl)
-- HungStreamsModel.ofNow (II)I
abbrev kd_X7_ofNow : Nat := 5
theorem yd_X7_ofNow : (yX7_ofNow).cls ≠ "java/lang/invoke/MethodHandle" ∧ (yX7_ofNow).cls ≠ "java/lang/invoke/VarHandle" ∧ (parseMethodDescriptor (yX7_ofNow).desc).map (fun d => d.parameters.length) = some 2 := by decide +kernel
def fn_X7_ofNow (σ : qm_M) (v1 : Int32) (v2 : Int32) : Option (Int32) :=
  if v2 = 12 then (fn_X7_children σ v1).bind (fun r1 => some r1) else if v2 = 13 then (fn_X7_below σ v1).bind (fun r3 => some r3) else if v2 = 14 then (fn_X7_can σ v1).bind (fun r5 => if (qm_b r5) = 0 then some 0 else some 1) else if v2 = 15 then (fn_X7_isLive σ v1).bind (fun r8 => if (qm_b r8) = 0 then some 0 else some 1) else if 8 ≤ v2 then if v2 = 8 then (fn_X7_its σ v1 11).bind (fun r16 => some r16.toInt32) else if v2 = 9 then (fn_X7_its σ v1 12).bind (fun r14 => some r14.toInt32) else if v2 = 10 then (fn_X7_its σ v1 13).bind (fun r12 => some r12.toInt32) else (fn_X7_its σ v1 14).bind (fun r11 => some r11.toInt32) else (fn_X7_its σ v1 (v2 + 1)).bind (fun r18 => some r18.toInt32)
set_option maxRecDepth 20000 in
theorem wf_X7_ofNow {l : Launch} {E : qm_E} (σ : qm_M) (v1 : Int32) (v2 : Int32) {x : Int32} (h : fn_X7_ofNow σ v1 v2 = some x) {r : Option Value × qm_M} (hT : (fun x r => (some (.int x), σ) = r) x r) : qm_Wp l E kd_X7_ofNow "HungStreamsModel" cX7_ofNow 3 0 [(0, .ref (qm_a E 210)), (1, .int v1), (2, .int v2)] [] σ r := by
  unfold fn_X7_ofNow at h
  refine qr_iload_n dX7_ofNow_0 rfl 2 rfl ?_
  by_cases c2 : v2 = 12
  · rw [if_pos c2] at h
    have tc2 : (v2).toInt = 12 := by rw [c2]; rfl
    refine qr_tableIn (tgt := 32) dX7_ofNow_1 (by omega) (by omega) (by rw [tc2]; rfl) (by decide) ?_
    refine qr_aload_n dX7_ofNow_32 rfl 0 rfl ?_
    refine qr_iload_n dX7_ofNow_33 rfl 1 rfl ?_
    obtain ⟨r1, er1, h⟩ := qm_bind h
    refine qr_call1 (st1 := [.int r1]) rfl (qr_callV (id := 210) (c := 5) (As := [.int v1]) (st := []) rfl (by decide) rfl (ct_X7_children (l := l) (E := E) σ v1 er1) qw_735 qw_6 qw_732 qw_734 qs_17 yd_X7_children (by decide) (by decide) rfl (Nat.le_of_ble_eq_true rfl) dX7_ofNow_34) ?_
    obtain rfl := Option.some.inj h
    cases hT
    exact qr_iret dX7_ofNow_37
  rw [if_neg c2] at h
  by_cases c4 : v2 = 13
  · rw [if_pos c4] at h
    have tc4 : (v2).toInt = 13 := by rw [c4]; rfl
    refine qr_tableIn (tgt := 38) dX7_ofNow_1 (by omega) (by omega) (by rw [tc4]; rfl) (by decide) ?_
    refine qr_aload_n dX7_ofNow_38 rfl 0 rfl ?_
    refine qr_iload_n dX7_ofNow_39 rfl 1 rfl ?_
    obtain ⟨r3, er3, h⟩ := qm_bind h
    refine qr_call1 (st1 := [.int r3]) rfl (qr_callV (id := 210) (c := 5) (As := [.int v1]) (st := []) rfl (by decide) rfl (ct_X7_below (l := l) (E := E) σ v1 er3) qw_786 qw_6 qw_783 qw_785 qs_23 yd_X7_below (by decide) (by decide) rfl (Nat.le_of_ble_eq_true rfl) dX7_ofNow_40) ?_
    obtain rfl := Option.some.inj h
    cases hT
    exact qr_iret dX7_ofNow_43
  rw [if_neg c4] at h
  by_cases c7 : v2 = 14
  · rw [if_pos c7] at h
    have tc7 : (v2).toInt = 14 := by rw [c7]; rfl
    refine qr_tableIn (tgt := 44) dX7_ofNow_1 (by omega) (by omega) (by rw [tc7]; rfl) (by decide) ?_
    refine qr_aload_n dX7_ofNow_44 rfl 0 rfl ?_
    refine qr_iload_n dX7_ofNow_45 rfl 1 rfl ?_
    obtain ⟨r5, er5, h⟩ := qm_bind h
    refine qr_call1 (st1 := [.int (qm_b r5)]) rfl (qr_callV (id := 210) (c := 5) (As := [.int v1]) (st := []) rfl (by decide) rfl (ct_X7_can (l := l) (E := E) σ v1 er5) qw_790 qw_6 qw_787 qw_789 qs_24 yd_X7_can (by decide) (by decide) rfl (Nat.le_of_ble_eq_true rfl) dX7_ofNow_46) ?_
    refine qr_if_eq (tgt := 56) dX7_ofNow_49 (by decide) (fun c6 => ?_) (fun c6 => ?_)
    · rw [if_pos c6] at h
      refine qr_iconst (v := 0) dX7_ofNow_56 (by decide) ?_
      obtain rfl := Option.some.inj h
      cases hT
      exact qr_iret dX7_ofNow_57
    · rw [if_neg c6] at h
      refine qr_iconst (v := 1) dX7_ofNow_52 (by decide) ?_
      refine qr_goto (tgt := 57) dX7_ofNow_53 (by decide) ?_
      obtain rfl := Option.some.inj h
      cases hT
      exact qr_iret dX7_ofNow_57
  rw [if_neg c7] at h
  by_cases c10 : v2 = 15
  · rw [if_pos c10] at h
    have tc10 : (v2).toInt = 15 := by rw [c10]; rfl
    refine qr_tableIn (tgt := 58) dX7_ofNow_1 (by omega) (by omega) (by rw [tc10]; rfl) (by decide) ?_
    refine qr_aload_n dX7_ofNow_58 rfl 0 rfl ?_
    refine qr_iload_n dX7_ofNow_59 rfl 1 rfl ?_
    obtain ⟨r8, er8, h⟩ := qm_bind h
    refine qr_call1 (st1 := [.int (qm_b r8)]) rfl (qr_callV (id := 210) (c := 5) (As := [.int v1]) (st := []) rfl (by decide) rfl (ct_X7_isLive (l := l) (E := E) σ v1 er8) qw_794 qw_6 qw_791 qw_793 qs_25 yd_X7_isLive (by decide) (by decide) rfl (Nat.le_of_ble_eq_true rfl) dX7_ofNow_60) ?_
    refine qr_if_eq (tgt := 70) dX7_ofNow_63 (by decide) (fun c9 => ?_) (fun c9 => ?_)
    · rw [if_pos c9] at h
      refine qr_iconst (v := 0) dX7_ofNow_70 (by decide) ?_
      obtain rfl := Option.some.inj h
      cases hT
      exact qr_iret dX7_ofNow_71
    · rw [if_neg c9] at h
      refine qr_iconst (v := 1) dX7_ofNow_66 (by decide) ?_
      refine qr_goto (tgt := 71) dX7_ofNow_67 (by decide) ?_
      obtain rfl := Option.some.inj h
      cases hT
      exact qr_iret dX7_ofNow_71
  rw [if_neg c10] at h
  have nc2 := lv_neT c2 (show (12 : Int32).toInt = 12 from rfl)
  have nc4 := lv_neT c4 (show (13 : Int32).toInt = 13 from rfl)
  have nc7 := lv_neT c7 (show (14 : Int32).toInt = 14 from rfl)
  have nc10 := lv_neT c10 (show (15 : Int32).toInt = 15 from rfl)
  refine qr_tableOut (tgt := 72) dX7_ofNow_1 (by omega) (by decide) ?_
  refine qr_aload_n dX7_ofNow_72 rfl 0 rfl ?_
  refine qr_iload_n dX7_ofNow_73 rfl 1 rfl ?_
  refine qr_iload_n dX7_ofNow_74 rfl 2 rfl ?_
  refine qr_bipush (v := 8) dX7_ofNow_75 (by decide) ?_
  refine qr_icmp_ge (tgt := 86) dX7_ofNow_77 (by decide) (fun c19 => ?_) (fun c19 => ?_)
  · rw [if_pos c19] at h
    refine qr_iload_n dX7_ofNow_86 rfl 2 rfl ?_
    refine qr_bipush (v := 8) dX7_ofNow_87 (by decide) ?_
    refine qr_icmp_ne (tgt := 97) dX7_ofNow_89 (by decide) (fun c17 => ?_) (fun c17 => ?_)
    · rw [if_neg c17] at h
      refine qr_iload_n dX7_ofNow_97 rfl 2 rfl ?_
      refine qr_bipush (v := 9) dX7_ofNow_98 (by decide) ?_
      refine qr_icmp_ne (tgt := 108) dX7_ofNow_100 (by decide) (fun c15 => ?_) (fun c15 => ?_)
      · rw [if_neg c15] at h
        refine qr_iload_n dX7_ofNow_108 rfl 2 rfl ?_
        refine qr_bipush (v := 10) dX7_ofNow_109 (by decide) ?_
        refine qr_icmp_ne (tgt := 119) dX7_ofNow_111 (by decide) (fun c13 => ?_) (fun c13 => ?_)
        · rw [if_neg c13] at h
          refine qr_bipush (v := 14) dX7_ofNow_119 (by decide) ?_
          obtain ⟨r11, er11, h⟩ := qm_bind h
          refine qr_call1 (st1 := [.long r11]) rfl (qr_callV (id := 210) (c := 5) (As := [.int v1, .int 14]) (st := []) rfl (by decide) rfl (ct_X7_its (l := l) (E := E) σ v1 14 er11) qw_696 qw_6 qw_693 qw_695 qs_8 yd_X7_its (by decide) (by decide) rfl (Nat.le_of_ble_eq_true rfl) dX7_ofNow_121) ?_
          refine qr_l2i dX7_ofNow_124 ?_
          obtain rfl := Option.some.inj h
          cases hT
          exact qr_iret dX7_ofNow_125
        · rw [if_pos c13] at h
          refine qr_bipush (v := 13) dX7_ofNow_114 (by decide) ?_
          refine qr_goto (tgt := 121) dX7_ofNow_116 (by decide) ?_
          obtain ⟨r12, er12, h⟩ := qm_bind h
          refine qr_call1 (st1 := [.long r12]) rfl (qr_callV (id := 210) (c := 5) (As := [.int v1, .int 13]) (st := []) rfl (by decide) rfl (ct_X7_its (l := l) (E := E) σ v1 13 er12) qw_696 qw_6 qw_693 qw_695 qs_8 yd_X7_its (by decide) (by decide) rfl (Nat.le_of_ble_eq_true rfl) dX7_ofNow_121) ?_
          refine qr_l2i dX7_ofNow_124 ?_
          obtain rfl := Option.some.inj h
          cases hT
          exact qr_iret dX7_ofNow_125
      · rw [if_pos c15] at h
        refine qr_bipush (v := 12) dX7_ofNow_103 (by decide) ?_
        refine qr_goto (tgt := 121) dX7_ofNow_105 (by decide) ?_
        obtain ⟨r14, er14, h⟩ := qm_bind h
        refine qr_call1 (st1 := [.long r14]) rfl (qr_callV (id := 210) (c := 5) (As := [.int v1, .int 12]) (st := []) rfl (by decide) rfl (ct_X7_its (l := l) (E := E) σ v1 12 er14) qw_696 qw_6 qw_693 qw_695 qs_8 yd_X7_its (by decide) (by decide) rfl (Nat.le_of_ble_eq_true rfl) dX7_ofNow_121) ?_
        refine qr_l2i dX7_ofNow_124 ?_
        obtain rfl := Option.some.inj h
        cases hT
        exact qr_iret dX7_ofNow_125
    · rw [if_pos c17] at h
      refine qr_bipush (v := 11) dX7_ofNow_92 (by decide) ?_
      refine qr_goto (tgt := 121) dX7_ofNow_94 (by decide) ?_
      obtain ⟨r16, er16, h⟩ := qm_bind h
      refine qr_call1 (st1 := [.long r16]) rfl (qr_callV (id := 210) (c := 5) (As := [.int v1, .int 11]) (st := []) rfl (by decide) rfl (ct_X7_its (l := l) (E := E) σ v1 11 er16) qw_696 qw_6 qw_693 qw_695 qs_8 yd_X7_its (by decide) (by decide) rfl (Nat.le_of_ble_eq_true rfl) dX7_ofNow_121) ?_
      refine qr_l2i dX7_ofNow_124 ?_
      obtain rfl := Option.some.inj h
      cases hT
      exact qr_iret dX7_ofNow_125
  · rw [if_neg c19] at h
    refine qr_iload_n dX7_ofNow_80 rfl 2 rfl ?_
    refine qr_iconst (v := 1) dX7_ofNow_81 (by decide) ?_
    refine qr_iadd dX7_ofNow_82 ?_
    refine qr_goto (tgt := 121) dX7_ofNow_83 (by decide) ?_
    obtain ⟨r18, er18, h⟩ := qm_bind h
    refine qr_call1 (st1 := [.long r18]) rfl (qr_callV (id := 210) (c := 5) (As := [.int v1, .int (v2 + 1)]) (st := []) rfl (by decide) rfl (ct_X7_its (l := l) (E := E) σ v1 (v2 + 1) er18) qw_696 qw_6 qw_693 qw_695 qs_8 yd_X7_its (by decide) (by decide) rfl (Nat.le_of_ble_eq_true rfl) dX7_ofNow_121) ?_
    refine qr_l2i dX7_ofNow_124 ?_
    obtain rfl := Option.some.inj h
    cases hT
    exact qr_iret dX7_ofNow_125
theorem ct_X7_ofNow {l : Launch} {E : qm_E} (σ : qm_M) (v1 : Int32) (v2 : Int32) {x : Int32} (h : fn_X7_ofNow σ v1 v2 = some x) : qm_Ct l E kd_X7_ofNow yX7_ofNow cX7_ofNow 3 (some .int) [.ref (qm_a E 210), .int v1, .int v2] σ (some (.int x), σ) := qm_ofWp rfl (Nat.le_of_ble_eq_true rfl) (Or.inl rfl) (wf_X7_ofNow σ v1 v2  h rfl)
-- HungStreamsModel.of (II)I
abbrev kd_X7_of : Nat := 6
theorem yd_X7_of : (yX7_of).cls ≠ "java/lang/invoke/MethodHandle" ∧ (yX7_of).cls ≠ "java/lang/invoke/VarHandle" ∧ (parseMethodDescriptor (yX7_of).desc).map (fun d => d.parameters.length) = some 2 := by decide +kernel
def fn_X7_of (σ : qm_M) (v1 : Int32) (v2 : Int32) : Option (Int32 × qm_M) :=
  (fn_X7_isStream σ v1).bind (fun r1 => if (qm_b r1) = 0 then (fn_X7_refuses σ (-2)).bind (fun r2 => some (r2.1, r2.2)) else (fn_X7_in σ v2.toInt64 0 15).bind (fun r3 => if (qm_b r3) = 0 then (fn_X7_refuses σ (-2)).bind (fun r4 => some (r4.1, r4.2)) else (fn_X7_ofNow σ v1 v2).bind (fun r5 => some (r5, σ))))
set_option maxRecDepth 20000 in
theorem wf_X7_of {l : Launch} {E : qm_E} (σ : qm_M) (v1 : Int32) (v2 : Int32) {x : Int32 × qm_M} (h : fn_X7_of σ v1 v2 = some x) {r : Option Value × qm_M} (hT : (fun x r => (some (.int x.1), x.2) = r) x r) : qm_Wp l E kd_X7_of "HungStreamsModel" cX7_of 3 0 [(0, .ref (qm_a E 210)), (1, .int v1), (2, .int v2)] [] σ r := by
  unfold fn_X7_of at h
  refine qr_aload_n dX7_of_0 rfl 0 rfl ?_
  refine qr_iload_n dX7_of_1 rfl 1 rfl ?_
  obtain ⟨r1, er1, h⟩ := qm_bind h
  refine qr_call1 (st1 := [.int (qm_b r1)]) rfl (qr_callV (id := 210) (c := 5) (As := [.int v1]) (st := []) rfl (by decide) rfl (ct_X7_isStream (l := l) (E := E) σ v1 er1) qw_692 qw_6 qw_689 qw_691 qs_7 yd_X7_isStream (by decide) (by decide) rfl (Nat.le_of_ble_eq_true rfl) dX7_of_2) ?_
  refine qr_if_eq (tgt := 29) dX7_of_5 (by decide) (fun c7 => ?_) (fun c7 => ?_)
  · rw [if_pos c7] at h
    refine qr_aload_n dX7_of_29 rfl 0 rfl ?_
    refine qr_bipush (v := (-2)) dX7_of_30 (by decide) ?_
    obtain ⟨r2, er2, h⟩ := qm_bind h
    refine qr_call1 (st1 := [.int r2.1]) rfl (qr_callV (id := 210) (c := 5) (As := [.int (-2)]) (st := []) rfl (by decide) rfl (ct_X7_refuses (l := l) (E := E) σ (-2) er2) qw_701 qw_6 qw_698 qw_700 qs_9 yd_X7_refuses (by decide) (by decide) rfl (Nat.le_of_ble_eq_true rfl) dX7_of_32) ?_
    obtain rfl := Option.some.inj h
    cases hT
    exact qr_iret dX7_of_35
  · rw [if_neg c7] at h
    refine qr_iload_n dX7_of_8 rfl 2 rfl ?_
    refine qr_i2l dX7_of_9 ?_
    refine qr_lconst (v := 0) dX7_of_10 (by decide) ?_
    refine qr_ldc2 qw_778 dX7_of_11 ?_
    obtain ⟨r3, er3, h⟩ := qm_bind h
    refine qr_call1 (st1 := [.int (qm_b r3)]) rfl (qr_callS (As := [.long v2.toInt64, .long 0, .long 15]) (st := []) (ct_X7_in (l := l) (E := E) σ v2.toInt64 0 15 er3) qw_684 qw_6 qw_682 qw_683 yd_X7_in (by decide) (by decide) rfl (Nat.le_of_ble_eq_true rfl) dX7_of_14) ?_
    refine qr_if_eq (tgt := 29) dX7_of_17 (by decide) (fun c6 => ?_) (fun c6 => ?_)
    · rw [if_pos c6] at h
      refine qr_aload_n dX7_of_29 rfl 0 rfl ?_
      refine qr_bipush (v := (-2)) dX7_of_30 (by decide) ?_
      obtain ⟨r4, er4, h⟩ := qm_bind h
      refine qr_call1 (st1 := [.int r4.1]) rfl (qr_callV (id := 210) (c := 5) (As := [.int (-2)]) (st := []) rfl (by decide) rfl (ct_X7_refuses (l := l) (E := E) σ (-2) er4) qw_701 qw_6 qw_698 qw_700 qs_9 yd_X7_refuses (by decide) (by decide) rfl (Nat.le_of_ble_eq_true rfl) dX7_of_32) ?_
      obtain rfl := Option.some.inj h
      cases hT
      exact qr_iret dX7_of_35
    · rw [if_neg c6] at h
      refine qr_aload_n dX7_of_20 rfl 0 rfl ?_
      refine qr_iload_n dX7_of_21 rfl 1 rfl ?_
      refine qr_iload_n dX7_of_22 rfl 2 rfl ?_
      obtain ⟨r5, er5, h⟩ := qm_bind h
      refine qr_call1 (st1 := [.int r5]) rfl (qr_callV (id := 210) (c := 5) (As := [.int v1, .int v2]) (st := []) rfl (by decide) rfl (ct_X7_ofNow (l := l) (E := E) σ v1 v2 er5) qw_782 qw_6 qw_779 qw_781 qs_22 yd_X7_ofNow (by decide) (by decide) rfl (Nat.le_of_ble_eq_true rfl) dX7_of_23) ?_
      refine qr_goto (tgt := 35) dX7_of_26 (by decide) ?_
      obtain rfl := Option.some.inj h
      cases hT
      exact qr_iret dX7_of_35
theorem ct_X7_of {l : Launch} {E : qm_E} (σ : qm_M) (v1 : Int32) (v2 : Int32) {x : Int32 × qm_M} (h : fn_X7_of σ v1 v2 = some x) : qm_Ct l E kd_X7_of yX7_of cX7_of 3 (some .int) [.ref (qm_a E 210), .int v1, .int v2] σ (some (.int x.1), x.2) := qm_ofWp rfl (Nat.le_of_ble_eq_true rfl) (Or.inl rfl) (wf_X7_of σ v1 v2  h rfl)
-- HungStreamsModel.turn (II)J
abbrev kd_X7_turn : Nat := 3
theorem yd_X7_turn : (yX7_turn).cls ≠ "java/lang/invoke/MethodHandle" ∧ (yX7_turn).cls ≠ "java/lang/invoke/VarHandle" ∧ (parseMethodDescriptor (yX7_turn).desc).map (fun d => d.parameters.length) = some 2 := by decide +kernel
def bb_X7_turn_32 (σ : qm_M) (v1 : Int32) (v2 : Int32) (k0 : Int32) : Option (Int64 × qm_M) :=
  if k0 = 0 then (fn_X7_refuses σ (-2)).bind (fun r2 => some (r2.1.toInt64, r2.2)) else if v2 = 0 then (fn_X7_its σ v1 9).bind (fun r4 => some (r4, σ)) else (fn_X7_its σ v1 10).bind (fun r3 => some (r3, σ))
set_option maxRecDepth 20000 in
theorem wb_X7_turn_32 {l : Launch} {E : qm_E} (σ : qm_M) (v1 : Int32) (v2 : Int32) (k0 : Int32) {x : Int64 × qm_M} (h : bb_X7_turn_32 σ v1 v2 k0 = some x) {r : Option Value × qm_M} (hT : (fun x r => (some (.long x.1), x.2) = r) x r) : qm_Wp l E kd_X7_turn "HungStreamsModel" cX7_turn 4 32 [(0, .ref (qm_a E 210)), (1, .int v1), (2, .int v2)] [.int k0] σ r := by
  unfold bb_X7_turn_32 at h
  refine qr_istore_n (lv' := [(3, .int k0), (0, .ref (qm_a E 210)), (1, .int v1), (2, .int v2)]) dX7_turn_32 rfl (by decide) rfl ?_
  refine qr_iload_n dX7_turn_33 rfl 0 rfl ?_
  refine qr_if_eq (tgt := 56) dX7_turn_34 (by decide) (fun c6 => ?_) (fun c6 => ?_)
  · rw [if_pos c6] at h
    refine qr_aload_n dX7_turn_56 rfl 1 rfl ?_
    refine qr_bipush (v := (-2)) dX7_turn_57 (by decide) ?_
    obtain ⟨r2, er2, h⟩ := qm_bind h
    refine qr_call1 (st1 := [.int r2.1]) rfl (qr_callV (id := 210) (c := 5) (As := [.int (-2)]) (st := []) rfl (by decide) rfl (ct_X7_refuses (l := l) (E := E) σ (-2) er2) qw_701 qw_6 qw_698 qw_700 qs_9 yd_X7_refuses (by decide) (by decide) rfl (Nat.le_of_ble_eq_true rfl) dX7_turn_59) ?_
    refine qr_i2l dX7_turn_62 ?_
    obtain rfl := Option.some.inj h
    cases hT
    exact qr_lret dX7_turn_63
  · rw [if_neg c6] at h
    refine qr_aload_n dX7_turn_37 rfl 1 rfl ?_
    refine qr_iload_n dX7_turn_38 rfl 2 rfl ?_
    refine qr_iload_n dX7_turn_39 rfl 3 rfl ?_
    refine qr_if_ne (tgt := 48) dX7_turn_40 (by decide) (fun c5 => ?_) (fun c5 => ?_)
    · rw [if_neg c5] at h
      refine qr_bipush (v := 10) dX7_turn_48 (by decide) ?_
      obtain ⟨r3, er3, h⟩ := qm_bind h
      refine qr_call1 (st1 := [.long r3]) rfl (qr_callV (id := 210) (c := 5) (As := [.int v1, .int 10]) (st := []) rfl (by decide) rfl (ct_X7_its (l := l) (E := E) σ v1 10 er3) qw_696 qw_6 qw_693 qw_695 qs_8 yd_X7_its (by decide) (by decide) rfl (Nat.le_of_ble_eq_true rfl) dX7_turn_50) ?_
      refine qr_goto (tgt := 63) dX7_turn_53 (by decide) ?_
      obtain rfl := Option.some.inj h
      cases hT
      exact qr_lret dX7_turn_63
    · rw [if_pos c5] at h
      refine qr_bipush (v := 9) dX7_turn_43 (by decide) ?_
      refine qr_goto (tgt := 50) dX7_turn_45 (by decide) ?_
      obtain ⟨r4, er4, h⟩ := qm_bind h
      refine qr_call1 (st1 := [.long r4]) rfl (qr_callV (id := 210) (c := 5) (As := [.int v1, .int 9]) (st := []) rfl (by decide) rfl (ct_X7_its (l := l) (E := E) σ v1 9 er4) qw_696 qw_6 qw_693 qw_695 qs_8 yd_X7_its (by decide) (by decide) rfl (Nat.le_of_ble_eq_true rfl) dX7_turn_50) ?_
      refine qr_goto (tgt := 63) dX7_turn_53 (by decide) ?_
      obtain rfl := Option.some.inj h
      cases hT
      exact qr_lret dX7_turn_63
def bb_X7_turn_18 (σ : qm_M) (v1 : Int32) (v2 : Int32) : Option (Int64 × qm_M) :=
  if v1 = 0 then if v2 = 1 then bb_X7_turn_32 σ v1 v2 1 else bb_X7_turn_32 σ v1 v2 0 else bb_X7_turn_32 σ v1 v2 0
set_option maxRecDepth 20000 in
theorem wb_X7_turn_18 {l : Launch} {E : qm_E} (σ : qm_M) (v1 : Int32) (v2 : Int32) {x : Int64 × qm_M} (h : bb_X7_turn_18 σ v1 v2 = some x) {r : Option Value × qm_M} (hT : (fun x r => (some (.long x.1), x.2) = r) x r) : qm_Wp l E kd_X7_turn "HungStreamsModel" cX7_turn 4 18 [(0, .ref (qm_a E 210)), (1, .int v1), (2, .int v2)] [] σ r := by
  unfold bb_X7_turn_18 at h
  refine qr_iload_n dX7_turn_18 rfl 1 rfl ?_
  refine qr_if_ne (tgt := 31) dX7_turn_19 (by decide) (fun c8 => ?_) (fun c8 => ?_)
  · rw [if_neg c8] at h
    refine qr_iconst (v := 0) dX7_turn_31 (by decide) ?_
    exact qr_sub [0, 1, 2] rfl (wb_X7_turn_32 (l := l) (E := E) σ v1 v2 0 h hT)
  · rw [if_pos c8] at h
    refine qr_iload_n dX7_turn_22 rfl 2 rfl ?_
    refine qr_iconst (v := 1) dX7_turn_23 (by decide) ?_
    refine qr_icmp_ne (tgt := 31) dX7_turn_24 (by decide) (fun c7 => ?_) (fun c7 => ?_)
    · rw [if_neg c7] at h
      refine qr_iconst (v := 0) dX7_turn_31 (by decide) ?_
      exact qr_sub [0, 1, 2] rfl (wb_X7_turn_32 (l := l) (E := E) σ v1 v2 0 h hT)
    · rw [if_pos c7] at h
      refine qr_iconst (v := 1) dX7_turn_27 (by decide) ?_
      refine qr_goto (tgt := 32) dX7_turn_28 (by decide) ?_
      exact qr_sub [0, 1, 2] rfl (wb_X7_turn_32 (l := l) (E := E) σ v1 v2 1 h hT)
def fn_X7_turn (σ : qm_M) (v1 : Int32) (v2 : Int32) : Option (Int64 × qm_M) :=
  (fn_X7_isStream σ v1).bind (fun r1 => if (qm_b r1) = 0 then bb_X7_turn_18 σ v1 v2 else (fn_X7_in σ v2.toInt64 0 1).bind (fun r9 => if (qm_b r9) = 0 then bb_X7_turn_18 σ v1 v2 else bb_X7_turn_32 σ v1 v2 1))
set_option maxRecDepth 20000 in
theorem wf_X7_turn {l : Launch} {E : qm_E} (σ : qm_M) (v1 : Int32) (v2 : Int32) {x : Int64 × qm_M} (h : fn_X7_turn σ v1 v2 = some x) {r : Option Value × qm_M} (hT : (fun x r => (some (.long x.1), x.2) = r) x r) : qm_Wp l E kd_X7_turn "HungStreamsModel" cX7_turn 4 0 [(0, .ref (qm_a E 210)), (1, .int v1), (2, .int v2)] [] σ r := by
  unfold fn_X7_turn at h
  refine qr_aload_n dX7_turn_0 rfl 0 rfl ?_
  refine qr_iload_n dX7_turn_1 rfl 1 rfl ?_
  obtain ⟨r1, er1, h⟩ := qm_bind h
  refine qr_call1 (st1 := [.int (qm_b r1)]) rfl (qr_callV (id := 210) (c := 5) (As := [.int v1]) (st := []) rfl (by decide) rfl (ct_X7_isStream (l := l) (E := E) σ v1 er1) qw_692 qw_6 qw_689 qw_691 qs_7 yd_X7_isStream (by decide) (by decide) rfl (Nat.le_of_ble_eq_true rfl) dX7_turn_2) ?_
  refine qr_if_eq (tgt := 18) dX7_turn_5 (by decide) (fun c11 => ?_) (fun c11 => ?_)
  · rw [if_pos c11] at h
    exact qr_sub [0, 1, 2] rfl (wb_X7_turn_18 (l := l) (E := E) σ v1 v2 h hT)
  · rw [if_neg c11] at h
    refine qr_iload_n dX7_turn_8 rfl 2 rfl ?_
    refine qr_i2l dX7_turn_9 ?_
    refine qr_lconst (v := 0) dX7_turn_10 (by decide) ?_
    refine qr_lconst (v := 1) dX7_turn_11 (by decide) ?_
    obtain ⟨r9, er9, h⟩ := qm_bind h
    refine qr_call1 (st1 := [.int (qm_b r9)]) rfl (qr_callS (As := [.long v2.toInt64, .long 0, .long 1]) (st := []) (ct_X7_in (l := l) (E := E) σ v2.toInt64 0 1 er9) qw_684 qw_6 qw_682 qw_683 yd_X7_in (by decide) (by decide) rfl (Nat.le_of_ble_eq_true rfl) dX7_turn_12) ?_
    refine qr_if_ne (tgt := 27) dX7_turn_15 (by decide) (fun c10 => ?_) (fun c10 => ?_)
    · rw [if_neg c10] at h
      refine qr_iconst (v := 1) dX7_turn_27 (by decide) ?_
      refine qr_goto (tgt := 32) dX7_turn_28 (by decide) ?_
      exact qr_sub [0, 1, 2] rfl (wb_X7_turn_32 (l := l) (E := E) σ v1 v2 1 h hT)
    · rw [if_pos c10] at h
      exact qr_sub [0, 1, 2] rfl (wb_X7_turn_18 (l := l) (E := E) σ v1 v2 h hT)
theorem ct_X7_turn {l : Launch} {E : qm_E} (σ : qm_M) (v1 : Int32) (v2 : Int32) {x : Int64 × qm_M} (h : fn_X7_turn σ v1 v2 = some x) : qm_Ct l E kd_X7_turn yX7_turn cX7_turn 4 (some .long) [.ref (qm_a E 210), .int v1, .int v2] σ (some (.long x.1), x.2) := qm_ofWp rfl (Nat.le_of_ble_eq_true rfl) (rfl) (wf_X7_turn σ v1 v2  h rfl)
-- HungStreamsModel.child (II)I
abbrev kd_X7_child : Nat := 4
theorem yd_X7_child : (yX7_child).cls ≠ "java/lang/invoke/MethodHandle" ∧ (yX7_child).cls ≠ "java/lang/invoke/VarHandle" ∧ (parseMethodDescriptor (yX7_child).desc).map (fun d => d.parameters.length) = some 2 := by decide +kernel
abbrev pp_X7_child_24 (l : Launch) (E : qm_E) (σ : qm_M) (v1 : Int32) : (Int32 × Int32) → Option Value × qm_M → Prop := fun s r => qm_Wp l E kd_X7_child "HungStreamsModel" cX7_child 5 24 [(0, .ref (qm_a E 210)), (1, .int v1), (3, .int s.1), (4, .int s.2)] [] σ r
def bb_X7_child_24 (σ : qm_M) (v1 : Int32) (v3 : Int32) (v4 : Int32) : Option ((Int32 × Int32) ⊕ (Int32 × qm_M)) :=
  if 12 < v4 then (some ((-1), σ)).bind (fun y => some (.inr y)) else (fn_X7_isChild σ v4 v1).bind (fun r4 => if (qm_b r4) = 0 then (some (v4 + 1)).bind (fun z5 => some (.inl (v3, z5))) else if v3 = 0 then (some (v4, σ)).bind (fun y => some (.inr y)) else (some (v3 + (-1))).bind (fun z6 => (some (v4 + 1)).bind (fun z7 => some (.inl (z6, z7)))))
set_option maxRecDepth 20000 in
theorem wb_X7_child_24 {l : Launch} {E : qm_E} (σ : qm_M) (v1 : Int32) (v3 : Int32) (v4 : Int32) {x : (Int32 × Int32) ⊕ (Int32 × qm_M)} (h : bb_X7_child_24 σ v1 v3 v4 = some x) {r : Option Value × qm_M} (hT : (qm_T (pp_X7_child_24 l E σ v1) (fun x r => (some (.int x.1), x.2) = r)) x r) : qm_Wp l E kd_X7_child "HungStreamsModel" cX7_child 5 24 [(0, .ref (qm_a E 210)), (1, .int v1), (3, .int v3), (4, .int v4)] [] σ r := by
  unfold bb_X7_child_24 at h
  refine qr_iload dX7_child_24 3 rfl ?_
  refine qr_bipush (v := 12) dX7_child_26 (by decide) ?_
  refine qr_icmp_gt (tgt := 57) dX7_child_28 (by decide) (fun c11 => ?_) (fun c11 => ?_)
  · rw [if_pos c11] at h
    obtain ⟨y3, h1, hx⟩ := qm_bind h
    clear h
    cases hx
    have h := h1
    refine qr_iconst (v := (-1)) dX7_child_57 (by decide) ?_
    obtain rfl := Option.some.inj h
    cases hT
    exact qr_iret dX7_child_58
  · rw [if_neg c11] at h
    refine qr_aload_n dX7_child_31 rfl 0 rfl ?_
    refine qr_iload dX7_child_32 3 rfl ?_
    refine qr_iload_n dX7_child_34 rfl 1 rfl ?_
    obtain ⟨r4, er4, h⟩ := qm_bind h
    refine qr_call1 (st1 := [.int (qm_b r4)]) rfl (qr_callV (id := 210) (c := 5) (As := [.int v4, .int v1]) (st := []) rfl (by decide) rfl (ct_X7_isChild (l := l) (E := E) σ v4 v1 er4) qw_723 qw_6 qw_720 qw_722 qs_14 yd_X7_isChild (by decide) (by decide) rfl (Nat.le_of_ble_eq_true rfl) dX7_child_35) ?_
    refine qr_if_eq (tgt := 51) dX7_child_38 (by decide) (fun c10 => ?_) (fun c10 => ?_)
    · rw [if_pos c10] at h
      obtain ⟨z5, ez5, h⟩ := qm_bind h
      refine qr_iinc (q := 3) (v := z5) (lv' := [(4, .int z5), (0, .ref (qm_a E 210)), (1, .int v1), (3, .int v3)]) dX7_child_51 rfl (Option.some.inj ez5) (by decide) rfl ?_
      refine qr_goto (tgt := 24) dX7_child_54 (by decide) ?_
      obtain rfl := Option.some.inj h
      exact qr_sub [1, 2, 3, 0] rfl hT
    · rw [if_neg c10] at h
      refine qr_iload_n dX7_child_41 rfl 2 rfl ?_
      refine qr_if_ne (tgt := 48) dX7_child_42 (by decide) (fun c9 => ?_) (fun c9 => ?_)
      · rw [if_neg c9] at h
        obtain ⟨z6, ez6, h⟩ := qm_bind h
        refine qr_iinc (q := 2) (v := z6) (lv' := [(3, .int z6), (0, .ref (qm_a E 210)), (1, .int v1), (4, .int v4)]) dX7_child_48 rfl (Option.some.inj ez6) (by decide) rfl ?_
        obtain ⟨z7, ez7, h⟩ := qm_bind h
        refine qr_iinc (q := 3) (v := z7) (lv' := [(4, .int z7), (3, .int z6), (0, .ref (qm_a E 210)), (1, .int v1)]) dX7_child_51 rfl (Option.some.inj ez7) (by decide) rfl ?_
        refine qr_goto (tgt := 24) dX7_child_54 (by decide) ?_
        obtain rfl := Option.some.inj h
        exact qr_sub [2, 3, 1, 0] rfl hT
      · rw [if_pos c9] at h
        obtain ⟨y8, h1, hx⟩ := qm_bind h
        clear h
        cases hx
        have h := h1
        refine qr_iload dX7_child_45 3 rfl ?_
        obtain rfl := Option.some.inj h
        cases hT
        exact qr_iret dX7_child_47
def lp_X7_child_24 (σ : qm_M) (v1 : Int32) (v3 : Int32) (v4 : Int32) : Option (Int32 × qm_M) := qm_loop (fun s : Int32 × Int32 => bb_X7_child_24 σ v1 s.1 s.2) 1000 (v3, v4)
theorem wl_X7_child_24 {l : Launch} {E : qm_E} (σ : qm_M) (v1 : Int32) (v3 : Int32) (v4 : Int32) {x : Int32 × qm_M} (h : lp_X7_child_24 σ v1 v3 v4 = some x) {r : Option Value × qm_M} (hT : (fun x r => (some (.int x.1), x.2) = r) x r) : qm_Wp l E kd_X7_child "HungStreamsModel" cX7_child 5 24 [(0, .ref (qm_a E 210)), (1, .int v1), (3, .int v3), (4, .int v4)] [] σ r :=
  qm_loop_T (P := pp_X7_child_24 l E σ v1) (T1 := (fun x r => (some (.int x.1), x.2) = r)) (fun s x h r hT => wb_X7_child_24 (l := l) (E := E) σ v1 s.1 s.2  h hT) h hT
def fn_X7_child (σ : qm_M) (v1 : Int32) (v2 : Int32) : Option (Int32 × qm_M) :=
  (fn_X7_isPlace σ v1).bind (fun r1 => if (qm_b r1) = 0 then (fn_X7_refuses σ (-2)).bind (fun r2 => some (r2.1, r2.2)) else if 0 ≤ v2 then lp_X7_child_24 σ v1 v2 1 else (fn_X7_refuses σ (-2)).bind (fun r12 => some (r12.1, r12.2)))
set_option maxRecDepth 20000 in
theorem wf_X7_child {l : Launch} {E : qm_E} (σ : qm_M) (v1 : Int32) (v2 : Int32) {x : Int32 × qm_M} (h : fn_X7_child σ v1 v2 = some x) {r : Option Value × qm_M} (hT : (fun x r => (some (.int x.1), x.2) = r) x r) : qm_Wp l E kd_X7_child "HungStreamsModel" cX7_child 5 0 [(0, .ref (qm_a E 210)), (1, .int v1), (2, .int v2)] [] σ r := by
  unfold fn_X7_child at h
  refine qr_aload_n dX7_child_0 rfl 0 rfl ?_
  refine qr_iload_n dX7_child_1 rfl 1 rfl ?_
  obtain ⟨r1, er1, h⟩ := qm_bind h
  refine qr_call1 (st1 := [.int (qm_b r1)]) rfl (qr_callV (id := 210) (c := 5) (As := [.int v1]) (st := []) rfl (by decide) rfl (ct_X7_isPlace (l := l) (E := E) σ v1 er1) qw_688 qw_6 qw_685 qw_687 qs_6 yd_X7_isPlace (by decide) (by decide) rfl (Nat.le_of_ble_eq_true rfl) dX7_child_2) ?_
  refine qr_if_eq (tgt := 12) dX7_child_5 (by decide) (fun c14 => ?_) (fun c14 => ?_)
  · rw [if_pos c14] at h
    refine qr_aload_n dX7_child_12 rfl 0 rfl ?_
    refine qr_bipush (v := (-2)) dX7_child_13 (by decide) ?_
    obtain ⟨r2, er2, h⟩ := qm_bind h
    refine qr_call1 (st1 := [.int r2.1]) rfl (qr_callV (id := 210) (c := 5) (As := [.int (-2)]) (st := []) rfl (by decide) rfl (ct_X7_refuses (l := l) (E := E) σ (-2) er2) qw_701 qw_6 qw_698 qw_700 qs_9 yd_X7_refuses (by decide) (by decide) rfl (Nat.le_of_ble_eq_true rfl) dX7_child_15) ?_
    obtain rfl := Option.some.inj h
    cases hT
    exact qr_iret dX7_child_18
  · rw [if_neg c14] at h
    refine qr_iload_n dX7_child_8 rfl 2 rfl ?_
    refine qr_if_ge (tgt := 19) dX7_child_9 (by decide) (fun c13 => ?_) (fun c13 => ?_)
    · rw [if_pos c13] at h
      refine qr_iload_n dX7_child_19 rfl 2 rfl ?_
      refine qr_istore_n (lv' := [(3, .int v2), (0, .ref (qm_a E 210)), (1, .int v1), (2, .int v2)]) dX7_child_20 rfl (by decide) rfl ?_
      refine qr_iconst (v := 1) dX7_child_21 (by decide) ?_
      refine qr_istore (lv' := [(4, .int 1), (3, .int v2), (0, .ref (qm_a E 210)), (1, .int v1), (2, .int v2)]) dX7_child_22 (by decide) rfl ?_
      exact qr_sub [2, 3, 1, 0] rfl (wl_X7_child_24 (l := l) (E := E) σ v1 v2 1 h hT)
    · rw [if_neg c13] at h
      refine qr_aload_n dX7_child_12 rfl 0 rfl ?_
      refine qr_bipush (v := (-2)) dX7_child_13 (by decide) ?_
      obtain ⟨r12, er12, h⟩ := qm_bind h
      refine qr_call1 (st1 := [.int r12.1]) rfl (qr_callV (id := 210) (c := 5) (As := [.int (-2)]) (st := []) rfl (by decide) rfl (ct_X7_refuses (l := l) (E := E) σ (-2) er12) qw_701 qw_6 qw_698 qw_700 qs_9 yd_X7_refuses (by decide) (by decide) rfl (Nat.le_of_ble_eq_true rfl) dX7_child_15) ?_
      obtain rfl := Option.some.inj h
      cases hT
      exact qr_iret dX7_child_18
theorem ct_X7_child {l : Launch} {E : qm_E} (σ : qm_M) (v1 : Int32) (v2 : Int32) {x : Int32 × qm_M} (h : fn_X7_child σ v1 v2 = some x) : qm_Ct l E kd_X7_child yX7_child cX7_child 5 (some .int) [.ref (qm_a E 210), .int v1, .int v2] σ (some (.int x.1), x.2) := qm_ofWp rfl (Nat.le_of_ble_eq_true rfl) (Or.inl rfl) (wf_X7_child σ v1 v2  h rfl)
-- HungStreamsModel.common (II)I
abbrev kd_X7_common : Nat := 4
theorem yd_X7_common : (yX7_common).cls ≠ "java/lang/invoke/MethodHandle" ∧ (yX7_common).cls ≠ "java/lang/invoke/VarHandle" ∧ (parseMethodDescriptor (yX7_common).desc).map (fun d => d.parameters.length) = some 2 := by decide +kernel
abbrev pp_X7_common_25 (l : Launch) (E : qm_E) (σ : qm_M) (v2 : Int32) : Int32 → Option Value × qm_M → Prop := fun s r => qm_Wp l E kd_X7_common "HungStreamsModel" cX7_common 4 25 [(0, .ref (qm_a E 210)), (2, .int v2), (3, .int s)] [] σ r
def bb_X7_common_25 (σ : qm_M) (v2 : Int32) (v3 : Int32) : Option ((Int32) ⊕ (Int32 × qm_M)) :=
  if v3 = 0 then (some (v3, σ)).bind (fun y => some (.inr y)) else if v3 = v2 then (some (v3, σ)).bind (fun y => some (.inr y)) else (fn_X7_isBelow σ v2 v3).bind (fun r6 => if (qm_b r6) = 0 then (fn_X7_parent σ v3).bind (fun r8 => some (.inl r8)) else (some (v3, σ)).bind (fun y => some (.inr y)))
set_option maxRecDepth 20000 in
theorem wb_X7_common_25 {l : Launch} {E : qm_E} (σ : qm_M) (v2 : Int32) (v3 : Int32) {x : (Int32) ⊕ (Int32 × qm_M)} (h : bb_X7_common_25 σ v2 v3 = some x) {r : Option Value × qm_M} (hT : (qm_T (pp_X7_common_25 l E σ v2) (fun x r => (some (.int x.1), x.2) = r)) x r) : qm_Wp l E kd_X7_common "HungStreamsModel" cX7_common 4 25 [(0, .ref (qm_a E 210)), (2, .int v2), (3, .int v3)] [] σ r := by
  unfold bb_X7_common_25 at h
  refine qr_iload_n dX7_common_25 rfl 2 rfl ?_
  refine qr_if_eq (tgt := 52) dX7_common_26 (by decide) (fun c11 => ?_) (fun c11 => ?_)
  · rw [if_pos c11] at h
    obtain ⟨y4, h1, hx⟩ := qm_bind h
    clear h
    cases hx
    have h := h1
    refine qr_iload_n dX7_common_52 rfl 2 rfl ?_
    obtain rfl := Option.some.inj h
    cases hT
    exact qr_iret dX7_common_53
  · rw [if_neg c11] at h
    refine qr_iload_n dX7_common_29 rfl 2 rfl ?_
    refine qr_iload_n dX7_common_30 rfl 1 rfl ?_
    refine qr_icmp_eq (tgt := 52) dX7_common_31 (by decide) (fun c10 => ?_) (fun c10 => ?_)
    · rw [if_pos c10] at h
      obtain ⟨y5, h1, hx⟩ := qm_bind h
      clear h
      cases hx
      have h := h1
      refine qr_iload_n dX7_common_52 rfl 2 rfl ?_
      obtain rfl := Option.some.inj h
      cases hT
      exact qr_iret dX7_common_53
    · rw [if_neg c10] at h
      refine qr_aload_n dX7_common_34 rfl 0 rfl ?_
      refine qr_iload_n dX7_common_35 rfl 1 rfl ?_
      refine qr_iload_n dX7_common_36 rfl 2 rfl ?_
      obtain ⟨r6, er6, h⟩ := qm_bind h
      refine qr_call1 (st1 := [.int (qm_b r6)]) rfl (qr_callV (id := 210) (c := 5) (As := [.int v2, .int v3]) (st := []) rfl (by decide) rfl (ct_X7_isBelow (l := l) (E := E) σ v2 v3 er6) qw_743 qw_6 qw_740 qw_742 qs_18 yd_X7_isBelow (by decide) (by decide) rfl (Nat.le_of_ble_eq_true rfl) dX7_common_37) ?_
      refine qr_if_ne (tgt := 52) dX7_common_40 (by decide) (fun c9 => ?_) (fun c9 => ?_)
      · rw [if_neg c9] at h
        obtain ⟨y7, h1, hx⟩ := qm_bind h
        clear h
        cases hx
        have h := h1
        refine qr_iload_n dX7_common_52 rfl 2 rfl ?_
        obtain rfl := Option.some.inj h
        cases hT
        exact qr_iret dX7_common_53
      · rw [if_pos c9] at h
        refine qr_aload_n dX7_common_43 rfl 0 rfl ?_
        refine qr_iload_n dX7_common_44 rfl 2 rfl ?_
        obtain ⟨r8, er8, h⟩ := qm_bind h
        refine qr_call1 (st1 := [.int r8]) rfl (qr_callV (id := 210) (c := 5) (As := [.int v3]) (st := []) rfl (by decide) rfl (ct_X7_parent (l := l) (E := E) σ v3 er8) qw_727 qw_6 qw_724 qw_726 qs_15 yd_X7_parent (by decide) (by decide) rfl (Nat.le_of_ble_eq_true rfl) dX7_common_45) ?_
        refine qr_istore_n (lv' := [(3, .int r8), (0, .ref (qm_a E 210)), (2, .int v2)]) dX7_common_48 rfl (by decide) rfl ?_
        refine qr_goto (tgt := 25) dX7_common_49 (by decide) ?_
        obtain rfl := Option.some.inj h
        exact qr_sub [1, 2, 0] rfl hT
def lp_X7_common_25 (σ : qm_M) (v2 : Int32) (v3 : Int32) : Option (Int32 × qm_M) := qm_loop (fun s : Int32 => bb_X7_common_25 σ v2 s) 1000 v3
theorem wl_X7_common_25 {l : Launch} {E : qm_E} (σ : qm_M) (v2 : Int32) (v3 : Int32) {x : Int32 × qm_M} (h : lp_X7_common_25 σ v2 v3 = some x) {r : Option Value × qm_M} (hT : (fun x r => (some (.int x.1), x.2) = r) x r) : qm_Wp l E kd_X7_common "HungStreamsModel" cX7_common 4 25 [(0, .ref (qm_a E 210)), (2, .int v2), (3, .int v3)] [] σ r :=
  qm_loop_T (P := pp_X7_common_25 l E σ v2) (T1 := (fun x r => (some (.int x.1), x.2) = r)) (fun s x h r hT => wb_X7_common_25 (l := l) (E := E) σ v2 s  h hT) h hT
def fn_X7_common (σ : qm_M) (v1 : Int32) (v2 : Int32) : Option (Int32 × qm_M) :=
  (fn_X7_isStream σ v1).bind (fun r1 => if (qm_b r1) = 0 then (fn_X7_refuses σ (-2)).bind (fun r2 => some (r2.1, r2.2)) else (fn_X7_isStream σ v2).bind (fun r3 => if (qm_b r3) = 0 then (fn_X7_refuses σ (-2)).bind (fun r12 => some (r12.1, r12.2)) else lp_X7_common_25 σ v2 v1))
set_option maxRecDepth 20000 in
theorem wf_X7_common {l : Launch} {E : qm_E} (σ : qm_M) (v1 : Int32) (v2 : Int32) {x : Int32 × qm_M} (h : fn_X7_common σ v1 v2 = some x) {r : Option Value × qm_M} (hT : (fun x r => (some (.int x.1), x.2) = r) x r) : qm_Wp l E kd_X7_common "HungStreamsModel" cX7_common 4 0 [(0, .ref (qm_a E 210)), (1, .int v1), (2, .int v2)] [] σ r := by
  unfold fn_X7_common at h
  refine qr_aload_n dX7_common_0 rfl 0 rfl ?_
  refine qr_iload_n dX7_common_1 rfl 1 rfl ?_
  obtain ⟨r1, er1, h⟩ := qm_bind h
  refine qr_call1 (st1 := [.int (qm_b r1)]) rfl (qr_callV (id := 210) (c := 5) (As := [.int v1]) (st := []) rfl (by decide) rfl (ct_X7_isStream (l := l) (E := E) σ v1 er1) qw_692 qw_6 qw_689 qw_691 qs_7 yd_X7_isStream (by decide) (by decide) rfl (Nat.le_of_ble_eq_true rfl) dX7_common_2) ?_
  refine qr_if_eq (tgt := 16) dX7_common_5 (by decide) (fun c14 => ?_) (fun c14 => ?_)
  · rw [if_pos c14] at h
    refine qr_aload_n dX7_common_16 rfl 0 rfl ?_
    refine qr_bipush (v := (-2)) dX7_common_17 (by decide) ?_
    obtain ⟨r2, er2, h⟩ := qm_bind h
    refine qr_call1 (st1 := [.int r2.1]) rfl (qr_callV (id := 210) (c := 5) (As := [.int (-2)]) (st := []) rfl (by decide) rfl (ct_X7_refuses (l := l) (E := E) σ (-2) er2) qw_701 qw_6 qw_698 qw_700 qs_9 yd_X7_refuses (by decide) (by decide) rfl (Nat.le_of_ble_eq_true rfl) dX7_common_19) ?_
    obtain rfl := Option.some.inj h
    cases hT
    exact qr_iret dX7_common_22
  · rw [if_neg c14] at h
    refine qr_aload_n dX7_common_8 rfl 0 rfl ?_
    refine qr_iload_n dX7_common_9 rfl 2 rfl ?_
    obtain ⟨r3, er3, h⟩ := qm_bind h
    refine qr_call1 (st1 := [.int (qm_b r3)]) rfl (qr_callV (id := 210) (c := 5) (As := [.int v2]) (st := []) rfl (by decide) rfl (ct_X7_isStream (l := l) (E := E) σ v2 er3) qw_692 qw_6 qw_689 qw_691 qs_7 yd_X7_isStream (by decide) (by decide) rfl (Nat.le_of_ble_eq_true rfl) dX7_common_10) ?_
    refine qr_if_ne (tgt := 23) dX7_common_13 (by decide) (fun c13 => ?_) (fun c13 => ?_)
    · rw [if_neg c13] at h
      refine qr_iload_n dX7_common_23 rfl 1 rfl ?_
      refine qr_istore_n (lv' := [(3, .int v1), (0, .ref (qm_a E 210)), (1, .int v1), (2, .int v2)]) dX7_common_24 rfl (by decide) rfl ?_
      exact qr_sub [1, 3, 0] rfl (wl_X7_common_25 (l := l) (E := E) σ v2 v1 h hT)
    · rw [if_pos c13] at h
      refine qr_aload_n dX7_common_16 rfl 0 rfl ?_
      refine qr_bipush (v := (-2)) dX7_common_17 (by decide) ?_
      obtain ⟨r12, er12, h⟩ := qm_bind h
      refine qr_call1 (st1 := [.int r12.1]) rfl (qr_callV (id := 210) (c := 5) (As := [.int (-2)]) (st := []) rfl (by decide) rfl (ct_X7_refuses (l := l) (E := E) σ (-2) er12) qw_701 qw_6 qw_698 qw_700 qs_9 yd_X7_refuses (by decide) (by decide) rfl (Nat.le_of_ble_eq_true rfl) dX7_common_19) ?_
      obtain rfl := Option.some.inj h
      cases hT
      exact qr_iret dX7_common_22
theorem ct_X7_common {l : Launch} {E : qm_E} (σ : qm_M) (v1 : Int32) (v2 : Int32) {x : Int32 × qm_M} (h : fn_X7_common σ v1 v2 = some x) : qm_Ct l E kd_X7_common yX7_common cX7_common 4 (some .int) [.ref (qm_a E 210), .int v1, .int v2] σ (some (.int x.1), x.2) := qm_ofWp rfl (Nat.le_of_ble_eq_true rfl) (Or.inl rfl) (wf_X7_common σ v1 v2  h rfl)
-- HungStreamsModel.readies (II)I
abbrev kd_X7_readies : Nat := 3
theorem yd_X7_readies : (yX7_readies).cls ≠ "java/lang/invoke/MethodHandle" ∧ (yX7_readies).cls ≠ "java/lang/invoke/VarHandle" ∧ (parseMethodDescriptor (yX7_readies).desc).map (fun d => d.parameters.length) = some 2 := by decide +kernel
def fn_X7_readies (σ : qm_M) (v1 : Int32) (v2 : Int32) : Option (Int32 × qm_M) :=
  (fn_X7_isStream σ v1).bind (fun r1 => if (qm_b r1) = 0 then (fn_X7_refuses σ (-2)).bind (fun r2 => some (r2.1, r2.2)) else (fn_X7_in σ v2.toInt64 1 9999).bind (fun r3 => if (qm_b r3) = 0 then (fn_X7_refuses σ (-2)).bind (fun r14 => some (r14.1, r14.2)) else (fn_X7_its σ v1 7).bind (fun r4 => if (lg_cmp r4 0) = 0 then (fn_X7_refuses σ (-3)).bind (fun r5 => some (r5.1, r5.2)) else (fn_X7_its σ v1 3).bind (fun r6 => if (lg_cmp (r6 + v2.toInt64) 9999) ≤ 0 then (fn_X7_keep σ ).bind (fun r7 => (fn_X7_its r7 v1 3).bind (fun r8 => (fn_X7_puts r7 v1 3 (r8 + v2.toInt64)).bind (fun r9 => (fn_X7_its r9 v1 3).bind (fun r10 => some (r10.toInt32, r9))))) else (fn_X7_refuses σ (-3)).bind (fun r11 => some (r11.1, r11.2))))))
set_option maxRecDepth 20000 in
theorem wf_X7_readies {l : Launch} {E : qm_E} (σ : qm_M) (v1 : Int32) (v2 : Int32) {x : Int32 × qm_M} (h : fn_X7_readies σ v1 v2 = some x) {r : Option Value × qm_M} (hT : (fun x r => (some (.int x.1), x.2) = r) x r) : qm_Wp l E kd_X7_readies "HungStreamsModel" cX7_readies 3 0 [(0, .ref (qm_a E 210)), (1, .int v1), (2, .int v2)] [] σ r := by
  unfold fn_X7_readies at h
  refine qr_aload_n dX7_readies_0 rfl 0 rfl ?_
  refine qr_iload_n dX7_readies_1 rfl 1 rfl ?_
  obtain ⟨r1, er1, h⟩ := qm_bind h
  refine qr_call1 (st1 := [.int (qm_b r1)]) rfl (qr_callV (id := 210) (c := 5) (As := [.int v1]) (st := []) rfl (by decide) rfl (ct_X7_isStream (l := l) (E := E) σ v1 er1) qw_692 qw_6 qw_689 qw_691 qs_7 yd_X7_isStream (by decide) (by decide) rfl (Nat.le_of_ble_eq_true rfl) dX7_readies_2) ?_
  refine qr_if_eq (tgt := 20) dX7_readies_5 (by decide) (fun c16 => ?_) (fun c16 => ?_)
  · rw [if_pos c16] at h
    refine qr_aload_n dX7_readies_20 rfl 0 rfl ?_
    refine qr_bipush (v := (-2)) dX7_readies_21 (by decide) ?_
    obtain ⟨r2, er2, h⟩ := qm_bind h
    refine qr_call1 (st1 := [.int r2.1]) rfl (qr_callV (id := 210) (c := 5) (As := [.int (-2)]) (st := []) rfl (by decide) rfl (ct_X7_refuses (l := l) (E := E) σ (-2) er2) qw_701 qw_6 qw_698 qw_700 qs_9 yd_X7_refuses (by decide) (by decide) rfl (Nat.le_of_ble_eq_true rfl) dX7_readies_23) ?_
    obtain rfl := Option.some.inj h
    cases hT
    exact qr_iret dX7_readies_26
  · rw [if_neg c16] at h
    refine qr_iload_n dX7_readies_8 rfl 2 rfl ?_
    refine qr_i2l dX7_readies_9 ?_
    refine qr_lconst (v := 1) dX7_readies_10 (by decide) ?_
    refine qr_ldc2 qw_811 dX7_readies_11 ?_
    obtain ⟨r3, er3, h⟩ := qm_bind h
    refine qr_call1 (st1 := [.int (qm_b r3)]) rfl (qr_callS (As := [.long v2.toInt64, .long 1, .long 9999]) (st := []) (ct_X7_in (l := l) (E := E) σ v2.toInt64 1 9999 er3) qw_684 qw_6 qw_682 qw_683 yd_X7_in (by decide) (by decide) rfl (Nat.le_of_ble_eq_true rfl) dX7_readies_14) ?_
    refine qr_if_ne (tgt := 27) dX7_readies_17 (by decide) (fun c15 => ?_) (fun c15 => ?_)
    · rw [if_neg c15] at h
      refine qr_aload_n dX7_readies_27 rfl 0 rfl ?_
      refine qr_iload_n dX7_readies_28 rfl 1 rfl ?_
      refine qr_bipush (v := 7) dX7_readies_29 (by decide) ?_
      obtain ⟨r4, er4, h⟩ := qm_bind h
      refine qr_call1 (st1 := [.long r4]) rfl (qr_callV (id := 210) (c := 5) (As := [.int v1, .int 7]) (st := []) rfl (by decide) rfl (ct_X7_its (l := l) (E := E) σ v1 7 er4) qw_696 qw_6 qw_693 qw_695 qs_8 yd_X7_its (by decide) (by decide) rfl (Nat.le_of_ble_eq_true rfl) dX7_readies_31) ?_
      refine qr_lconst (v := 0) dX7_readies_34 (by decide) ?_
      refine qr_lcmp dX7_readies_35 ?_
      refine qr_if_eq (tgt := 55) dX7_readies_36 (by decide) (fun c13 => ?_) (fun c13 => ?_)
      · rw [if_pos c13] at h
        refine qr_aload_n dX7_readies_55 rfl 0 rfl ?_
        refine qr_bipush (v := (-3)) dX7_readies_56 (by decide) ?_
        obtain ⟨r5, er5, h⟩ := qm_bind h
        refine qr_call1 (st1 := [.int r5.1]) rfl (qr_callV (id := 210) (c := 5) (As := [.int (-3)]) (st := []) rfl (by decide) rfl (ct_X7_refuses (l := l) (E := E) σ (-3) er5) qw_701 qw_6 qw_698 qw_700 qs_9 yd_X7_refuses (by decide) (by decide) rfl (Nat.le_of_ble_eq_true rfl) dX7_readies_58) ?_
        obtain rfl := Option.some.inj h
        cases hT
        exact qr_iret dX7_readies_61
      · rw [if_neg c13] at h
        refine qr_aload_n dX7_readies_39 rfl 0 rfl ?_
        refine qr_iload_n dX7_readies_40 rfl 1 rfl ?_
        refine qr_iconst (v := 3) dX7_readies_41 (by decide) ?_
        obtain ⟨r6, er6, h⟩ := qm_bind h
        refine qr_call1 (st1 := [.long r6]) rfl (qr_callV (id := 210) (c := 5) (As := [.int v1, .int 3]) (st := []) rfl (by decide) rfl (ct_X7_its (l := l) (E := E) σ v1 3 er6) qw_696 qw_6 qw_693 qw_695 qs_8 yd_X7_its (by decide) (by decide) rfl (Nat.le_of_ble_eq_true rfl) dX7_readies_42) ?_
        refine qr_iload_n dX7_readies_45 rfl 2 rfl ?_
        refine qr_i2l dX7_readies_46 ?_
        refine qr_ladd dX7_readies_47 ?_
        refine qr_ldc2 qw_811 dX7_readies_48 ?_
        refine qr_lcmp dX7_readies_51 ?_
        refine qr_if_le (tgt := 62) dX7_readies_52 (by decide) (fun c12 => ?_) (fun c12 => ?_)
        · rw [if_pos c12] at h
          refine qr_aload_n dX7_readies_62 rfl 0 rfl ?_
          obtain ⟨r7, er7, h⟩ := qm_bind h
          refine qr_call1 (st1 := []) rfl (qr_callV (id := 210) (c := 5) (As := []) (st := []) rfl (by decide) rfl (ct_X7_keep (l := l) (E := E) σ  er7) qw_705 qw_6 qw_702 qw_704 qs_10 yd_X7_keep (by decide) (by decide) rfl (Nat.le_of_ble_eq_true rfl) dX7_readies_63) ?_
          refine qr_aload_n dX7_readies_66 rfl 0 rfl ?_
          refine qr_iload_n dX7_readies_67 rfl 1 rfl ?_
          refine qr_iconst (v := 3) dX7_readies_68 (by decide) ?_
          refine qr_aload_n dX7_readies_69 rfl 0 rfl ?_
          refine qr_iload_n dX7_readies_70 rfl 1 rfl ?_
          refine qr_iconst (v := 3) dX7_readies_71 (by decide) ?_
          obtain ⟨r8, er8, h⟩ := qm_bind h
          refine qr_call1 (st1 := [.long r8, .int 3, .int v1, .ref (qm_a E 210)]) rfl (qr_callV (id := 210) (c := 5) (As := [.int v1, .int 3]) (st := [.int 3, .int v1, .ref (qm_a E 210)]) rfl (by decide) rfl (ct_X7_its (l := l) (E := E) r7 v1 3 er8) qw_696 qw_6 qw_693 qw_695 qs_8 yd_X7_its (by decide) (by decide) rfl (Nat.le_of_ble_eq_true rfl) dX7_readies_72) ?_
          refine qr_iload_n dX7_readies_75 rfl 2 rfl ?_
          refine qr_i2l dX7_readies_76 ?_
          refine qr_ladd dX7_readies_77 ?_
          obtain ⟨r9, er9, h⟩ := qm_bind h
          refine qr_call1 (st1 := []) rfl (qr_callV (id := 210) (c := 5) (As := [.int v1, .int 3, .long (r8 + v2.toInt64)]) (st := []) rfl (by decide) rfl (ct_X7_puts (l := l) (E := E) r7 v1 3 (r8 + v2.toInt64) er9) qw_713 qw_6 qw_710 qw_712 qs_12 yd_X7_puts (by decide) (by decide) rfl (Nat.le_of_ble_eq_true rfl) dX7_readies_78) ?_
          refine qr_aload_n dX7_readies_81 rfl 0 rfl ?_
          refine qr_iload_n dX7_readies_82 rfl 1 rfl ?_
          refine qr_iconst (v := 3) dX7_readies_83 (by decide) ?_
          obtain ⟨r10, er10, h⟩ := qm_bind h
          refine qr_call1 (st1 := [.long r10]) rfl (qr_callV (id := 210) (c := 5) (As := [.int v1, .int 3]) (st := []) rfl (by decide) rfl (ct_X7_its (l := l) (E := E) r9 v1 3 er10) qw_696 qw_6 qw_693 qw_695 qs_8 yd_X7_its (by decide) (by decide) rfl (Nat.le_of_ble_eq_true rfl) dX7_readies_84) ?_
          refine qr_l2i dX7_readies_87 ?_
          obtain rfl := Option.some.inj h
          cases hT
          exact qr_iret dX7_readies_88
        · rw [if_neg c12] at h
          refine qr_aload_n dX7_readies_55 rfl 0 rfl ?_
          refine qr_bipush (v := (-3)) dX7_readies_56 (by decide) ?_
          obtain ⟨r11, er11, h⟩ := qm_bind h
          refine qr_call1 (st1 := [.int r11.1]) rfl (qr_callV (id := 210) (c := 5) (As := [.int (-3)]) (st := []) rfl (by decide) rfl (ct_X7_refuses (l := l) (E := E) σ (-3) er11) qw_701 qw_6 qw_698 qw_700 qs_9 yd_X7_refuses (by decide) (by decide) rfl (Nat.le_of_ble_eq_true rfl) dX7_readies_58) ?_
          obtain rfl := Option.some.inj h
          cases hT
          exact qr_iret dX7_readies_61
    · rw [if_pos c15] at h
      refine qr_aload_n dX7_readies_20 rfl 0 rfl ?_
      refine qr_bipush (v := (-2)) dX7_readies_21 (by decide) ?_
      obtain ⟨r14, er14, h⟩ := qm_bind h
      refine qr_call1 (st1 := [.int r14.1]) rfl (qr_callV (id := 210) (c := 5) (As := [.int (-2)]) (st := []) rfl (by decide) rfl (ct_X7_refuses (l := l) (E := E) σ (-2) er14) qw_701 qw_6 qw_698 qw_700 qs_9 yd_X7_refuses (by decide) (by decide) rfl (Nat.le_of_ble_eq_true rfl) dX7_readies_23) ?_
      obtain rfl := Option.some.inj h
      cases hT
      exact qr_iret dX7_readies_26
theorem ct_X7_readies {l : Launch} {E : qm_E} (σ : qm_M) (v1 : Int32) (v2 : Int32) {x : Int32 × qm_M} (h : fn_X7_readies σ v1 v2 = some x) : qm_Ct l E kd_X7_readies yX7_readies cX7_readies 3 (some .int) [.ref (qm_a E 210), .int v1, .int v2] σ (some (.int x.1), x.2) := qm_ofWp rfl (Nat.le_of_ble_eq_true rfl) (Or.inl rfl) (wf_X7_readies σ v1 v2  h rfl)
-- HungStreamsModel.window (II)I
abbrev kd_X7_window : Nat := 3
theorem yd_X7_window : (yX7_window).cls ≠ "java/lang/invoke/MethodHandle" ∧ (yX7_window).cls ≠ "java/lang/invoke/VarHandle" ∧ (parseMethodDescriptor (yX7_window).desc).map (fun d => d.parameters.length) = some 2 := by decide +kernel
def fn_X7_window (σ : qm_M) (v1 : Int32) (v2 : Int32) : Option (Int32 × qm_M) :=
  (fn_X7_isStream σ v1).bind (fun r1 => if (qm_b r1) = 0 then (fn_X7_refuses σ (-2)).bind (fun r2 => some (r2.1, r2.2)) else (fn_X7_in σ v2.toInt64 0 9999).bind (fun r3 => if (qm_b r3) = 0 then (fn_X7_refuses σ (-2)).bind (fun r7 => some (r7.1, r7.2)) else (fn_X7_keep σ ).bind (fun r4 => (fn_X7_its r4 v1 4).bind (fun r5 => (fn_X7_puts r4 v1 4 v2.toInt64).bind (fun r6 => some (r5.toInt32, r6))))))
set_option maxRecDepth 20000 in
theorem wf_X7_window {l : Launch} {E : qm_E} (σ : qm_M) (v1 : Int32) (v2 : Int32) {x : Int32 × qm_M} (h : fn_X7_window σ v1 v2 = some x) {r : Option Value × qm_M} (hT : (fun x r => (some (.int x.1), x.2) = r) x r) : qm_Wp l E kd_X7_window "HungStreamsModel" cX7_window 4 0 [(0, .ref (qm_a E 210)), (1, .int v1), (2, .int v2)] [] σ r := by
  unfold fn_X7_window at h
  refine qr_aload_n dX7_window_0 rfl 0 rfl ?_
  refine qr_iload_n dX7_window_1 rfl 1 rfl ?_
  obtain ⟨r1, er1, h⟩ := qm_bind h
  refine qr_call1 (st1 := [.int (qm_b r1)]) rfl (qr_callV (id := 210) (c := 5) (As := [.int v1]) (st := []) rfl (by decide) rfl (ct_X7_isStream (l := l) (E := E) σ v1 er1) qw_692 qw_6 qw_689 qw_691 qs_7 yd_X7_isStream (by decide) (by decide) rfl (Nat.le_of_ble_eq_true rfl) dX7_window_2) ?_
  refine qr_if_eq (tgt := 20) dX7_window_5 (by decide) (fun c9 => ?_) (fun c9 => ?_)
  · rw [if_pos c9] at h
    refine qr_aload_n dX7_window_20 rfl 0 rfl ?_
    refine qr_bipush (v := (-2)) dX7_window_21 (by decide) ?_
    obtain ⟨r2, er2, h⟩ := qm_bind h
    refine qr_call1 (st1 := [.int r2.1]) rfl (qr_callV (id := 210) (c := 5) (As := [.int (-2)]) (st := []) rfl (by decide) rfl (ct_X7_refuses (l := l) (E := E) σ (-2) er2) qw_701 qw_6 qw_698 qw_700 qs_9 yd_X7_refuses (by decide) (by decide) rfl (Nat.le_of_ble_eq_true rfl) dX7_window_23) ?_
    obtain rfl := Option.some.inj h
    cases hT
    exact qr_iret dX7_window_26
  · rw [if_neg c9] at h
    refine qr_iload_n dX7_window_8 rfl 2 rfl ?_
    refine qr_i2l dX7_window_9 ?_
    refine qr_lconst (v := 0) dX7_window_10 (by decide) ?_
    refine qr_ldc2 qw_811 dX7_window_11 ?_
    obtain ⟨r3, er3, h⟩ := qm_bind h
    refine qr_call1 (st1 := [.int (qm_b r3)]) rfl (qr_callS (As := [.long v2.toInt64, .long 0, .long 9999]) (st := []) (ct_X7_in (l := l) (E := E) σ v2.toInt64 0 9999 er3) qw_684 qw_6 qw_682 qw_683 yd_X7_in (by decide) (by decide) rfl (Nat.le_of_ble_eq_true rfl) dX7_window_14) ?_
    refine qr_if_ne (tgt := 27) dX7_window_17 (by decide) (fun c8 => ?_) (fun c8 => ?_)
    · rw [if_neg c8] at h
      refine qr_aload_n dX7_window_27 rfl 0 rfl ?_
      obtain ⟨r4, er4, h⟩ := qm_bind h
      refine qr_call1 (st1 := []) rfl (qr_callV (id := 210) (c := 5) (As := []) (st := []) rfl (by decide) rfl (ct_X7_keep (l := l) (E := E) σ  er4) qw_705 qw_6 qw_702 qw_704 qs_10 yd_X7_keep (by decide) (by decide) rfl (Nat.le_of_ble_eq_true rfl) dX7_window_28) ?_
      refine qr_aload_n dX7_window_31 rfl 0 rfl ?_
      refine qr_iload_n dX7_window_32 rfl 1 rfl ?_
      refine qr_iconst (v := 4) dX7_window_33 (by decide) ?_
      obtain ⟨r5, er5, h⟩ := qm_bind h
      refine qr_call1 (st1 := [.long r5]) rfl (qr_callV (id := 210) (c := 5) (As := [.int v1, .int 4]) (st := []) rfl (by decide) rfl (ct_X7_its (l := l) (E := E) r4 v1 4 er5) qw_696 qw_6 qw_693 qw_695 qs_8 yd_X7_its (by decide) (by decide) rfl (Nat.le_of_ble_eq_true rfl) dX7_window_34) ?_
      refine qr_l2i dX7_window_37 ?_
      refine qr_istore_n (lv' := [(3, .int r5.toInt32), (0, .ref (qm_a E 210)), (1, .int v1), (2, .int v2)]) dX7_window_38 rfl (by decide) rfl ?_
      refine qr_aload_n dX7_window_39 rfl 1 rfl ?_
      refine qr_iload_n dX7_window_40 rfl 2 rfl ?_
      refine qr_iconst (v := 4) dX7_window_41 (by decide) ?_
      refine qr_iload_n dX7_window_42 rfl 3 rfl ?_
      refine qr_i2l dX7_window_43 ?_
      obtain ⟨r6, er6, h⟩ := qm_bind h
      refine qr_call1 (st1 := []) rfl (qr_callV (id := 210) (c := 5) (As := [.int v1, .int 4, .long v2.toInt64]) (st := []) rfl (by decide) rfl (ct_X7_puts (l := l) (E := E) r4 v1 4 v2.toInt64 er6) qw_713 qw_6 qw_710 qw_712 qs_12 yd_X7_puts (by decide) (by decide) rfl (Nat.le_of_ble_eq_true rfl) dX7_window_44) ?_
      refine qr_iload_n dX7_window_47 rfl 0 rfl ?_
      obtain rfl := Option.some.inj h
      cases hT
      exact qr_iret dX7_window_48
    · rw [if_pos c8] at h
      refine qr_aload_n dX7_window_20 rfl 0 rfl ?_
      refine qr_bipush (v := (-2)) dX7_window_21 (by decide) ?_
      obtain ⟨r7, er7, h⟩ := qm_bind h
      refine qr_call1 (st1 := [.int r7.1]) rfl (qr_callV (id := 210) (c := 5) (As := [.int (-2)]) (st := []) rfl (by decide) rfl (ct_X7_refuses (l := l) (E := E) σ (-2) er7) qw_701 qw_6 qw_698 qw_700 qs_9 yd_X7_refuses (by decide) (by decide) rfl (Nat.le_of_ble_eq_true rfl) dX7_window_23) ?_
      obtain rfl := Option.some.inj h
      cases hT
      exact qr_iret dX7_window_26
theorem ct_X7_window {l : Launch} {E : qm_E} (σ : qm_M) (v1 : Int32) (v2 : Int32) {x : Int32 × qm_M} (h : fn_X7_window σ v1 v2 = some x) : qm_Ct l E kd_X7_window yX7_window cX7_window 4 (some .int) [.ref (qm_a E 210), .int v1, .int v2] σ (some (.int x.1), x.2) := qm_ofWp rfl (Nat.le_of_ble_eq_true rfl) (Or.inl rfl) (wf_X7_window σ v1 v2  h rfl)
-- HungStreamsModel.settings (II)I
abbrev kd_X7_settings : Nat := 6
theorem yd_X7_settings : (yX7_settings).cls ≠ "java/lang/invoke/MethodHandle" ∧ (yX7_settings).cls ≠ "java/lang/invoke/VarHandle" ∧ (parseMethodDescriptor (yX7_settings).desc).map (fun d => d.parameters.length) = some 2 := by decide +kernel
def bb_X7_settings_70 (σ : qm_M) (v1 : Int32) (v2 : Int32) (k0 : Int32) : Option (Int32 × qm_M) :=
  if k0 = 0 then (fn_X7_refuses σ (-2)).bind (fun r8 => some (r8.1, r8.2)) else (fn_X7_keep σ ).bind (fun r1 => if ¬ ((208 + v1) < 0 ∨ 215 ≤ (208 + v1).toNatClampNeg) then (some ((r1.2 211 (208 + v1).toNatClampNeg).toInt32)).bind (fun z3 => if ¬ ((208 + v1) < 0 ∨ 215 ≤ (208 + v1).toNatClampNeg) then (some (qm_sl r1 211 (208 + v1).toNatClampNeg v2.toInt64)).bind (fun σ5 => if v1 = 2 then (fn_X7_goesAll σ5 ).bind (fun r6 => some (z3, r6)) else some (z3, σ5)) else none) else none)
set_option maxRecDepth 20000 in
theorem wb_X7_settings_70 {l : Launch} {E : qm_E} (σ : qm_M) (v1 : Int32) (v2 : Int32) (k0 : Int32) {x : Int32 × qm_M} (h : bb_X7_settings_70 σ v1 v2 k0 = some x) {r : Option Value × qm_M} (hT : (fun x r => (some (.int x.1), x.2) = r) x r) : qm_Wp l E kd_X7_settings "HungStreamsModel" cX7_settings 5 70 [(0, .ref (qm_a E 210)), (1, .int v1), (2, .int v2)] [.int k0] σ r := by
  unfold bb_X7_settings_70 at h
  refine qr_istore_n (lv' := [(3, .int k0), (0, .ref (qm_a E 210)), (1, .int v1), (2, .int v2)]) dX7_settings_70 rfl (by decide) rfl ?_
  refine qr_iload_n dX7_settings_71 rfl 0 rfl ?_
  refine qr_if_ne (tgt := 82) dX7_settings_72 (by decide) (fun c9 => ?_) (fun c9 => ?_)
  · rw [if_neg c9] at h
    refine qr_aload_n dX7_settings_82 rfl 1 rfl ?_
    obtain ⟨r1, er1, h⟩ := qm_bind h
    refine qr_call1 (st1 := []) rfl (qr_callV (id := 210) (c := 5) (As := []) (st := []) rfl (by decide) rfl (ct_X7_keep (l := l) (E := E) σ  er1) qw_705 qw_6 qw_702 qw_704 qs_10 yd_X7_keep (by decide) (by decide) rfl (Nat.le_of_ble_eq_true rfl) dX7_settings_83) ?_
    refine qr_aload_n dX7_settings_86 rfl 1 rfl ?_
    refine qr_get5 (k := 0) (v := .ref (qm_a E 211)) rfl (by decide) rfl qw_624 dX7_settings_87 ?_
    refine qr_sipush (v := 208) dX7_settings_90 (by decide) ?_
    refine qr_iload_n dX7_settings_93 rfl 2 rfl ?_
    refine qr_iadd dX7_settings_94 ?_
    obtain ⟨c2, h⟩ := qm_chk h
    refine qr_lald rfl c2 dX7_settings_95 ?_
    refine qr_l2i dX7_settings_96 ?_
    obtain ⟨z3, ez3, h⟩ := qm_bind h
    refine qr_eqi (Option.some.inj ez3) ?_
    refine qr_istore (lv' := [(4, .int z3), (3, .int k0), (0, .ref (qm_a E 210)), (1, .int v1), (2, .int v2)]) dX7_settings_97 (by decide) rfl ?_
    refine qr_aload_n dX7_settings_99 rfl 2 rfl ?_
    refine qr_get5 (k := 0) (v := .ref (qm_a E 211)) rfl (by decide) rfl qw_624 dX7_settings_100 ?_
    refine qr_sipush (v := 208) dX7_settings_103 (by decide) ?_
    refine qr_iload_n dX7_settings_106 rfl 3 rfl ?_
    refine qr_iadd dX7_settings_107 ?_
    refine qr_iload_n dX7_settings_108 rfl 4 rfl ?_
    refine qr_i2l dX7_settings_109 ?_
    obtain ⟨c4, h⟩ := qm_chk h
    obtain ⟨σ5, eσ5, h⟩ := qm_bind h
    refine qr_last rfl c4 dX7_settings_110 (qr_eqm (Option.some.inj eσ5) ?_)
    refine qr_iload_n dX7_settings_111 rfl 3 rfl ?_
    refine qr_iconst (v := 2) dX7_settings_112 (by decide) ?_
    refine qr_icmp_ne (tgt := 120) dX7_settings_113 (by decide) (fun c7 => ?_) (fun c7 => ?_)
    · rw [if_neg c7] at h
      refine qr_iload dX7_settings_120 0 rfl ?_
      obtain rfl := Option.some.inj h
      cases hT
      exact qr_iret dX7_settings_122
    · rw [if_pos c7] at h
      refine qr_aload_n dX7_settings_116 rfl 2 rfl ?_
      obtain ⟨r6, er6, h⟩ := qm_bind h
      refine qr_call1 (st1 := []) rfl (qr_callV (id := 210) (c := 5) (As := []) (st := []) rfl (by decide) rfl (ct_X7_goesAll (l := l) (E := E) σ5  er6) qw_762 qw_6 qw_759 qw_761 qs_19 yd_X7_goesAll (by decide) (by decide) rfl (Nat.le_of_ble_eq_true rfl) dX7_settings_117) ?_
      refine qr_iload dX7_settings_120 0 rfl ?_
      obtain rfl := Option.some.inj h
      cases hT
      exact qr_iret dX7_settings_122
  · rw [if_pos c9] at h
    refine qr_aload_n dX7_settings_75 rfl 1 rfl ?_
    refine qr_bipush (v := (-2)) dX7_settings_76 (by decide) ?_
    obtain ⟨r8, er8, h⟩ := qm_bind h
    refine qr_call1 (st1 := [.int r8.1]) rfl (qr_callV (id := 210) (c := 5) (As := [.int (-2)]) (st := []) rfl (by decide) rfl (ct_X7_refuses (l := l) (E := E) σ (-2) er8) qw_701 qw_6 qw_698 qw_700 qs_9 yd_X7_refuses (by decide) (by decide) rfl (Nat.le_of_ble_eq_true rfl) dX7_settings_78) ?_
    obtain rfl := Option.some.inj h
    cases hT
    exact qr_iret dX7_settings_81
def fn_X7_settings (σ : qm_M) (v1 : Int32) (v2 : Int32) : Option (Int32 × qm_M) :=
  if v1 = 0 then (fn_X7_in σ v2.toInt64 0 99999).bind (fun r17 => bb_X7_settings_70 σ v1 v2 (qm_b r17)) else if v1 = 1 then (fn_X7_in σ v2.toInt64 1 999).bind (fun r15 => bb_X7_settings_70 σ v1 v2 (qm_b r15)) else if v1 = 2 then (fn_X7_in σ v2.toInt64 0 50).bind (fun r13 => bb_X7_settings_70 σ v1 v2 (qm_b r13)) else if v1 = 3 then (fn_X7_in σ v2.toInt64 0 1).bind (fun r10 => if (qm_b r10) = 0 then bb_X7_settings_70 σ v1 v2 0 else bb_X7_settings_70 σ v1 v2 1) else bb_X7_settings_70 σ v1 v2 0
set_option maxRecDepth 20000 in
theorem wf_X7_settings {l : Launch} {E : qm_E} (σ : qm_M) (v1 : Int32) (v2 : Int32) {x : Int32 × qm_M} (h : fn_X7_settings σ v1 v2 = some x) {r : Option Value × qm_M} (hT : (fun x r => (some (.int x.1), x.2) = r) x r) : qm_Wp l E kd_X7_settings "HungStreamsModel" cX7_settings 5 0 [(0, .ref (qm_a E 210)), (1, .int v1), (2, .int v2)] [] σ r := by
  unfold fn_X7_settings at h
  refine qr_iload_n dX7_settings_0 rfl 1 rfl ?_
  refine qr_if_ne (tgt := 16) dX7_settings_1 (by decide) (fun c18 => ?_) (fun c18 => ?_)
  · rw [if_neg c18] at h
    refine qr_iload_n dX7_settings_16 rfl 1 rfl ?_
    refine qr_iconst (v := 1) dX7_settings_17 (by decide) ?_
    refine qr_icmp_ne (tgt := 33) dX7_settings_18 (by decide) (fun c16 => ?_) (fun c16 => ?_)
    · rw [if_neg c16] at h
      refine qr_iload_n dX7_settings_33 rfl 1 rfl ?_
      refine qr_iconst (v := 2) dX7_settings_34 (by decide) ?_
      refine qr_icmp_ne (tgt := 50) dX7_settings_35 (by decide) (fun c14 => ?_) (fun c14 => ?_)
      · rw [if_neg c14] at h
        refine qr_iload_n dX7_settings_50 rfl 1 rfl ?_
        refine qr_iconst (v := 3) dX7_settings_51 (by decide) ?_
        refine qr_icmp_ne (tgt := 69) dX7_settings_52 (by decide) (fun c12 => ?_) (fun c12 => ?_)
        · rw [if_neg c12] at h
          refine qr_iconst (v := 0) dX7_settings_69 (by decide) ?_
          exact qr_sub [0, 1, 2] rfl (wb_X7_settings_70 (l := l) (E := E) σ v1 v2 0 h hT)
        · rw [if_pos c12] at h
          refine qr_iload_n dX7_settings_55 rfl 2 rfl ?_
          refine qr_i2l dX7_settings_56 ?_
          refine qr_lconst (v := 0) dX7_settings_57 (by decide) ?_
          refine qr_lconst (v := 1) dX7_settings_58 (by decide) ?_
          obtain ⟨r10, er10, h⟩ := qm_bind h
          refine qr_call1 (st1 := [.int (qm_b r10)]) rfl (qr_callS (As := [.long v2.toInt64, .long 0, .long 1]) (st := []) (ct_X7_in (l := l) (E := E) σ v2.toInt64 0 1 er10) qw_684 qw_6 qw_682 qw_683 yd_X7_in (by decide) (by decide) rfl (Nat.le_of_ble_eq_true rfl) dX7_settings_59) ?_
          refine qr_if_eq (tgt := 69) dX7_settings_62 (by decide) (fun c11 => ?_) (fun c11 => ?_)
          · rw [if_pos c11] at h
            refine qr_iconst (v := 0) dX7_settings_69 (by decide) ?_
            exact qr_sub [0, 1, 2] rfl (wb_X7_settings_70 (l := l) (E := E) σ v1 v2 0 h hT)
          · rw [if_neg c11] at h
            refine qr_iconst (v := 1) dX7_settings_65 (by decide) ?_
            refine qr_goto (tgt := 70) dX7_settings_66 (by decide) ?_
            exact qr_sub [0, 1, 2] rfl (wb_X7_settings_70 (l := l) (E := E) σ v1 v2 1 h hT)
      · rw [if_pos c14] at h
        refine qr_iload_n dX7_settings_38 rfl 2 rfl ?_
        refine qr_i2l dX7_settings_39 ?_
        refine qr_lconst (v := 0) dX7_settings_40 (by decide) ?_
        refine qr_ldc2 qw_822 dX7_settings_41 ?_
        obtain ⟨r13, er13, h⟩ := qm_bind h
        refine qr_call1 (st1 := [.int (qm_b r13)]) rfl (qr_callS (As := [.long v2.toInt64, .long 0, .long 50]) (st := []) (ct_X7_in (l := l) (E := E) σ v2.toInt64 0 50 er13) qw_684 qw_6 qw_682 qw_683 yd_X7_in (by decide) (by decide) rfl (Nat.le_of_ble_eq_true rfl) dX7_settings_44) ?_
        refine qr_goto (tgt := 70) dX7_settings_47 (by decide) ?_
        exact qr_sub [0, 1, 2] rfl (wb_X7_settings_70 (l := l) (E := E) σ v1 v2 (qm_b r13) h hT)
    · rw [if_pos c16] at h
      refine qr_iload_n dX7_settings_21 rfl 2 rfl ?_
      refine qr_i2l dX7_settings_22 ?_
      refine qr_lconst (v := 1) dX7_settings_23 (by decide) ?_
      refine qr_ldc2 qw_821 dX7_settings_24 ?_
      obtain ⟨r15, er15, h⟩ := qm_bind h
      refine qr_call1 (st1 := [.int (qm_b r15)]) rfl (qr_callS (As := [.long v2.toInt64, .long 1, .long 999]) (st := []) (ct_X7_in (l := l) (E := E) σ v2.toInt64 1 999 er15) qw_684 qw_6 qw_682 qw_683 yd_X7_in (by decide) (by decide) rfl (Nat.le_of_ble_eq_true rfl) dX7_settings_27) ?_
      refine qr_goto (tgt := 70) dX7_settings_30 (by decide) ?_
      exact qr_sub [0, 1, 2] rfl (wb_X7_settings_70 (l := l) (E := E) σ v1 v2 (qm_b r15) h hT)
  · rw [if_pos c18] at h
    refine qr_iload_n dX7_settings_4 rfl 2 rfl ?_
    refine qr_i2l dX7_settings_5 ?_
    refine qr_lconst (v := 0) dX7_settings_6 (by decide) ?_
    refine qr_ldc2 qw_820 dX7_settings_7 ?_
    obtain ⟨r17, er17, h⟩ := qm_bind h
    refine qr_call1 (st1 := [.int (qm_b r17)]) rfl (qr_callS (As := [.long v2.toInt64, .long 0, .long 99999]) (st := []) (ct_X7_in (l := l) (E := E) σ v2.toInt64 0 99999 er17) qw_684 qw_6 qw_682 qw_683 yd_X7_in (by decide) (by decide) rfl (Nat.le_of_ble_eq_true rfl) dX7_settings_10) ?_
    refine qr_goto (tgt := 70) dX7_settings_13 (by decide) ?_
    exact qr_sub [0, 1, 2] rfl (wb_X7_settings_70 (l := l) (E := E) σ v1 v2 (qm_b r17) h hT)
theorem ct_X7_settings {l : Launch} {E : qm_E} (σ : qm_M) (v1 : Int32) (v2 : Int32) {x : Int32 × qm_M} (h : fn_X7_settings σ v1 v2 = some x) : qm_Ct l E kd_X7_settings yX7_settings cX7_settings 5 (some .int) [.ref (qm_a E 210), .int v1, .int v2] σ (some (.int x.1), x.2) := qm_ofWp rfl (Nat.le_of_ble_eq_true rfl) (Or.inl rfl) (wf_X7_settings σ v1 v2  h rfl)
-- HungStreamsModel.turnThen (II)J
abbrev kd_X7_turnThen : Nat := 3
theorem yd_X7_turnThen : (yX7_turnThen).cls ≠ "java/lang/invoke/MethodHandle" ∧ (yX7_turnThen).cls ≠ "java/lang/invoke/VarHandle" ∧ (parseMethodDescriptor (yX7_turnThen).desc).map (fun d => d.parameters.length) = some 2 := by decide +kernel
def bb_X7_turnThen_26 (σ : qm_M) (v1 : Int32) (k0 : Int32) : Option (Int64) :=
  (fn_X7_parent σ v1).bind (fun r1 => (fn_X7_its σ r1 10).bind (fun r2 => if k0 = 0 then (fn_X7_its σ v1 9).bind (fun r3 => some r3) else (fn_X7_its σ v1 9).bind (fun r4 => if (lg_cmp r2 r4) ≤ 0 then (fn_X7_its σ v1 9).bind (fun r5 => some r5) else some r2)))
set_option maxRecDepth 20000 in
theorem wb_X7_turnThen_26 {l : Launch} {E : qm_E} (σ : qm_M) (v1 : Int32) (k0 : Int32) {x : Int64} (h : bb_X7_turnThen_26 σ v1 k0 = some x) {r : Option Value × qm_M} (hT : (fun x r => (some (.long x), σ) = r) x r) : qm_Wp l E kd_X7_turnThen "HungStreamsModel" cX7_turnThen 6 26 [(0, .ref (qm_a E 210)), (1, .int v1)] [.int k0] σ r := by
  unfold bb_X7_turnThen_26 at h
  refine qr_istore_n (lv' := [(3, .int k0), (0, .ref (qm_a E 210)), (1, .int v1)]) dX7_turnThen_26 rfl (by decide) rfl ?_
  refine qr_aload_n dX7_turnThen_27 rfl 1 rfl ?_
  refine qr_aload_n dX7_turnThen_28 rfl 1 rfl ?_
  refine qr_iload_n dX7_turnThen_29 rfl 2 rfl ?_
  obtain ⟨r1, er1, h⟩ := qm_bind h
  refine qr_call1 (st1 := [.int r1, .ref (qm_a E 210)]) rfl (qr_callV (id := 210) (c := 5) (As := [.int v1]) (st := [.ref (qm_a E 210)]) rfl (by decide) rfl (ct_X7_parent (l := l) (E := E) σ v1 er1) qw_727 qw_6 qw_724 qw_726 qs_15 yd_X7_parent (by decide) (by decide) rfl (Nat.le_of_ble_eq_true rfl) dX7_turnThen_30) ?_
  refine qr_bipush (v := 10) dX7_turnThen_33 (by decide) ?_
  obtain ⟨r2, er2, h⟩ := qm_bind h
  refine qr_call1 (st1 := [.long r2]) rfl (qr_callV (id := 210) (c := 5) (As := [.int r1, .int 10]) (st := []) rfl (by decide) rfl (ct_X7_its (l := l) (E := E) σ r1 10 er2) qw_696 qw_6 qw_693 qw_695 qs_8 yd_X7_its (by decide) (by decide) rfl (Nat.le_of_ble_eq_true rfl) dX7_turnThen_35) ?_
  refine qr_lstore (lv' := [(4, .long r2), (3, .int k0), (0, .ref (qm_a E 210)), (1, .int v1)]) dX7_turnThen_38 (by decide) rfl ?_
  refine qr_iload_n dX7_turnThen_40 rfl 1 rfl ?_
  refine qr_if_eq (tgt := 62) dX7_turnThen_41 (by decide) (fun c7 => ?_) (fun c7 => ?_)
  · rw [if_pos c7] at h
    refine qr_aload_n dX7_turnThen_62 rfl 2 rfl ?_
    refine qr_iload_n dX7_turnThen_63 rfl 3 rfl ?_
    refine qr_bipush (v := 9) dX7_turnThen_64 (by decide) ?_
    obtain ⟨r3, er3, h⟩ := qm_bind h
    refine qr_call1 (st1 := [.long r3]) rfl (qr_callV (id := 210) (c := 5) (As := [.int v1, .int 9]) (st := []) rfl (by decide) rfl (ct_X7_its (l := l) (E := E) σ v1 9 er3) qw_696 qw_6 qw_693 qw_695 qs_8 yd_X7_its (by decide) (by decide) rfl (Nat.le_of_ble_eq_true rfl) dX7_turnThen_66) ?_
    obtain rfl := Option.some.inj h
    cases hT
    exact qr_lret dX7_turnThen_69
  · rw [if_neg c7] at h
    refine qr_lload dX7_turnThen_44 0 rfl ?_
    refine qr_aload_n dX7_turnThen_46 rfl 2 rfl ?_
    refine qr_iload_n dX7_turnThen_47 rfl 3 rfl ?_
    refine qr_bipush (v := 9) dX7_turnThen_48 (by decide) ?_
    obtain ⟨r4, er4, h⟩ := qm_bind h
    refine qr_call1 (st1 := [.long r4, .long r2]) rfl (qr_callV (id := 210) (c := 5) (As := [.int v1, .int 9]) (st := [.long r2]) rfl (by decide) rfl (ct_X7_its (l := l) (E := E) σ v1 9 er4) qw_696 qw_6 qw_693 qw_695 qs_8 yd_X7_its (by decide) (by decide) rfl (Nat.le_of_ble_eq_true rfl) dX7_turnThen_50) ?_
    refine qr_lcmp dX7_turnThen_53 ?_
    refine qr_if_le (tgt := 62) dX7_turnThen_54 (by decide) (fun c6 => ?_) (fun c6 => ?_)
    · rw [if_pos c6] at h
      refine qr_aload_n dX7_turnThen_62 rfl 2 rfl ?_
      refine qr_iload_n dX7_turnThen_63 rfl 3 rfl ?_
      refine qr_bipush (v := 9) dX7_turnThen_64 (by decide) ?_
      obtain ⟨r5, er5, h⟩ := qm_bind h
      refine qr_call1 (st1 := [.long r5]) rfl (qr_callV (id := 210) (c := 5) (As := [.int v1, .int 9]) (st := []) rfl (by decide) rfl (ct_X7_its (l := l) (E := E) σ v1 9 er5) qw_696 qw_6 qw_693 qw_695 qs_8 yd_X7_its (by decide) (by decide) rfl (Nat.le_of_ble_eq_true rfl) dX7_turnThen_66) ?_
      obtain rfl := Option.some.inj h
      cases hT
      exact qr_lret dX7_turnThen_69
    · rw [if_neg c6] at h
      refine qr_lload dX7_turnThen_57 0 rfl ?_
      refine qr_goto (tgt := 69) dX7_turnThen_59 (by decide) ?_
      obtain rfl := Option.some.inj h
      cases hT
      exact qr_lret dX7_turnThen_69
def fn_X7_turnThen (σ : qm_M) (v1 : Int32) (v2 : Int32) : Option (Int64) :=
  if ((v2 >>> (v1 &&& 31)) &&& 1) = 1 then (fn_X7_its σ v1 15).bind (fun r8 => if (lg_cmp r8 0) = 0 then bb_X7_turnThen_26 σ v1 1 else bb_X7_turnThen_26 σ v1 0) else bb_X7_turnThen_26 σ v1 0
set_option maxRecDepth 20000 in
theorem wf_X7_turnThen {l : Launch} {E : qm_E} (σ : qm_M) (v1 : Int32) (v2 : Int32) {x : Int64} (h : fn_X7_turnThen σ v1 v2 = some x) {r : Option Value × qm_M} (hT : (fun x r => (some (.long x), σ) = r) x r) : qm_Wp l E kd_X7_turnThen "HungStreamsModel" cX7_turnThen 6 0 [(0, .ref (qm_a E 210)), (1, .int v1), (2, .int v2)] [] σ r := by
  unfold fn_X7_turnThen at h
  refine qr_iload_n dX7_turnThen_0 rfl 2 rfl ?_
  refine qr_iload_n dX7_turnThen_1 rfl 1 rfl ?_
  refine qr_ishr dX7_turnThen_2 ?_
  refine qr_iconst (v := 1) dX7_turnThen_3 (by decide) ?_
  refine qr_iand dX7_turnThen_4 ?_
  refine qr_iconst (v := 1) dX7_turnThen_5 (by decide) ?_
  refine qr_icmp_ne (tgt := 25) dX7_turnThen_6 (by decide) (fun c10 => ?_) (fun c10 => ?_)
  · rw [if_neg c10] at h
    refine qr_iconst (v := 0) dX7_turnThen_25 (by decide) ?_
    exact qr_sub [0, 1] rfl (wb_X7_turnThen_26 (l := l) (E := E) σ v1 0 h hT)
  · rw [if_pos c10] at h
    refine qr_aload_n dX7_turnThen_9 rfl 0 rfl ?_
    refine qr_iload_n dX7_turnThen_10 rfl 1 rfl ?_
    refine qr_bipush (v := 15) dX7_turnThen_11 (by decide) ?_
    obtain ⟨r8, er8, h⟩ := qm_bind h
    refine qr_call1 (st1 := [.long r8]) rfl (qr_callV (id := 210) (c := 5) (As := [.int v1, .int 15]) (st := []) rfl (by decide) rfl (ct_X7_its (l := l) (E := E) σ v1 15 er8) qw_696 qw_6 qw_693 qw_695 qs_8 yd_X7_its (by decide) (by decide) rfl (Nat.le_of_ble_eq_true rfl) dX7_turnThen_13) ?_
    refine qr_lconst (v := 0) dX7_turnThen_16 (by decide) ?_
    refine qr_lcmp dX7_turnThen_17 ?_
    refine qr_if_ne (tgt := 25) dX7_turnThen_18 (by decide) (fun c9 => ?_) (fun c9 => ?_)
    · rw [if_neg c9] at h
      refine qr_iconst (v := 0) dX7_turnThen_25 (by decide) ?_
      exact qr_sub [0, 1] rfl (wb_X7_turnThen_26 (l := l) (E := E) σ v1 0 h hT)
    · rw [if_pos c9] at h
      refine qr_iconst (v := 1) dX7_turnThen_21 (by decide) ?_
      refine qr_goto (tgt := 26) dX7_turnThen_22 (by decide) ?_
      exact qr_sub [0, 1] rfl (wb_X7_turnThen_26 (l := l) (E := E) σ v1 1 h hT)
theorem ct_X7_turnThen {l : Launch} {E : qm_E} (σ : qm_M) (v1 : Int32) (v2 : Int32) {x : Int64} (h : fn_X7_turnThen σ v1 v2 = some x) : qm_Ct l E kd_X7_turnThen yX7_turnThen cX7_turnThen 6 (some .long) [.ref (qm_a E 210), .int v1, .int v2] σ (some (.long x), σ) := qm_ofWp rfl (Nat.le_of_ble_eq_true rfl) (rfl) (wf_X7_turnThen σ v1 v2  h rfl)
