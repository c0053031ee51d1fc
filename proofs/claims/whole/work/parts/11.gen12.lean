-- HungStreamsModel.toldOf (I)I
abbrev kd_X7_toldOf : Nat := 1
theorem yd_X7_toldOf : (yX7_toldOf).cls ≠ "java/lang/invoke/MethodHandle" ∧ (yX7_toldOf).cls ≠ "java/lang/invoke/VarHandle" ∧ (parseMethodDescriptor (yX7_toldOf).desc).map (fun d => d.parameters.length) = some 1 := by decide +kernel
def fn_X7_toldOf (σ : qm_M) (v1 : Int32) : Option (Int32) :=
  if 3 ≤ v1 then if v1 = 3 then some (σ.1 210 7) else if v1 = 9 then some (σ.1 210 2) else if ¬ (((208 + v1) - 4) < 0 ∨ 215 ≤ ((208 + v1) - 4).toNatClampNeg) then some ((σ.2 211 ((208 + v1) - 4).toNatClampNeg).toInt32) else none else if ¬ (v1 < 0 ∨ 3 ≤ v1.toNatClampNeg) then some (σ.1 213 v1.toNatClampNeg) else none
set_option maxRecDepth 20000 in
theorem wf_X7_toldOf {l : Launch} {E : qm_E} (σ : qm_M) (v1 : Int32) {x : Int32} (h : fn_X7_toldOf σ v1 = some x) {r : Option Value × qm_M} (hT : (fun x r => (some (.int x), σ) = r) x r) : qm_Wp l E kd_X7_toldOf "HungStreamsModel" cX7_toldOf 2 0 [(0, .ref (qm_a E 210)), (1, .int v1)] [] σ r := by
  unfold fn_X7_toldOf at h
  refine qr_iload_n dX7_toldOf_0 rfl 1 rfl ?_
  refine qr_iconst (v := 3) dX7_toldOf_1 (by decide) ?_
  refine qr_icmp_ge (tgt := 14) dX7_toldOf_2 (by decide) (fun c5 => ?_) (fun c5 => ?_)
  · rw [if_pos c5] at h
    refine qr_iload_n dX7_toldOf_14 rfl 1 rfl ?_
    refine qr_iconst (v := 3) dX7_toldOf_15 (by decide) ?_
    refine qr_icmp_ne (tgt := 26) dX7_toldOf_16 (by decide) (fun c3 => ?_) (fun c3 => ?_)
    · rw [if_neg c3] at h
      refine qr_iload_n dX7_toldOf_26 rfl 1 rfl ?_
      refine qr_bipush (v := 9) dX7_toldOf_27 (by decide) ?_
      refine qr_icmp_ne (tgt := 39) dX7_toldOf_29 (by decide) (fun c2 => ?_) (fun c2 => ?_)
      · rw [if_neg c2] at h
        refine qr_aload_n dX7_toldOf_39 rfl 0 rfl ?_
        refine qr_get5 (k := 0) (v := .ref (qm_a E 211)) rfl (by decide) rfl qw_624 dX7_toldOf_40 ?_
        refine qr_sipush (v := 208) dX7_toldOf_43 (by decide) ?_
        refine qr_iload_n dX7_toldOf_46 rfl 1 rfl ?_
        refine qr_iadd dX7_toldOf_47 ?_
        refine qr_iconst (v := 4) dX7_toldOf_48 (by decide) ?_
        refine qr_isub dX7_toldOf_49 ?_
        obtain ⟨c1, h⟩ := qm_chk h
        refine qr_lald rfl c1 dX7_toldOf_50 ?_
        refine qr_l2i dX7_toldOf_51 ?_
        obtain rfl := Option.some.inj h
        cases hT
        exact qr_iret dX7_toldOf_52
      · rw [if_pos c2] at h
        refine qr_aload_n dX7_toldOf_32 rfl 0 rfl ?_
        refine qr_get5 (k := 2) (v := .int (σ.1 210 2)) rfl (by decide) rfl qw_626 dX7_toldOf_33 ?_
        refine qr_goto (tgt := 52) dX7_toldOf_36 (by decide) ?_
        obtain rfl := Option.some.inj h
        cases hT
        exact qr_iret dX7_toldOf_52
    · rw [if_pos c3] at h
      refine qr_aload_n dX7_toldOf_19 rfl 0 rfl ?_
      refine qr_get5 (k := 7) (v := .int (σ.1 210 7)) rfl (by decide) rfl qw_631 dX7_toldOf_20 ?_
      refine qr_goto (tgt := 52) dX7_toldOf_23 (by decide) ?_
      obtain rfl := Option.some.inj h
      cases hT
      exact qr_iret dX7_toldOf_52
  · rw [if_neg c5] at h
    refine qr_aload_n dX7_toldOf_5 rfl 0 rfl ?_
    refine qr_get5 (k := 3) (v := .ref (qm_a E 213)) rfl (by decide) rfl qw_627 dX7_toldOf_6 ?_
    refine qr_iload_n dX7_toldOf_9 rfl 1 rfl ?_
    obtain ⟨c4, h⟩ := qm_chk h
    refine qr_iald rfl c4 dX7_toldOf_10 ?_
    refine qr_goto (tgt := 52) dX7_toldOf_11 (by decide) ?_
    obtain rfl := Option.some.inj h
    cases hT
    exact qr_iret dX7_toldOf_52
theorem ct_X7_toldOf {l : Launch} {E : qm_E} (σ : qm_M) (v1 : Int32) {x : Int32} (h : fn_X7_toldOf σ v1 = some x) : qm_Ct l E kd_X7_toldOf yX7_toldOf cX7_toldOf 2 (some .int) [.ref (qm_a E 210), .int v1] σ (some (.int x), σ) := qm_ofWp rfl (Nat.le_of_ble_eq_true rfl) (Or.inl rfl) (wf_X7_toldOf σ v1  h rfl)
-- HungStreamsModel.told (I)I
abbrev kd_X7_told : Nat := 2
theorem yd_X7_told : (yX7_told).cls ≠ "java/lang/invoke/MethodHandle" ∧ (yX7_told).cls ≠ "java/lang/invoke/VarHandle" ∧ (parseMethodDescriptor (yX7_told).desc).map (fun d => d.parameters.length) = some 1 := by decide +kernel
def fn_X7_told (σ : qm_M) (v1 : Int32) : Option (Int32 × qm_M) :=
  (fn_X7_in σ v1.toInt64 0 9).bind (fun r1 => if (qm_b r1) = 0 then (fn_X7_refuses σ (-2)).bind (fun r2 => some (r2.1, r2.2)) else (fn_X7_toldOf σ v1).bind (fun r3 => some (r3, σ)))
set_option maxRecDepth 20000 in
theorem wf_X7_told {l : Launch} {E : qm_E} (σ : qm_M) (v1 : Int32) {x : Int32 × qm_M} (h : fn_X7_told σ v1 = some x) {r : Option Value × qm_M} (hT : (fun x r => (some (.int x.1), x.2) = r) x r) : qm_Wp l E kd_X7_told "HungStreamsModel" cX7_told 2 0 [(0, .ref (qm_a E 210)), (1, .int v1)] [] σ r := by
  unfold fn_X7_told at h
  refine qr_iload_n dX7_told_0 rfl 1 rfl ?_
  refine qr_i2l dX7_told_1 ?_
  refine qr_lconst (v := 0) dX7_told_2 (by decide) ?_
  refine qr_ldc2 qw_967 dX7_told_3 ?_
  obtain ⟨r1, er1, h⟩ := qm_bind h
  refine qr_call1 (st1 := [.int (qm_b r1)]) rfl (qr_callS (As := [.long v1.toInt64, .long 0, .long 9]) (st := []) (ct_X7_in (l := l) (E := E) σ v1.toInt64 0 9 er1) qw_684 qw_6 qw_682 qw_683 yd_X7_in (by decide) (by decide) rfl (Nat.le_of_ble_eq_true rfl) dX7_told_6) ?_
  refine qr_if_eq (tgt := 20) dX7_told_9 (by decide) (fun c4 => ?_) (fun c4 => ?_)
  · rw [if_pos c4] at h
    refine qr_aload_n dX7_told_20 rfl 0 rfl ?_
    refine qr_bipush (v := (-2)) dX7_told_21 (by decide) ?_
    obtain ⟨r2, er2, h⟩ := qm_bind h
    refine qr_call1 (st1 := [.int r2.1]) rfl (qr_callV (id := 210) (c := 5) (As := [.int (-2)]) (st := []) rfl (by decide) rfl (ct_X7_refuses (l := l) (E := E) σ (-2) er2) qw_701 qw_6 qw_698 qw_700 qs_9 yd_X7_refuses (by decide) (by decide) rfl (Nat.le_of_ble_eq_true rfl) dX7_told_23) ?_
    obtain rfl := Option.some.inj h
    cases hT
    exact qr_iret dX7_told_26
  · rw [if_neg c4] at h
    refine qr_aload_n dX7_told_12 rfl 0 rfl ?_
    refine qr_iload_n dX7_told_13 rfl 1 rfl ?_
    obtain ⟨r3, er3, h⟩ := qm_bind h
    refine qr_call1 (st1 := [.int r3]) rfl (qr_callV (id := 210) (c := 5) (As := [.int v1]) (st := []) rfl (by decide) rfl (ct_X7_toldOf (l := l) (E := E) σ v1 er3) qw_971 qw_6 qw_968 qw_970 qs_50 yd_X7_toldOf (by decide) (by decide) rfl (Nat.le_of_ble_eq_true rfl) dX7_told_14) ?_
    refine qr_goto (tgt := 26) dX7_told_17 (by decide) ?_
    obtain rfl := Option.some.inj h
    cases hT
    exact qr_iret dX7_told_26
theorem ct_X7_told {l : Launch} {E : qm_E} (σ : qm_M) (v1 : Int32) {x : Int32 × qm_M} (h : fn_X7_told σ v1 = some x) : qm_Ct l E kd_X7_told yX7_told cX7_told 2 (some .int) [.ref (qm_a E 210), .int v1] σ (some (.int x.1), x.2) := qm_ofWp rfl (Nat.le_of_ble_eq_true rfl) (Or.inl rfl) (wf_X7_told σ v1  h rfl)
-- HungStreamsModel.digest ()J
abbrev kd_X7_digest : Nat := 8
theorem yd_X7_digest : (yX7_digest).cls ≠ "java/lang/invoke/MethodHandle" ∧ (yX7_digest).cls ≠ "java/lang/invoke/VarHandle" ∧ (parseMethodDescriptor (yX7_digest).desc).map (fun d => d.parameters.length) = some 0 := by decide +kernel
abbrev pp_X7_digest_6 (l : Launch) (E : qm_E) (σ : qm_M) : (Int64 × Int32) → Option Value × qm_M → Prop := fun s r => qm_Wp l E kd_X7_digest "HungStreamsModel" cX7_digest 5 6 [(0, .ref (qm_a E 210)), (1, .long s.1), (3, .int s.2)] [] σ r
abbrev pp_X7_digest_33 (l : Launch) (E : qm_E) (σ : qm_M) : (Int64 × Int32) → Option Value × qm_M → Prop := fun s r => qm_Wp l E kd_X7_digest "HungStreamsModel" cX7_digest 5 33 [(0, .ref (qm_a E 210)), (1, .long s.1), (3, .int s.2)] [] σ r
abbrev pp_X7_digest_60 (l : Launch) (E : qm_E) (σ : qm_M) : (Int64 × Int32) → Option Value × qm_M → Prop := fun s r => qm_Wp l E kd_X7_digest "HungStreamsModel" cX7_digest 5 60 [(0, .ref (qm_a E 210)), (1, .long s.1), (3, .int s.2)] [] σ r
abbrev pp_X7_digest_86 (l : Launch) (E : qm_E) (σ : qm_M) (v3 : Int32) : (Int64 × Int32) → Option Value × qm_M → Prop := fun s r => qm_Wp l E kd_X7_digest "HungStreamsModel" cX7_digest 5 86 [(0, .ref (qm_a E 210)), (1, .long s.1), (3, .int v3), (4, .int s.2)] [] σ r
def bb_X7_digest_86 (σ : qm_M) (v1 : Int64) (v3 : Int32) (v4 : Int32) : Option ((Int64 × Int32) ⊕ ((Int64 × Int32) ⊕ (Int64))) :=
  if 16 ≤ v4 then ((fn_X7_its σ v3 9).bind (fun r7 => (fn_X7_its σ v3 10).bind (fun r8 => (some ((31 * ((31 * v1) + r7)) + r8)).bind (fun z9 => (some (v3 + 1)).bind (fun z10 => some (.inl (z9, z10))))))).bind (fun y => some (.inr y)) else (fn_X7_ofNow σ v3 v4).bind (fun r12 => (some ((31 * v1) + r12.toInt64)).bind (fun z13 => (some (v4 + 1)).bind (fun z14 => some (.inl (z13, z14)))))
set_option maxRecDepth 20000 in
theorem wb_X7_digest_86 {l : Launch} {E : qm_E} (σ : qm_M) (v1 : Int64) (v3 : Int32) (v4 : Int32) {x : (Int64 × Int32) ⊕ ((Int64 × Int32) ⊕ (Int64))} (h : bb_X7_digest_86 σ v1 v3 v4 = some x) {r : Option Value × qm_M} (hT : (qm_T (pp_X7_digest_86 l E σ v3) (qm_T (pp_X7_digest_60 l E σ) (fun x r => (some (.long x), σ) = r))) x r) : qm_Wp l E kd_X7_digest "HungStreamsModel" cX7_digest 5 86 [(0, .ref (qm_a E 210)), (1, .long v1), (3, .int v3), (4, .int v4)] [] σ r := by
  unfold bb_X7_digest_86 at h
  refine qr_iload dX7_digest_86 3 rfl ?_
  refine qr_bipush (v := 16) dX7_digest_88 (by decide) ?_
  refine qr_icmp_ge (tgt := 114) dX7_digest_90 (by decide) (fun c15 => ?_) (fun c15 => ?_)
  · rw [if_pos c15] at h
    obtain ⟨y11, h1, hx⟩ := qm_bind h
    clear h
    cases hx
    have h := h1
    refine qr_ldc2 qw_977 dX7_digest_114 ?_
    refine qr_ldc2 qw_977 dX7_digest_117 ?_
    refine qr_lload_n dX7_digest_120 rfl 1 rfl ?_
    refine qr_lmul dX7_digest_121 ?_
    refine qr_aload_n dX7_digest_122 rfl 0 rfl ?_
    refine qr_iload_n dX7_digest_123 rfl 2 rfl ?_
    refine qr_bipush (v := 9) dX7_digest_124 (by decide) ?_
    obtain ⟨r7, er7, h⟩ := qm_bind h
    refine qr_call1 (st1 := [.long r7, .long (31 * v1), .long 31]) rfl (qr_callV (id := 210) (c := 5) (As := [.int v3, .int 9]) (st := [.long (31 * v1), .long 31]) rfl (by decide) rfl (ct_X7_its (l := l) (E := E) σ v3 9 er7) qw_696 qw_6 qw_693 qw_695 qs_8 yd_X7_its (by decide) (by decide) rfl (Nat.le_of_ble_eq_true rfl) dX7_digest_126) ?_
    refine qr_ladd dX7_digest_129 ?_
    refine qr_lmul dX7_digest_130 ?_
    refine qr_aload_n dX7_digest_131 rfl 0 rfl ?_
    refine qr_iload_n dX7_digest_132 rfl 2 rfl ?_
    refine qr_bipush (v := 10) dX7_digest_133 (by decide) ?_
    obtain ⟨r8, er8, h⟩ := qm_bind h
    refine qr_call1 (st1 := [.long r8, .long (31 * ((31 * v1) + r7))]) rfl (qr_callV (id := 210) (c := 5) (As := [.int v3, .int 10]) (st := [.long (31 * ((31 * v1) + r7))]) rfl (by decide) rfl (ct_X7_its (l := l) (E := E) σ v3 10 er8) qw_696 qw_6 qw_693 qw_695 qs_8 yd_X7_its (by decide) (by decide) rfl (Nat.le_of_ble_eq_true rfl) dX7_digest_135) ?_
    refine qr_ladd dX7_digest_138 ?_
    obtain ⟨z9, ez9, h⟩ := qm_bind h
    refine qr_eqj (Option.some.inj ez9) ?_
    refine qr_lstore_n (lv' := [(1, .long z9), (0, .ref (qm_a E 210)), (3, .int v3), (4, .int v4)]) dX7_digest_139 rfl (by decide) rfl ?_
    obtain ⟨z10, ez10, h⟩ := qm_bind h
    refine qr_iinc (q := 2) (v := z10) (lv' := [(3, .int z10), (1, .long z9), (0, .ref (qm_a E 210)), (4, .int v4)]) dX7_digest_140 rfl (Option.some.inj ez10) (by decide) rfl ?_
    refine qr_goto (tgt := 60) dX7_digest_143 (by decide) ?_
    obtain rfl := Option.some.inj h
    exact qr_sub [2, 1, 0] rfl hT
  · rw [if_neg c15] at h
    refine qr_ldc2 qw_977 dX7_digest_93 ?_
    refine qr_lload_n dX7_digest_96 rfl 1 rfl ?_
    refine qr_lmul dX7_digest_97 ?_
    refine qr_aload_n dX7_digest_98 rfl 0 rfl ?_
    refine qr_iload_n dX7_digest_99 rfl 2 rfl ?_
    refine qr_iload dX7_digest_100 3 rfl ?_
    obtain ⟨r12, er12, h⟩ := qm_bind h
    refine qr_call1 (st1 := [.int r12, .long (31 * v1)]) rfl (qr_callV (id := 210) (c := 5) (As := [.int v3, .int v4]) (st := [.long (31 * v1)]) rfl (by decide) rfl (ct_X7_ofNow (l := l) (E := E) σ v3 v4 er12) qw_782 qw_6 qw_779 qw_781 qs_22 yd_X7_ofNow (by decide) (by decide) rfl (Nat.le_of_ble_eq_true rfl) dX7_digest_102) ?_
    refine qr_i2l dX7_digest_105 ?_
    refine qr_ladd dX7_digest_106 ?_
    obtain ⟨z13, ez13, h⟩ := qm_bind h
    refine qr_eqj (Option.some.inj ez13) ?_
    refine qr_lstore_n (lv' := [(1, .long z13), (0, .ref (qm_a E 210)), (3, .int v3), (4, .int v4)]) dX7_digest_107 rfl (by decide) rfl ?_
    obtain ⟨z14, ez14, h⟩ := qm_bind h
    refine qr_iinc (q := 3) (v := z14) (lv' := [(4, .int z14), (1, .long z13), (0, .ref (qm_a E 210)), (3, .int v3)]) dX7_digest_108 rfl (Option.some.inj ez14) (by decide) rfl ?_
    refine qr_goto (tgt := 86) dX7_digest_111 (by decide) ?_
    obtain rfl := Option.some.inj h
    exact qr_sub [2, 1, 3, 0] rfl hT
def lp_X7_digest_86 (σ : qm_M) (v1 : Int64) (v3 : Int32) (v4 : Int32) : Option ((Int64 × Int32) ⊕ (Int64)) := qm_loop (fun s : Int64 × Int32 => bb_X7_digest_86 σ s.1 v3 s.2) 1000 (v1, v4)
theorem wl_X7_digest_86 {l : Launch} {E : qm_E} (σ : qm_M) (v1 : Int64) (v3 : Int32) (v4 : Int32) {x : (Int64 × Int32) ⊕ (Int64)} (h : lp_X7_digest_86 σ v1 v3 v4 = some x) {r : Option Value × qm_M} (hT : (qm_T (pp_X7_digest_60 l E σ) (fun x r => (some (.long x), σ) = r)) x r) : qm_Wp l E kd_X7_digest "HungStreamsModel" cX7_digest 5 86 [(0, .ref (qm_a E 210)), (1, .long v1), (3, .int v3), (4, .int v4)] [] σ r :=
  qm_loop_T (P := pp_X7_digest_86 l E σ v3) (T1 := (qm_T (pp_X7_digest_60 l E σ) (fun x r => (some (.long x), σ) = r))) (fun s x h r hT => wb_X7_digest_86 (l := l) (E := E) σ s.1 v3 s.2  h hT) h hT
def bb_X7_digest_60 (σ : qm_M) (v1 : Int64) (v3 : Int32) : Option ((Int64 × Int32) ⊕ (Int64)) :=
  if 12 < v3 then ((fn_X7_its σ 0 10).bind (fun r1 => (fn_X7_nextNow σ ).bind (fun r2 => some ((31 * ((31 * v1) + r1)) + r2.toInt64)))).bind (fun y => some (.inr y)) else (fn_X7_isStream σ v3).bind (fun r4 => if (qm_b r4) = 0 then (some (v3 + 1)).bind (fun z5 => some (.inl (v1, z5))) else (some ((31 * v1) + v3.toInt64)).bind (fun z6 => lp_X7_digest_86 σ z6 v3 0))
set_option maxRecDepth 20000 in
theorem wb_X7_digest_60 {l : Launch} {E : qm_E} (σ : qm_M) (v1 : Int64) (v3 : Int32) {x : (Int64 × Int32) ⊕ (Int64)} (h : bb_X7_digest_60 σ v1 v3 = some x) {r : Option Value × qm_M} (hT : (qm_T (pp_X7_digest_60 l E σ) (fun x r => (some (.long x), σ) = r)) x r) : qm_Wp l E kd_X7_digest "HungStreamsModel" cX7_digest 5 60 [(0, .ref (qm_a E 210)), (1, .long v1), (3, .int v3)] [] σ r := by
  unfold bb_X7_digest_60 at h
  refine qr_iload_n dX7_digest_60 rfl 2 rfl ?_
  refine qr_bipush (v := 12) dX7_digest_61 (by decide) ?_
  refine qr_icmp_gt (tgt := 146) dX7_digest_63 (by decide) (fun c17 => ?_) (fun c17 => ?_)
  · rw [if_pos c17] at h
    obtain ⟨y3, h1, hx⟩ := qm_bind h
    clear h
    cases hx
    have h := h1
    refine qr_ldc2 qw_977 dX7_digest_146 ?_
    refine qr_ldc2 qw_977 dX7_digest_149 ?_
    refine qr_lload_n dX7_digest_152 rfl 1 rfl ?_
    refine qr_lmul dX7_digest_153 ?_
    refine qr_aload_n dX7_digest_154 rfl 0 rfl ?_
    refine qr_iconst (v := 0) dX7_digest_155 (by decide) ?_
    refine qr_bipush (v := 10) dX7_digest_156 (by decide) ?_
    obtain ⟨r1, er1, h⟩ := qm_bind h
    refine qr_call1 (st1 := [.long r1, .long (31 * v1), .long 31]) rfl (qr_callV (id := 210) (c := 5) (As := [.int 0, .int 10]) (st := [.long (31 * v1), .long 31]) rfl (by decide) rfl (ct_X7_its (l := l) (E := E) σ 0 10 er1) qw_696 qw_6 qw_693 qw_695 qs_8 yd_X7_its (by decide) (by decide) rfl (Nat.le_of_ble_eq_true rfl) dX7_digest_158) ?_
    refine qr_ladd dX7_digest_161 ?_
    refine qr_lmul dX7_digest_162 ?_
    refine qr_aload_n dX7_digest_163 rfl 0 rfl ?_
    obtain ⟨r2, er2, h⟩ := qm_bind h
    refine qr_call1 (st1 := [.int r2, .long (31 * ((31 * v1) + r1))]) rfl (qr_callV (id := 210) (c := 5) (As := []) (st := [.long (31 * ((31 * v1) + r1))]) rfl (by decide) rfl (ct_X7_nextNow (l := l) (E := E) σ  er2) qw_830 qw_6 qw_827 qw_829 qs_26 yd_X7_nextNow (by decide) (by decide) rfl (Nat.le_of_ble_eq_true rfl) dX7_digest_164) ?_
    refine qr_i2l dX7_digest_167 ?_
    refine qr_ladd dX7_digest_168 ?_
    obtain rfl := Option.some.inj h
    cases hT
    exact qr_lret dX7_digest_169
  · rw [if_neg c17] at h
    refine qr_aload_n dX7_digest_66 rfl 0 rfl ?_
    refine qr_iload_n dX7_digest_67 rfl 2 rfl ?_
    obtain ⟨r4, er4, h⟩ := qm_bind h
    refine qr_call1 (st1 := [.int (qm_b r4)]) rfl (qr_callV (id := 210) (c := 5) (As := [.int v3]) (st := []) rfl (by decide) rfl (ct_X7_isStream (l := l) (E := E) σ v3 er4) qw_692 qw_6 qw_689 qw_691 qs_7 yd_X7_isStream (by decide) (by decide) rfl (Nat.le_of_ble_eq_true rfl) dX7_digest_68) ?_
    refine qr_if_eq (tgt := 140) dX7_digest_71 (by decide) (fun c16 => ?_) (fun c16 => ?_)
    · rw [if_pos c16] at h
      obtain ⟨z5, ez5, h⟩ := qm_bind h
      refine qr_iinc (q := 2) (v := z5) (lv' := [(3, .int z5), (0, .ref (qm_a E 210)), (1, .long v1)]) dX7_digest_140 rfl (Option.some.inj ez5) (by decide) rfl ?_
      refine qr_goto (tgt := 60) dX7_digest_143 (by decide) ?_
      obtain rfl := Option.some.inj h
      exact qr_sub [1, 2, 0] rfl hT
    · rw [if_neg c16] at h
      refine qr_ldc2 qw_977 dX7_digest_74 ?_
      refine qr_lload_n dX7_digest_77 rfl 1 rfl ?_
      refine qr_lmul dX7_digest_78 ?_
      refine qr_iload_n dX7_digest_79 rfl 2 rfl ?_
      refine qr_i2l dX7_digest_80 ?_
      refine qr_ladd dX7_digest_81 ?_
      obtain ⟨z6, ez6, h⟩ := qm_bind h
      refine qr_eqj (Option.some.inj ez6) ?_
      refine qr_lstore_n (lv' := [(1, .long z6), (0, .ref (qm_a E 210)), (3, .int v3)]) dX7_digest_82 rfl (by decide) rfl ?_
      refine qr_iconst (v := 0) dX7_digest_83 (by decide) ?_
      refine qr_istore (lv' := [(4, .int 0), (1, .long z6), (0, .ref (qm_a E 210)), (3, .int v3)]) dX7_digest_84 (by decide) rfl ?_
      exact qr_sub [2, 1, 3, 0] rfl (wl_X7_digest_86 (l := l) (E := E) σ z6 v3 0 h hT)
def lp_X7_digest_60 (σ : qm_M) (v1 : Int64) (v3 : Int32) : Option (Int64) := qm_loop (fun s : Int64 × Int32 => bb_X7_digest_60 σ s.1 s.2) 1000 (v1, v3)
theorem wl_X7_digest_60 {l : Launch} {E : qm_E} (σ : qm_M) (v1 : Int64) (v3 : Int32) {x : Int64} (h : lp_X7_digest_60 σ v1 v3 = some x) {r : Option Value × qm_M} (hT : (fun x r => (some (.long x), σ) = r) x r) : qm_Wp l E kd_X7_digest "HungStreamsModel" cX7_digest 5 60 [(0, .ref (qm_a E 210)), (1, .long v1), (3, .int v3)] [] σ r :=
  qm_loop_T (P := pp_X7_digest_60 l E σ) (T1 := (fun x r => (some (.long x), σ) = r)) (fun s x h r hT => wb_X7_digest_60 (l := l) (E := E) σ s.1 s.2  h hT) h hT
def bb_X7_digest_33 (σ : qm_M) (v1 : Int64) (v3 : Int32) : Option ((Int64 × Int32) ⊕ (Int64)) :=
  if 7 ≤ v3 then (lp_X7_digest_60 σ v1 1).bind (fun y => some (.inr y)) else (fn_X7_allNow σ v3).bind (fun r19 => (some ((31 * v1) + r19.toInt64)).bind (fun z20 => (some (v3 + 1)).bind (fun z21 => some (.inl (z20, z21)))))
set_option maxRecDepth 20000 in
theorem wb_X7_digest_33 {l : Launch} {E : qm_E} (σ : qm_M) (v1 : Int64) (v3 : Int32) {x : (Int64 × Int32) ⊕ (Int64)} (h : bb_X7_digest_33 σ v1 v3 = some x) {r : Option Value × qm_M} (hT : (qm_T (pp_X7_digest_33 l E σ) (fun x r => (some (.long x), σ) = r)) x r) : qm_Wp l E kd_X7_digest "HungStreamsModel" cX7_digest 5 33 [(0, .ref (qm_a E 210)), (1, .long v1), (3, .int v3)] [] σ r := by
  unfold bb_X7_digest_33 at h
  refine qr_iload_n dX7_digest_33 rfl 2 rfl ?_
  refine qr_bipush (v := 7) dX7_digest_34 (by decide) ?_
  refine qr_icmp_ge (tgt := 58) dX7_digest_36 (by decide) (fun c22 => ?_) (fun c22 => ?_)
  · rw [if_pos c22] at h
    obtain ⟨y18, h1, hx⟩ := qm_bind h
    clear h
    cases hx
    have h := h1
    refine qr_iconst (v := 1) dX7_digest_58 (by decide) ?_
    refine qr_istore_n (lv' := [(3, .int 1), (0, .ref (qm_a E 210)), (1, .long v1)]) dX7_digest_59 rfl (by decide) rfl ?_
    exact qr_sub [1, 2, 0] rfl (wl_X7_digest_60 (l := l) (E := E) σ v1 1 h hT)
  · rw [if_neg c22] at h
    refine qr_ldc2 qw_977 dX7_digest_39 ?_
    refine qr_lload_n dX7_digest_42 rfl 1 rfl ?_
    refine qr_lmul dX7_digest_43 ?_
    refine qr_aload_n dX7_digest_44 rfl 0 rfl ?_
    refine qr_iload_n dX7_digest_45 rfl 2 rfl ?_
    obtain ⟨r19, er19, h⟩ := qm_bind h
    refine qr_call1 (st1 := [.int r19, .long (31 * v1)]) rfl (qr_callV (id := 210) (c := 5) (As := [.int v3]) (st := [.long (31 * v1)]) rfl (by decide) rfl (ct_X7_allNow (l := l) (E := E) σ v3 er19) qw_899 qw_6 qw_896 qw_898 qs_39 yd_X7_allNow (by decide) (by decide) rfl (Nat.le_of_ble_eq_true rfl) dX7_digest_46) ?_
    refine qr_i2l dX7_digest_49 ?_
    refine qr_ladd dX7_digest_50 ?_
    obtain ⟨z20, ez20, h⟩ := qm_bind h
    refine qr_eqj (Option.some.inj ez20) ?_
    refine qr_lstore_n (lv' := [(1, .long z20), (0, .ref (qm_a E 210)), (3, .int v3)]) dX7_digest_51 rfl (by decide) rfl ?_
    obtain ⟨z21, ez21, h⟩ := qm_bind h
    refine qr_iinc (q := 2) (v := z21) (lv' := [(3, .int z21), (1, .long z20), (0, .ref (qm_a E 210))]) dX7_digest_52 rfl (Option.some.inj ez21) (by decide) rfl ?_
    refine qr_goto (tgt := 33) dX7_digest_55 (by decide) ?_
    obtain rfl := Option.some.inj h
    exact qr_sub [2, 1, 0] rfl hT
def lp_X7_digest_33 (σ : qm_M) (v1 : Int64) (v3 : Int32) : Option (Int64) := qm_loop (fun s : Int64 × Int32 => bb_X7_digest_33 σ s.1 s.2) 1000 (v1, v3)
theorem wl_X7_digest_33 {l : Launch} {E : qm_E} (σ : qm_M) (v1 : Int64) (v3 : Int32) {x : Int64} (h : lp_X7_digest_33 σ v1 v3 = some x) {r : Option Value × qm_M} (hT : (fun x r => (some (.long x), σ) = r) x r) : qm_Wp l E kd_X7_digest "HungStreamsModel" cX7_digest 5 33 [(0, .ref (qm_a E 210)), (1, .long v1), (3, .int v3)] [] σ r :=
  qm_loop_T (P := pp_X7_digest_33 l E σ) (T1 := (fun x r => (some (.long x), σ) = r)) (fun s x h r hT => wb_X7_digest_33 (l := l) (E := E) σ s.1 s.2  h hT) h hT
def bb_X7_digest_6 (σ : qm_M) (v1 : Int64) (v3 : Int32) : Option ((Int64 × Int32) ⊕ (Int64)) :=
  if 10 ≤ v3 then (lp_X7_digest_33 σ v1 0).bind (fun y => some (.inr y)) else (fn_X7_toldOf σ v3).bind (fun r24 => (some ((31 * v1) + r24.toInt64)).bind (fun z25 => (some (v3 + 1)).bind (fun z26 => some (.inl (z25, z26)))))
set_option maxRecDepth 20000 in
theorem wb_X7_digest_6 {l : Launch} {E : qm_E} (σ : qm_M) (v1 : Int64) (v3 : Int32) {x : (Int64 × Int32) ⊕ (Int64)} (h : bb_X7_digest_6 σ v1 v3 = some x) {r : Option Value × qm_M} (hT : (qm_T (pp_X7_digest_6 l E σ) (fun x r => (some (.long x), σ) = r)) x r) : qm_Wp l E kd_X7_digest "HungStreamsModel" cX7_digest 5 6 [(0, .ref (qm_a E 210)), (1, .long v1), (3, .int v3)] [] σ r := by
  unfold bb_X7_digest_6 at h
  refine qr_iload_n dX7_digest_6 rfl 2 rfl ?_
  refine qr_bipush (v := 10) dX7_digest_7 (by decide) ?_
  refine qr_icmp_ge (tgt := 31) dX7_digest_9 (by decide) (fun c27 => ?_) (fun c27 => ?_)
  · rw [if_pos c27] at h
    obtain ⟨y23, h1, hx⟩ := qm_bind h
    clear h
    cases hx
    have h := h1
    refine qr_iconst (v := 0) dX7_digest_31 (by decide) ?_
    refine qr_istore_n (lv' := [(3, .int 0), (0, .ref (qm_a E 210)), (1, .long v1)]) dX7_digest_32 rfl (by decide) rfl ?_
    exact qr_sub [1, 2, 0] rfl (wl_X7_digest_33 (l := l) (E := E) σ v1 0 h hT)
  · rw [if_neg c27] at h
    refine qr_ldc2 qw_977 dX7_digest_12 ?_
    refine qr_lload_n dX7_digest_15 rfl 1 rfl ?_
    refine qr_lmul dX7_digest_16 ?_
    refine qr_aload_n dX7_digest_17 rfl 0 rfl ?_
    refine qr_iload_n dX7_digest_18 rfl 2 rfl ?_
    obtain ⟨r24, er24, h⟩ := qm_bind h
    refine qr_call1 (st1 := [.int r24, .long (31 * v1)]) rfl (qr_callV (id := 210) (c := 5) (As := [.int v3]) (st := [.long (31 * v1)]) rfl (by decide) rfl (ct_X7_toldOf (l := l) (E := E) σ v3 er24) qw_971 qw_6 qw_968 qw_970 qs_50 yd_X7_toldOf (by decide) (by decide) rfl (Nat.le_of_ble_eq_true rfl) dX7_digest_19) ?_
    refine qr_i2l dX7_digest_22 ?_
    refine qr_ladd dX7_digest_23 ?_
    obtain ⟨z25, ez25, h⟩ := qm_bind h
    refine qr_eqj (Option.some.inj ez25) ?_
    refine qr_lstore_n (lv' := [(1, .long z25), (0, .ref (qm_a E 210)), (3, .int v3)]) dX7_digest_24 rfl (by decide) rfl ?_
    obtain ⟨z26, ez26, h⟩ := qm_bind h
    refine qr_iinc (q := 2) (v := z26) (lv' := [(3, .int z26), (1, .long z25), (0, .ref (qm_a E 210))]) dX7_digest_25 rfl (Option.some.inj ez26) (by decide) rfl ?_
    refine qr_goto (tgt := 6) dX7_digest_28 (by decide) ?_
    obtain rfl := Option.some.inj h
    exact qr_sub [2, 1, 0] rfl hT
def lp_X7_digest_6 (σ : qm_M) (v1 : Int64) (v3 : Int32) : Option (Int64) := qm_loop (fun s : Int64 × Int32 => bb_X7_digest_6 σ s.1 s.2) 1000 (v1, v3)
theorem wl_X7_digest_6 {l : Launch} {E : qm_E} (σ : qm_M) (v1 : Int64) (v3 : Int32) {x : Int64} (h : lp_X7_digest_6 σ v1 v3 = some x) {r : Option Value × qm_M} (hT : (fun x r => (some (.long x), σ) = r) x r) : qm_Wp l E kd_X7_digest "HungStreamsModel" cX7_digest 5 6 [(0, .ref (qm_a E 210)), (1, .long v1), (3, .int v3)] [] σ r :=
  qm_loop_T (P := pp_X7_digest_6 l E σ) (T1 := (fun x r => (some (.long x), σ) = r)) (fun s x h r hT => wb_X7_digest_6 (l := l) (E := E) σ s.1 s.2  h hT) h hT
def fn_X7_digest (σ : qm_M)  : Option (Int64) :=
  lp_X7_digest_6 σ 2311 0
set_option maxRecDepth 20000 in
theorem wf_X7_digest {l : Launch} {E : qm_E} (σ : qm_M)  {x : Int64} (h : fn_X7_digest σ  = some x) {r : Option Value × qm_M} (hT : (fun x r => (some (.long x), σ) = r) x r) : qm_Wp l E kd_X7_digest "HungStreamsModel" cX7_digest 5 0 [(0, .ref (qm_a E 210))] [] σ r := by
  unfold fn_X7_digest at h
  refine qr_ldc2 qw_976 dX7_digest_0 ?_
  refine qr_lstore_n (lv' := [(1, .long 2311), (0, .ref (qm_a E 210))]) dX7_digest_3 rfl (by decide) rfl ?_
  refine qr_iconst (v := 0) dX7_digest_4 (by decide) ?_
  refine qr_istore_n (lv' := [(3, .int 0), (1, .long 2311), (0, .ref (qm_a E 210))]) dX7_digest_5 rfl (by decide) rfl ?_
  exact qr_sub [2, 1, 0] rfl (wl_X7_digest_6 (l := l) (E := E) σ 2311 0 h hT)
theorem ct_X7_digest {l : Launch} {E : qm_E} (σ : qm_M)  {x : Int64} (h : fn_X7_digest σ  = some x) : qm_Ct l E kd_X7_digest yX7_digest cX7_digest 5 (some .long) [.ref (qm_a E 210)] σ (some (.long x), σ) := qm_ofWp rfl (Nat.le_of_ble_eq_true rfl) (rfl) (wf_X7_digest σ   h rfl)
