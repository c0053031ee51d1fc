-- HungStreams.digestStream (JI)J
abbrev kd_X6_digestStream : Nat := 5
theorem yd_X6_digestStream : (yX6_digestStream).cls ≠ "java/lang/invoke/MethodHandle" ∧ (yX6_digestStream).cls ≠ "java/lang/invoke/VarHandle" ∧ (parseMethodDescriptor (yX6_digestStream).desc).map (fun d => d.parameters.length) = some 2 := by decide +kernel
abbrev pp_X6_digestStream_13 (l : Launch) (E : qm_E) (v3 : Int32) : (Int64 × Int32 × qm_M) → Option Value × qm_M → Prop := fun s r => qm_Wp l E kd_X6_digestStream "HungStreams" cX6_digestStream 7 13 [(0, .ref (qm_a E 200)), (3, .int v3), (4, .long s.1), (6, .int s.2.1)] [] s.2.2 r
def bb_X6_digestStream_13 (σ : qm_M) (v3 : Int32) (v4 : Int64) (v6 : Int32) : Option ((Int64 × Int32 × qm_M) ⊕ (Int64 × qm_M)) :=
  if 15 < v6 then ((fn_X6_turn σ v3 0).bind (fun r2 => (some ((31 * v4) + r2.1)).bind (fun z3 => (fn_X6_turn r2.2 v3 1).bind (fun r4 => some ((31 * z3) + r4.1, r4.2))))).bind (fun y => some (.inr y)) else (fn_X6_of σ v3 v6).bind (fun r6 => (some ((31 * v4) + r6.1.toInt64)).bind (fun z7 => (some (v6 + 1)).bind (fun z8 => some (.inl (z7, z8, r6.2)))))
set_option maxRecDepth 20000 in
theorem wb_X6_digestStream_13 {l : Launch} {E : qm_E} (σ : qm_M) (v3 : Int32) (v4 : Int64) (v6 : Int32) {x : (Int64 × Int32 × qm_M) ⊕ (Int64 × qm_M)} (h : bb_X6_digestStream_13 σ v3 v4 v6 = some x) {r : Option Value × qm_M} (hT : (qm_T (pp_X6_digestStream_13 l E v3) (fun x r => (some (.long x.1), x.2) = r)) x r) : qm_Wp l E kd_X6_digestStream "HungStreams" cX6_digestStream 7 13 [(0, .ref (qm_a E 200)), (3, .int v3), (4, .long v4), (6, .int v6)] [] σ r := by
  unfold bb_X6_digestStream_13 at h
  refine qr_iload dX6_digestStream_13 3 rfl ?_
  refine qr_bipush (v := 15) dX6_digestStream_15 (by decide) ?_
  refine qr_icmp_gt (tgt := 43) dX6_digestStream_17 (by decide) (fun c9 => ?_) (fun c9 => ?_)
  · rw [if_pos c9] at h
    obtain ⟨y5, h1, hx⟩ := qm_bind h
    clear h
    cases hx
    have h := h1
    refine qr_ldc2 qw_604 dX6_digestStream_43 ?_
    refine qr_lload dX6_digestStream_46 2 rfl ?_
    refine qr_lmul dX6_digestStream_48 ?_
    refine qr_aload_n dX6_digestStream_49 rfl 0 rfl ?_
    refine qr_iload_n dX6_digestStream_50 rfl 1 rfl ?_
    refine qr_iconst (v := 0) dX6_digestStream_51 (by decide) ?_
    obtain ⟨r2, er2, h⟩ := qm_bind h
    refine qr_call1 (st1 := [.long r2.1, .long (31 * v4)]) rfl (qr_callV (id := 200) (c := 4) (As := [.int v3, .int 0]) (st := [.long (31 * v4)]) rfl (by decide) rfl (ct_X6_turn (l := l) (E := E) σ v3 0 er2) qw_391 qw_1 qw_612 qw_389 qw_390 yd_X6_turn (by decide) (by decide) rfl (Nat.le_of_ble_eq_true rfl) dX6_digestStream_52) ?_
    refine qr_ladd dX6_digestStream_55 ?_
    obtain ⟨z3, ez3, h⟩ := qm_bind h
    refine qr_eqj (Option.some.inj ez3) ?_
    refine qr_lstore (lv' := [(4, .long z3), (0, .ref (qm_a E 200)), (3, .int v3), (6, .int v6)]) dX6_digestStream_56 (by decide) rfl ?_
    refine qr_ldc2 qw_604 dX6_digestStream_58 ?_
    refine qr_lload dX6_digestStream_61 0 rfl ?_
    refine qr_lmul dX6_digestStream_63 ?_
    refine qr_aload_n dX6_digestStream_64 rfl 1 rfl ?_
    refine qr_iload_n dX6_digestStream_65 rfl 2 rfl ?_
    refine qr_iconst (v := 1) dX6_digestStream_66 (by decide) ?_
    obtain ⟨r4, er4, h⟩ := qm_bind h
    refine qr_call1 (st1 := [.long r4.1, .long (31 * z3)]) rfl (qr_callV (id := 200) (c := 4) (As := [.int v3, .int 1]) (st := [.long (31 * z3)]) rfl (by decide) rfl (ct_X6_turn (l := l) (E := E) r2.2 v3 1 er4) qw_391 qw_1 qw_612 qw_389 qw_390 yd_X6_turn (by decide) (by decide) rfl (Nat.le_of_ble_eq_true rfl) dX6_digestStream_67) ?_
    refine qr_ladd dX6_digestStream_70 ?_
    obtain rfl := Option.some.inj h
    cases hT
    exact qr_lret dX6_digestStream_71
  · rw [if_neg c9] at h
    refine qr_ldc2 qw_604 dX6_digestStream_20 ?_
    refine qr_lload dX6_digestStream_23 2 rfl ?_
    refine qr_lmul dX6_digestStream_25 ?_
    refine qr_aload_n dX6_digestStream_26 rfl 0 rfl ?_
    refine qr_iload_n dX6_digestStream_27 rfl 1 rfl ?_
    refine qr_iload dX6_digestStream_28 3 rfl ?_
    obtain ⟨r6, er6, h⟩ := qm_bind h
    refine qr_call1 (st1 := [.int r6.1, .long (31 * v4)]) rfl (qr_callV (id := 200) (c := 4) (As := [.int v3, .int v6]) (st := [.long (31 * v4)]) rfl (by decide) rfl (ct_X6_of (l := l) (E := E) σ v3 v6 er6) qw_364 qw_1 qw_611 qw_362 qw_363 yd_X6_of (by decide) (by decide) rfl (Nat.le_of_ble_eq_true rfl) dX6_digestStream_30) ?_
    refine qr_i2l dX6_digestStream_33 ?_
    refine qr_ladd dX6_digestStream_34 ?_
    obtain ⟨z7, ez7, h⟩ := qm_bind h
    refine qr_eqj (Option.some.inj ez7) ?_
    refine qr_lstore (lv' := [(4, .long z7), (0, .ref (qm_a E 200)), (3, .int v3), (6, .int v6)]) dX6_digestStream_35 (by decide) rfl ?_
    obtain ⟨z8, ez8, h⟩ := qm_bind h
    refine qr_iinc (q := 3) (v := z8) (lv' := [(6, .int z8), (4, .long z7), (0, .ref (qm_a E 200)), (3, .int v3)]) dX6_digestStream_37 rfl (Option.some.inj ez8) (by decide) rfl ?_
    refine qr_goto (tgt := 13) dX6_digestStream_40 (by decide) ?_
    obtain rfl := Option.some.inj h
    exact qr_sub [2, 3, 1, 0] rfl hT
def lp_X6_digestStream_13 (σ : qm_M) (v3 : Int32) (v4 : Int64) (v6 : Int32) : Option (Int64 × qm_M) := qm_loop (fun s : Int64 × Int32 × qm_M => bb_X6_digestStream_13 s.2.2 v3 s.1 s.2.1) 1000 (v4, v6, σ)
theorem wl_X6_digestStream_13 {l : Launch} {E : qm_E} (σ : qm_M) (v3 : Int32) (v4 : Int64) (v6 : Int32) {x : Int64 × qm_M} (h : lp_X6_digestStream_13 σ v3 v4 v6 = some x) {r : Option Value × qm_M} (hT : (fun x r => (some (.long x.1), x.2) = r) x r) : qm_Wp l E kd_X6_digestStream "HungStreams" cX6_digestStream 7 13 [(0, .ref (qm_a E 200)), (3, .int v3), (4, .long v4), (6, .int v6)] [] σ r :=
  qm_loop_T (P := pp_X6_digestStream_13 l E v3) (T1 := (fun x r => (some (.long x.1), x.2) = r)) (fun s x h r hT => wb_X6_digestStream_13 (l := l) (E := E) s.2.2 v3 s.1 s.2.1  h hT) h hT
def fn_X6_digestStream (σ : qm_M) (v1 : Int64) (v3 : Int32) : Option (Int64 × qm_M) :=
  (some ((31 * v1) + v3.toInt64)).bind (fun z1 => lp_X6_digestStream_13 σ v3 z1 0)
set_option maxRecDepth 20000 in
theorem wf_X6_digestStream {l : Launch} {E : qm_E} (σ : qm_M) (v1 : Int64) (v3 : Int32) {x : Int64 × qm_M} (h : fn_X6_digestStream σ v1 v3 = some x) {r : Option Value × qm_M} (hT : (fun x r => (some (.long x.1), x.2) = r) x r) : qm_Wp l E kd_X6_digestStream "HungStreams" cX6_digestStream 7 0 [(0, .ref (qm_a E 200)), (1, .long v1), (3, .int v3)] [] σ r := by
  unfold fn_X6_digestStream at h
  refine qr_ldc2 qw_604 dX6_digestStream_0 ?_
  refine qr_lload_n dX6_digestStream_3 rfl 1 rfl ?_
  refine qr_lmul dX6_digestStream_4 ?_
  refine qr_iload_n dX6_digestStream_5 rfl 2 rfl ?_
  refine qr_i2l dX6_digestStream_6 ?_
  refine qr_ladd dX6_digestStream_7 ?_
  obtain ⟨z1, ez1, h⟩ := qm_bind h
  refine qr_eqj (Option.some.inj ez1) ?_
  refine qr_lstore (lv' := [(4, .long z1), (0, .ref (qm_a E 200)), (1, .long v1), (3, .int v3)]) dX6_digestStream_8 (by decide) rfl ?_
  refine qr_iconst (v := 0) dX6_digestStream_10 (by decide) ?_
  refine qr_istore (lv' := [(6, .int 0), (4, .long z1), (0, .ref (qm_a E 200)), (1, .long v1), (3, .int v3)]) dX6_digestStream_11 (by decide) rfl ?_
  exact qr_sub [2, 4, 1, 0] rfl (wl_X6_digestStream_13 (l := l) (E := E) σ v3 z1 0 h hT)
theorem ct_X6_digestStream {l : Launch} {E : qm_E} (σ : qm_M) (v1 : Int64) (v3 : Int32) {x : Int64 × qm_M} (h : fn_X6_digestStream σ v1 v3 = some x) : qm_Ct l E kd_X6_digestStream yX6_digestStream cX6_digestStream 7 (some .long) [.ref (qm_a E 200), .long v1, .int v3] σ (some (.long x.1), x.2) := qm_ofWp rfl (Nat.le_of_ble_eq_true rfl) (rfl) (wf_X6_digestStream σ v1 v3  h rfl)
-- HungStreams.digest ()J
abbrev kd_X6_digest : Nat := 7
theorem yd_X6_digest : (yX6_digest).cls ≠ "java/lang/invoke/MethodHandle" ∧ (yX6_digest).cls ≠ "java/lang/invoke/VarHandle" ∧ (parseMethodDescriptor (yX6_digest).desc).map (fun d => d.parameters.length) = some 0 := by decide +kernel
abbrev pp_X6_digest_6 (l : Launch) (E : qm_E) : (Int64 × Int32 × qm_M) → Option Value × qm_M → Prop := fun s r => qm_Wp l E kd_X6_digest "HungStreams" cX6_digest 4 6 [(0, .ref (qm_a E 200)), (1, .long s.1), (3, .int s.2.1)] [] s.2.2 r
abbrev pp_X6_digest_33 (l : Launch) (E : qm_E) : (Int64 × Int32 × qm_M) → Option Value × qm_M → Prop := fun s r => qm_Wp l E kd_X6_digest "HungStreams" cX6_digest 4 33 [(0, .ref (qm_a E 200)), (1, .long s.1), (3, .int s.2.1)] [] s.2.2 r
abbrev pp_X6_digest_60 (l : Launch) (E : qm_E) : (Int64 × Int32 × qm_M) → Option Value × qm_M → Prop := fun s r => qm_Wp l E kd_X6_digest "HungStreams" cX6_digest 4 60 [(0, .ref (qm_a E 200)), (1, .long s.1), (3, .int s.2.1)] [] s.2.2 r
def bb_X6_digest_60 (σ : qm_M) (v1 : Int64) (v3 : Int32) : Option ((Int64 × Int32 × qm_M) ⊕ (Int64 × qm_M)) :=
  if 12 < v3 then ((fn_X6_turn σ 0 1).bind (fun r1 => (some ((31 * v1) + r1.1)).bind (fun z2 => (fn_X6_next r1.2 ).bind (fun r3 => some ((31 * z2) + r3.toInt64, r1.2))))).bind (fun y => some (.inr y)) else (fn_X3_isThere σ 0 v3).bind (fun r5 => if (qm_b r5) = 0 then (some (v3 + 1)).bind (fun z6 => some (.inl (v1, z6, σ))) else (fn_X6_digestStream σ v1 v3).bind (fun r7 => (some (v3 + 1)).bind (fun z8 => some (.inl (r7.1, z8, r7.2)))))
set_option maxRecDepth 20000 in
theorem wb_X6_digest_60 {l : Launch} {E : qm_E} (σ : qm_M) (v1 : Int64) (v3 : Int32) {x : (Int64 × Int32 × qm_M) ⊕ (Int64 × qm_M)} (h : bb_X6_digest_60 σ v1 v3 = some x) {r : Option Value × qm_M} (hT : (qm_T (pp_X6_digest_60 l E) (fun x r => (some (.long x.1), x.2) = r)) x r) : qm_Wp l E kd_X6_digest "HungStreams" cX6_digest 4 60 [(0, .ref (qm_a E 200)), (1, .long v1), (3, .int v3)] [] σ r := by
  unfold bb_X6_digest_60 at h
  refine qr_iload_n dX6_digest_60 rfl 2 rfl ?_
  refine qr_bipush (v := 12) dX6_digest_61 (by decide) ?_
  refine qr_icmp_gt (tgt := 90) dX6_digest_63 (by decide) (fun c10 => ?_) (fun c10 => ?_)
  · rw [if_pos c10] at h
    obtain ⟨y4, h1, hx⟩ := qm_bind h
    clear h
    cases hx
    have h := h1
    refine qr_ldc2 qw_604 dX6_digest_90 ?_
    refine qr_lload_n dX6_digest_93 rfl 1 rfl ?_
    refine qr_lmul dX6_digest_94 ?_
    refine qr_aload_n dX6_digest_95 rfl 0 rfl ?_
    refine qr_iconst (v := 0) dX6_digest_96 (by decide) ?_
    refine qr_iconst (v := 1) dX6_digest_97 (by decide) ?_
    obtain ⟨r1, er1, h⟩ := qm_bind h
    refine qr_call1 (st1 := [.long r1.1, .long (31 * v1)]) rfl (qr_callV (id := 200) (c := 4) (As := [.int 0, .int 1]) (st := [.long (31 * v1)]) rfl (by decide) rfl (ct_X6_turn (l := l) (E := E) σ 0 1 er1) qw_391 qw_1 qw_612 qw_389 qw_390 yd_X6_turn (by decide) (by decide) rfl (Nat.le_of_ble_eq_true rfl) dX6_digest_98) ?_
    refine qr_ladd dX6_digest_101 ?_
    obtain ⟨z2, ez2, h⟩ := qm_bind h
    refine qr_eqj (Option.some.inj ez2) ?_
    refine qr_lstore_n (lv' := [(1, .long z2), (0, .ref (qm_a E 200)), (3, .int v3)]) dX6_digest_102 rfl (by decide) rfl ?_
    refine qr_ldc2 qw_604 dX6_digest_103 ?_
    refine qr_lload_n dX6_digest_106 rfl 0 rfl ?_
    refine qr_lmul dX6_digest_107 ?_
    refine qr_aload_n dX6_digest_108 rfl 1 rfl ?_
    obtain ⟨r3, er3, h⟩ := qm_bind h
    refine qr_call1 (st1 := [.int r3, .long (31 * z2)]) rfl (qr_callV (id := 200) (c := 4) (As := []) (st := [.long (31 * z2)]) rfl (by decide) rfl (ct_X6_next (l := l) (E := E) r1.2  er3) qw_489 qw_1 qw_613 qw_487 qw_488 yd_X6_next (by decide) (by decide) rfl (Nat.le_of_ble_eq_true rfl) dX6_digest_109) ?_
    refine qr_i2l dX6_digest_112 ?_
    refine qr_ladd dX6_digest_113 ?_
    obtain rfl := Option.some.inj h
    cases hT
    exact qr_lret dX6_digest_114
  · rw [if_neg c10] at h
    refine qr_aload_n dX6_digest_66 rfl 0 rfl ?_
    refine qr_get4 (k := 0) (v := .ref (qm_a E 0)) rfl (by decide) rfl qw_216 dX6_digest_67 ?_
    refine qr_iload_n dX6_digest_70 rfl 2 rfl ?_
    obtain ⟨r5, er5, h⟩ := qm_bind h
    refine qr_call1 (st1 := [.int (qm_b r5)]) rfl (qr_callV (id := 0) (c := 1) (As := [.int v3]) (st := []) rfl (by decide) rfl (ct_X3_isThere (l := l) (E := E) σ 0 v3 rfl er5) qw_258 qw_2 qw_267 qw_256 qw_257 yd_X3_isThere (by decide) (by decide) rfl (Nat.le_of_ble_eq_true rfl) dX6_digest_71) ?_
    refine qr_if_eq (tgt := 84) dX6_digest_74 (by decide) (fun c9 => ?_) (fun c9 => ?_)
    · rw [if_pos c9] at h
      obtain ⟨z6, ez6, h⟩ := qm_bind h
      refine qr_iinc (q := 2) (v := z6) (lv' := [(3, .int z6), (0, .ref (qm_a E 200)), (1, .long v1)]) dX6_digest_84 rfl (Option.some.inj ez6) (by decide) rfl ?_
      refine qr_goto (tgt := 60) dX6_digest_87 (by decide) ?_
      obtain rfl := Option.some.inj h
      exact qr_sub [1, 2, 0] rfl hT
    · rw [if_neg c9] at h
      refine qr_aload_n dX6_digest_77 rfl 0 rfl ?_
      refine qr_lload_n dX6_digest_78 rfl 1 rfl ?_
      refine qr_iload_n dX6_digest_79 rfl 2 rfl ?_
      obtain ⟨r7, er7, h⟩ := qm_bind h
      refine qr_call1 (st1 := [.long r7.1]) rfl (qr_callV (id := 200) (c := 4) (As := [.long v1, .int v3]) (st := []) rfl (by decide) rfl (ct_X6_digestStream (l := l) (E := E) σ v1 v3 er7) qw_610 qw_1 qw_607 qw_609 qs_5 yd_X6_digestStream (by decide) (by decide) rfl (Nat.le_of_ble_eq_true rfl) dX6_digest_80) ?_
      refine qr_lstore_n (lv' := [(1, .long r7.1), (0, .ref (qm_a E 200)), (3, .int v3)]) dX6_digest_83 rfl (by decide) rfl ?_
      obtain ⟨z8, ez8, h⟩ := qm_bind h
      refine qr_iinc (q := 2) (v := z8) (lv' := [(3, .int z8), (1, .long r7.1), (0, .ref (qm_a E 200))]) dX6_digest_84 rfl (Option.some.inj ez8) (by decide) rfl ?_
      refine qr_goto (tgt := 60) dX6_digest_87 (by decide) ?_
      obtain rfl := Option.some.inj h
      exact qr_sub [2, 1, 0] rfl hT
def lp_X6_digest_60 (σ : qm_M) (v1 : Int64) (v3 : Int32) : Option (Int64 × qm_M) := qm_loop (fun s : Int64 × Int32 × qm_M => bb_X6_digest_60 s.2.2 s.1 s.2.1) 1000 (v1, v3, σ)
theorem wl_X6_digest_60 {l : Launch} {E : qm_E} (σ : qm_M) (v1 : Int64) (v3 : Int32) {x : Int64 × qm_M} (h : lp_X6_digest_60 σ v1 v3 = some x) {r : Option Value × qm_M} (hT : (fun x r => (some (.long x.1), x.2) = r) x r) : qm_Wp l E kd_X6_digest "HungStreams" cX6_digest 4 60 [(0, .ref (qm_a E 200)), (1, .long v1), (3, .int v3)] [] σ r :=
  qm_loop_T (P := pp_X6_digest_60 l E) (T1 := (fun x r => (some (.long x.1), x.2) = r)) (fun s x h r hT => wb_X6_digest_60 (l := l) (E := E) s.2.2 s.1 s.2.1  h hT) h hT
def bb_X6_digest_33 (σ : qm_M) (v1 : Int64) (v3 : Int32) : Option ((Int64 × Int32 × qm_M) ⊕ (Int64 × qm_M)) :=
  if 6 < v3 then (lp_X6_digest_60 σ v1 1).bind (fun y => some (.inr y)) else (fn_X6_all σ v3).bind (fun r12 => (some ((31 * v1) + r12.1.toInt64)).bind (fun z13 => (some (v3 + 1)).bind (fun z14 => some (.inl (z13, z14, r12.2)))))
set_option maxRecDepth 20000 in
theorem wb_X6_digest_33 {l : Launch} {E : qm_E} (σ : qm_M) (v1 : Int64) (v3 : Int32) {x : (Int64 × Int32 × qm_M) ⊕ (Int64 × qm_M)} (h : bb_X6_digest_33 σ v1 v3 = some x) {r : Option Value × qm_M} (hT : (qm_T (pp_X6_digest_33 l E) (fun x r => (some (.long x.1), x.2) = r)) x r) : qm_Wp l E kd_X6_digest "HungStreams" cX6_digest 4 33 [(0, .ref (qm_a E 200)), (1, .long v1), (3, .int v3)] [] σ r := by
  unfold bb_X6_digest_33 at h
  refine qr_iload_n dX6_digest_33 rfl 2 rfl ?_
  refine qr_bipush (v := 6) dX6_digest_34 (by decide) ?_
  refine qr_icmp_gt (tgt := 58) dX6_digest_36 (by decide) (fun c15 => ?_) (fun c15 => ?_)
  · rw [if_pos c15] at h
    obtain ⟨y11, h1, hx⟩ := qm_bind h
    clear h
    cases hx
    have h := h1
    refine qr_iconst (v := 1) dX6_digest_58 (by decide) ?_
    refine qr_istore_n (lv' := [(3, .int 1), (0, .ref (qm_a E 200)), (1, .long v1)]) dX6_digest_59 rfl (by decide) rfl ?_
    exact qr_sub [1, 2, 0] rfl (wl_X6_digest_60 (l := l) (E := E) σ v1 1 h hT)
  · rw [if_neg c15] at h
    refine qr_ldc2 qw_604 dX6_digest_39 ?_
    refine qr_lload_n dX6_digest_42 rfl 1 rfl ?_
    refine qr_lmul dX6_digest_43 ?_
    refine qr_aload_n dX6_digest_44 rfl 0 rfl ?_
    refine qr_iload_n dX6_digest_45 rfl 2 rfl ?_
    obtain ⟨r12, er12, h⟩ := qm_bind h
    refine qr_call1 (st1 := [.int r12.1, .long (31 * v1)]) rfl (qr_callV (id := 200) (c := 4) (As := [.int v3]) (st := [.long (31 * v1)]) rfl (by decide) rfl (ct_X6_all (l := l) (E := E) σ v3 er12) qw_510 qw_1 qw_606 qw_508 qw_509 yd_X6_all (by decide) (by decide) rfl (Nat.le_of_ble_eq_true rfl) dX6_digest_46) ?_
    refine qr_i2l dX6_digest_49 ?_
    refine qr_ladd dX6_digest_50 ?_
    obtain ⟨z13, ez13, h⟩ := qm_bind h
    refine qr_eqj (Option.some.inj ez13) ?_
    refine qr_lstore_n (lv' := [(1, .long z13), (0, .ref (qm_a E 200)), (3, .int v3)]) dX6_digest_51 rfl (by decide) rfl ?_
    obtain ⟨z14, ez14, h⟩ := qm_bind h
    refine qr_iinc (q := 2) (v := z14) (lv' := [(3, .int z14), (1, .long z13), (0, .ref (qm_a E 200))]) dX6_digest_52 rfl (Option.some.inj ez14) (by decide) rfl ?_
    refine qr_goto (tgt := 33) dX6_digest_55 (by decide) ?_
    obtain rfl := Option.some.inj h
    exact qr_sub [2, 1, 0] rfl hT
def lp_X6_digest_33 (σ : qm_M) (v1 : Int64) (v3 : Int32) : Option (Int64 × qm_M) := qm_loop (fun s : Int64 × Int32 × qm_M => bb_X6_digest_33 s.2.2 s.1 s.2.1) 1000 (v1, v3, σ)
theorem wl_X6_digest_33 {l : Launch} {E : qm_E} (σ : qm_M) (v1 : Int64) (v3 : Int32) {x : Int64 × qm_M} (h : lp_X6_digest_33 σ v1 v3 = some x) {r : Option Value × qm_M} (hT : (fun x r => (some (.long x.1), x.2) = r) x r) : qm_Wp l E kd_X6_digest "HungStreams" cX6_digest 4 33 [(0, .ref (qm_a E 200)), (1, .long v1), (3, .int v3)] [] σ r :=
  qm_loop_T (P := pp_X6_digest_33 l E) (T1 := (fun x r => (some (.long x.1), x.2) = r)) (fun s x h r hT => wb_X6_digest_33 (l := l) (E := E) s.2.2 s.1 s.2.1  h hT) h hT
def bb_X6_digest_6 (σ : qm_M) (v1 : Int64) (v3 : Int32) : Option ((Int64 × Int32 × qm_M) ⊕ (Int64 × qm_M)) :=
  if 9 < v3 then (lp_X6_digest_33 σ v1 0).bind (fun y => some (.inr y)) else (fn_X6_told σ v3).bind (fun r17 => (some ((31 * v1) + r17.1.toInt64)).bind (fun z18 => (some (v3 + 1)).bind (fun z19 => some (.inl (z18, z19, r17.2)))))
set_option maxRecDepth 20000 in
theorem wb_X6_digest_6 {l : Launch} {E : qm_E} (σ : qm_M) (v1 : Int64) (v3 : Int32) {x : (Int64 × Int32 × qm_M) ⊕ (Int64 × qm_M)} (h : bb_X6_digest_6 σ v1 v3 = some x) {r : Option Value × qm_M} (hT : (qm_T (pp_X6_digest_6 l E) (fun x r => (some (.long x.1), x.2) = r)) x r) : qm_Wp l E kd_X6_digest "HungStreams" cX6_digest 4 6 [(0, .ref (qm_a E 200)), (1, .long v1), (3, .int v3)] [] σ r := by
  unfold bb_X6_digest_6 at h
  refine qr_iload_n dX6_digest_6 rfl 2 rfl ?_
  refine qr_bipush (v := 9) dX6_digest_7 (by decide) ?_
  refine qr_icmp_gt (tgt := 31) dX6_digest_9 (by decide) (fun c20 => ?_) (fun c20 => ?_)
  · rw [if_pos c20] at h
    obtain ⟨y16, h1, hx⟩ := qm_bind h
    clear h
    cases hx
    have h := h1
    refine qr_iconst (v := 0) dX6_digest_31 (by decide) ?_
    refine qr_istore_n (lv' := [(3, .int 0), (0, .ref (qm_a E 200)), (1, .long v1)]) dX6_digest_32 rfl (by decide) rfl ?_
    exact qr_sub [1, 2, 0] rfl (wl_X6_digest_33 (l := l) (E := E) σ v1 0 h hT)
  · rw [if_neg c20] at h
    refine qr_ldc2 qw_604 dX6_digest_12 ?_
    refine qr_lload_n dX6_digest_15 rfl 1 rfl ?_
    refine qr_lmul dX6_digest_16 ?_
    refine qr_aload_n dX6_digest_17 rfl 0 rfl ?_
    refine qr_iload_n dX6_digest_18 rfl 2 rfl ?_
    obtain ⟨r17, er17, h⟩ := qm_bind h
    refine qr_call1 (st1 := [.int r17.1, .long (31 * v1)]) rfl (qr_callV (id := 200) (c := 4) (As := [.int v3]) (st := [.long (31 * v1)]) rfl (by decide) rfl (ct_X6_told (l := l) (E := E) σ v3 er17) qw_598 qw_1 qw_605 qw_596 qw_597 yd_X6_told (by decide) (by decide) rfl (Nat.le_of_ble_eq_true rfl) dX6_digest_19) ?_
    refine qr_i2l dX6_digest_22 ?_
    refine qr_ladd dX6_digest_23 ?_
    obtain ⟨z18, ez18, h⟩ := qm_bind h
    refine qr_eqj (Option.some.inj ez18) ?_
    refine qr_lstore_n (lv' := [(1, .long z18), (0, .ref (qm_a E 200)), (3, .int v3)]) dX6_digest_24 rfl (by decide) rfl ?_
    obtain ⟨z19, ez19, h⟩ := qm_bind h
    refine qr_iinc (q := 2) (v := z19) (lv' := [(3, .int z19), (1, .long z18), (0, .ref (qm_a E 200))]) dX6_digest_25 rfl (Option.some.inj ez19) (by decide) rfl ?_
    refine qr_goto (tgt := 6) dX6_digest_28 (by decide) ?_
    obtain rfl := Option.some.inj h
    exact qr_sub [2, 1, 0] rfl hT
def lp_X6_digest_6 (σ : qm_M) (v1 : Int64) (v3 : Int32) : Option (Int64 × qm_M) := qm_loop (fun s : Int64 × Int32 × qm_M => bb_X6_digest_6 s.2.2 s.1 s.2.1) 1000 (v1, v3, σ)
theorem wl_X6_digest_6 {l : Launch} {E : qm_E} (σ : qm_M) (v1 : Int64) (v3 : Int32) {x : Int64 × qm_M} (h : lp_X6_digest_6 σ v1 v3 = some x) {r : Option Value × qm_M} (hT : (fun x r => (some (.long x.1), x.2) = r) x r) : qm_Wp l E kd_X6_digest "HungStreams" cX6_digest 4 6 [(0, .ref (qm_a E 200)), (1, .long v1), (3, .int v3)] [] σ r :=
  qm_loop_T (P := pp_X6_digest_6 l E) (T1 := (fun x r => (some (.long x.1), x.2) = r)) (fun s x h r hT => wb_X6_digest_6 (l := l) (E := E) s.2.2 s.1 s.2.1  h hT) h hT
def fn_X6_digest (σ : qm_M)  : Option (Int64 × qm_M) :=
  lp_X6_digest_6 σ 2311 0
set_option maxRecDepth 20000 in
theorem wf_X6_digest {l : Launch} {E : qm_E} (σ : qm_M)  {x : Int64 × qm_M} (h : fn_X6_digest σ  = some x) {r : Option Value × qm_M} (hT : (fun x r => (some (.long x.1), x.2) = r) x r) : qm_Wp l E kd_X6_digest "HungStreams" cX6_digest 4 0 [(0, .ref (qm_a E 200))] [] σ r := by
  unfold fn_X6_digest at h
  refine qr_ldc2 qw_603 dX6_digest_0 ?_
  refine qr_lstore_n (lv' := [(1, .long 2311), (0, .ref (qm_a E 200))]) dX6_digest_3 rfl (by decide) rfl ?_
  refine qr_iconst (v := 0) dX6_digest_4 (by decide) ?_
  refine qr_istore_n (lv' := [(3, .int 0), (1, .long 2311), (0, .ref (qm_a E 200))]) dX6_digest_5 rfl (by decide) rfl ?_
  exact qr_sub [2, 1, 0] rfl (wl_X6_digest_6 (l := l) (E := E) σ 2311 0 h hT)
theorem ct_X6_digest {l : Launch} {E : qm_E} (σ : qm_M)  {x : Int64 × qm_M} (h : fn_X6_digest σ  = some x) : qm_Ct l E kd_X6_digest yX6_digest cX6_digest 4 (some .long) [.ref (qm_a E 200)] σ (some (.long x.1), x.2) := qm_ofWp rfl (Nat.le_of_ble_eq_true rfl) (rfl) (wf_X6_digest σ   h rfl)
-- HungStreamsModel.in (JJJ)Z
abbrev kd_X7_in : Nat := 1
theorem yd_X7_in : (yX7_in).cls ≠ "java/lang/invoke/MethodHandle" ∧ (yX7_in).cls ≠ "java/lang/invoke/VarHandle" ∧ (parseMethodDescriptor (yX7_in).desc).map (fun d => d.parameters.length) = some 3 := by decide +kernel
def fn_X7_in (σ : qm_M) (v0 : Int64) (v2 : Int64) (v4 : Int64) : Option (Bool) :=
  if (lg_cmp v0 v2) < 0 then some false else if 0 < (lg_cmp v0 v4) then some false else some true
set_option maxRecDepth 20000 in
theorem wf_X7_in {l : Launch} {E : qm_E} (σ : qm_M) (v0 : Int64) (v2 : Int64) (v4 : Int64) {x : Bool} (h : fn_X7_in σ v0 v2 v4 = some x) {r : Option Value × qm_M} (hT : (fun x r => (some (.int (qm_b x)), σ) = r) x r) : qm_Wp l E kd_X7_in "HungStreamsModel" cX7_in 6 0 [(0, .long v0), (2, .long v2), (4, .long v4)] [] σ r := by
  unfold fn_X7_in at h
  refine qr_lload_n dX7_in_0 rfl 0 rfl ?_
  refine qr_lload_n dX7_in_1 rfl 1 rfl ?_
  refine qr_lcmp dX7_in_2 ?_
  refine qr_if_lt (tgt := 17) dX7_in_3 (by decide) (fun c2 => ?_) (fun c2 => ?_)
  · rw [if_pos c2] at h
    refine qr_iconst (v := 0) dX7_in_17 (by decide) ?_
    obtain rfl := Option.some.inj h
    cases hT
    exact qr_iret dX7_in_18
  · rw [if_neg c2] at h
    refine qr_lload_n dX7_in_6 rfl 0 rfl ?_
    refine qr_lload dX7_in_7 2 rfl ?_
    refine qr_lcmp dX7_in_9 ?_
    refine qr_if_gt (tgt := 17) dX7_in_10 (by decide) (fun c1 => ?_) (fun c1 => ?_)
    · rw [if_pos c1] at h
      refine qr_iconst (v := 0) dX7_in_17 (by decide) ?_
      obtain rfl := Option.some.inj h
      cases hT
      exact qr_iret dX7_in_18
    · rw [if_neg c1] at h
      refine qr_iconst (v := 1) dX7_in_13 (by decide) ?_
      refine qr_goto (tgt := 18) dX7_in_14 (by decide) ?_
      obtain rfl := Option.some.inj h
      cases hT
      exact qr_iret dX7_in_18
theorem ct_X7_in {l : Launch} {E : qm_E} (σ : qm_M) (v0 : Int64) (v2 : Int64) (v4 : Int64) {x : Bool} (h : fn_X7_in σ v0 v2 v4 = some x) : qm_Ct l E kd_X7_in yX7_in cX7_in 6 (some .boolean) [.long v0, .long v2, .long v4] σ (some (.int (qm_b x)), σ) := qm_ofWp rfl (Nat.le_of_ble_eq_true rfl) (qm_rtz _) (wf_X7_in σ v0 v2 v4  h rfl)
-- HungStreamsModel.refuses (I)I
abbrev kd_X7_refuses : Nat := 1
theorem yd_X7_refuses : (yX7_refuses).cls ≠ "java/lang/invoke/MethodHandle" ∧ (yX7_refuses).cls ≠ "java/lang/invoke/VarHandle" ∧ (parseMethodDescriptor (yX7_refuses).desc).map (fun d => d.parameters.length) = some 1 := by decide +kernel
def fn_X7_refuses (σ : qm_M) (v1 : Int32) : Option (Int32 × qm_M) :=
  if ¬ (((-2) - v1) < 0 ∨ 3 ≤ ((-2) - v1).toNatClampNeg) then if ¬ (((-2) - v1) < 0 ∨ 3 ≤ ((-2) - v1).toNatClampNeg) then (some (qm_si σ 213 ((-2) - v1).toNatClampNeg ((σ.1 213 ((-2) - v1).toNatClampNeg) + 1))).bind (fun σ3 => some (v1, σ3)) else none else none
set_option maxRecDepth 20000 in
theorem wf_X7_refuses {l : Launch} {E : qm_E} (σ : qm_M) (v1 : Int32) {x : Int32 × qm_M} (h : fn_X7_refuses σ v1 = some x) {r : Option Value × qm_M} (hT : (fun x r => (some (.int x.1), x.2) = r) x r) : qm_Wp l E kd_X7_refuses "HungStreamsModel" cX7_refuses 2 0 [(0, .ref (qm_a E 210)), (1, .int v1)] [] σ r := by
  unfold fn_X7_refuses at h
  refine qr_aload_n dX7_refuses_0 rfl 0 rfl ?_
  refine qr_get5 (k := 3) (v := .ref (qm_a E 213)) rfl (by decide) rfl qw_627 dX7_refuses_1 ?_
  refine qr_bipush (v := (-2)) dX7_refuses_4 (by decide) ?_
  refine qr_iload_n dX7_refuses_6 rfl 1 rfl ?_
  refine qr_isub dX7_refuses_7 ?_
  refine qr_dup2 dX7_refuses_8 rfl rfl ?_
  obtain ⟨c1, h⟩ := qm_chk h
  refine qr_iald rfl c1 dX7_refuses_9 ?_
  refine qr_iconst (v := 1) dX7_refuses_10 (by decide) ?_
  refine qr_iadd dX7_refuses_11 ?_
  obtain ⟨c2, h⟩ := qm_chk h
  obtain ⟨σ3, eσ3, h⟩ := qm_bind h
  refine qr_iast rfl c2 dX7_refuses_12 (qr_eqm (Option.some.inj eσ3) ?_)
  refine qr_iload_n dX7_refuses_13 rfl 1 rfl ?_
  obtain rfl := Option.some.inj h
  cases hT
  exact qr_iret dX7_refuses_14
theorem ct_X7_refuses {l : Launch} {E : qm_E} (σ : qm_M) (v1 : Int32) {x : Int32 × qm_M} (h : fn_X7_refuses σ v1 = some x) : qm_Ct l E kd_X7_refuses yX7_refuses cX7_refuses 2 (some .int) [.ref (qm_a E 210), .int v1] σ (some (.int x.1), x.2) := qm_ofWp rfl (Nat.le_of_ble_eq_true rfl) (Or.inl rfl) (wf_X7_refuses σ v1  h rfl)
-- HungStreamsModel.keep ()V
abbrev kd_X7_keep : Nat := 1
theorem yd_X7_keep : (yX7_keep).cls ≠ "java/lang/invoke/MethodHandle" ∧ (yX7_keep).cls ≠ "java/lang/invoke/VarHandle" ∧ (parseMethodDescriptor (yX7_keep).desc).map (fun d => d.parameters.length) = some 0 := by decide +kernel
abbrev pp_X7_keep_51 (l : Launch) (E : qm_E) : (Int32 × qm_M) → Option Value × qm_M → Prop := fun s r => qm_Wp l E kd_X7_keep "HungStreamsModel" cX7_keep 2 51 [(0, .ref (qm_a E 210)), (1, .int s.1)] [] s.2 r
def bb_X7_keep_51 (σ : qm_M) (v1 : Int32) : Option ((Int32 × qm_M) ⊕ (qm_M)) :=
  if 215 ≤ v1 then ((some (qm_si σ 210 2 ((σ.1 210 2) + 1))).bind (fun σ1 => some σ1)).bind (fun y => some (.inr y)) else if ¬ (v1 < 0 ∨ 215 ≤ v1.toNatClampNeg) then if ¬ (((215 * (σ.1 210 2)) + v1) < 0 ∨ 1075 ≤ ((215 * (σ.1 210 2)) + v1).toNatClampNeg) then (some (qm_sl σ 212 ((215 * (σ.1 210 2)) + v1).toNatClampNeg (σ.2 211 v1.toNatClampNeg))).bind (fun σ5 => (some (v1 + 1)).bind (fun z6 => some (.inl (z6, σ5)))) else none else none
set_option maxRecDepth 20000 in
theorem wb_X7_keep_51 {l : Launch} {E : qm_E} (σ : qm_M) (v1 : Int32) {x : (Int32 × qm_M) ⊕ (qm_M)} (h : bb_X7_keep_51 σ v1 = some x) {r : Option Value × qm_M} (hT : (qm_T (pp_X7_keep_51 l E) (fun x r => (none, x) = r)) x r) : qm_Wp l E kd_X7_keep "HungStreamsModel" cX7_keep 2 51 [(0, .ref (qm_a E 210)), (1, .int v1)] [] σ r := by
  unfold bb_X7_keep_51 at h
  refine qr_iload_n dX7_keep_51 rfl 1 rfl ?_
  refine qr_sipush (v := 215) dX7_keep_52 (by decide) ?_
  refine qr_icmp_ge (tgt := 85) dX7_keep_55 (by decide) (fun c7 => ?_) (fun c7 => ?_)
  · rw [if_pos c7] at h
    obtain ⟨y2, h1, hx⟩ := qm_bind h
    clear h
    cases hx
    have h := h1
    refine qr_aload_n dX7_keep_85 rfl 0 rfl ?_
    refine qr_dup dX7_keep_86 rfl ?_
    refine qr_get5 (k := 2) (v := .int (σ.1 210 2)) rfl (by decide) rfl qw_626 dX7_keep_87 ?_
    refine qr_iconst (v := 1) dX7_keep_90 (by decide) ?_
    refine qr_iadd dX7_keep_91 ?_
    obtain ⟨σ1, eσ1, h⟩ := qm_bind h
    refine qr_put5_2 rfl qw_626 dX7_keep_92 (qr_eqm (Option.some.inj eσ1) ?_)
    obtain rfl := Option.some.inj h
    cases hT
    exact qr_vret dX7_keep_95
  · rw [if_neg c7] at h
    refine qr_aload_n dX7_keep_58 rfl 0 rfl ?_
    refine qr_get5 (k := 1) (v := .ref (qm_a E 212)) rfl (by decide) rfl qw_625 dX7_keep_59 ?_
    refine qr_sipush (v := 215) dX7_keep_62 (by decide) ?_
    refine qr_aload_n dX7_keep_65 rfl 0 rfl ?_
    refine qr_get5 (k := 2) (v := .int (σ.1 210 2)) rfl (by decide) rfl qw_626 dX7_keep_66 ?_
    refine qr_imul dX7_keep_69 ?_
    refine qr_iload_n dX7_keep_70 rfl 1 rfl ?_
    refine qr_iadd dX7_keep_71 ?_
    refine qr_aload_n dX7_keep_72 rfl 0 rfl ?_
    refine qr_get5 (k := 0) (v := .ref (qm_a E 211)) rfl (by decide) rfl qw_624 dX7_keep_73 ?_
    refine qr_iload_n dX7_keep_76 rfl 1 rfl ?_
    obtain ⟨c3, h⟩ := qm_chk h
    refine qr_lald rfl c3 dX7_keep_77 ?_
    obtain ⟨c4, h⟩ := qm_chk h
    obtain ⟨σ5, eσ5, h⟩ := qm_bind h
    refine qr_last rfl c4 dX7_keep_78 (qr_eqm (Option.some.inj eσ5) ?_)
    obtain ⟨z6, ez6, h⟩ := qm_bind h
    refine qr_iinc (q := 1) (v := z6) (lv' := [(1, .int z6), (0, .ref (qm_a E 210))]) dX7_keep_79 rfl (Option.some.inj ez6) (by decide) rfl ?_
    refine qr_goto (tgt := 51) dX7_keep_82 (by decide) ?_
    obtain rfl := Option.some.inj h
    exact qr_sub [1, 0] rfl hT
def lp_X7_keep_51 (σ : qm_M) (v1 : Int32) : Option (qm_M) := qm_loop (fun s : Int32 × qm_M => bb_X7_keep_51 s.2 s.1) 1000 (v1, σ)
theorem wl_X7_keep_51 {l : Launch} {E : qm_E} (σ : qm_M) (v1 : Int32) {x : qm_M} (h : lp_X7_keep_51 σ v1 = some x) {r : Option Value × qm_M} (hT : (fun x r => (none, x) = r) x r) : qm_Wp l E kd_X7_keep "HungStreamsModel" cX7_keep 2 51 [(0, .ref (qm_a E 210)), (1, .int v1)] [] σ r :=
  qm_loop_T (P := pp_X7_keep_51 l E) (T1 := (fun x r => (none, x) = r)) (fun s x h r hT => wb_X7_keep_51 (l := l) (E := E) s.2 s.1  h hT) h hT
abbrev pp_X7_keep_10 (l : Launch) (E : qm_E) : (Int32 × qm_M) → Option Value × qm_M → Prop := fun s r => qm_Wp l E kd_X7_keep "HungStreamsModel" cX7_keep 2 10 [(0, .ref (qm_a E 210)), (1, .int s.1)] [] s.2 r
def bb_X7_keep_10 (σ : qm_M) (v1 : Int32) : Option ((Int32 × qm_M) ⊕ (qm_M)) :=
  if 860 ≤ v1 then ((some (qm_si σ 210 2 ((σ.1 210 2) - 1))).bind (fun σ8 => lp_X7_keep_51 σ8 0)).bind (fun y => some (.inr y)) else if ¬ ((v1 + 215) < 0 ∨ 1075 ≤ (v1 + 215).toNatClampNeg) then if ¬ (v1 < 0 ∨ 1075 ≤ v1.toNatClampNeg) then (some (qm_sl σ 212 v1.toNatClampNeg (σ.2 212 (v1 + 215).toNatClampNeg))).bind (fun σ12 => (some (v1 + 1)).bind (fun z13 => some (.inl (z13, σ12)))) else none else none
set_option maxRecDepth 20000 in
theorem wb_X7_keep_10 {l : Launch} {E : qm_E} (σ : qm_M) (v1 : Int32) {x : (Int32 × qm_M) ⊕ (qm_M)} (h : bb_X7_keep_10 σ v1 = some x) {r : Option Value × qm_M} (hT : (qm_T (pp_X7_keep_10 l E) (fun x r => (none, x) = r)) x r) : qm_Wp l E kd_X7_keep "HungStreamsModel" cX7_keep 2 10 [(0, .ref (qm_a E 210)), (1, .int v1)] [] σ r := by
  unfold bb_X7_keep_10 at h
  refine qr_iload_n dX7_keep_10 rfl 1 rfl ?_
  refine qr_sipush (v := 860) dX7_keep_11 (by decide) ?_
  refine qr_icmp_ge (tgt := 39) dX7_keep_14 (by decide) (fun c14 => ?_) (fun c14 => ?_)
  · rw [if_pos c14] at h
    obtain ⟨y9, h1, hx⟩ := qm_bind h
    clear h
    cases hx
    have h := h1
    refine qr_aload_n dX7_keep_39 rfl 0 rfl ?_
    refine qr_dup dX7_keep_40 rfl ?_
    refine qr_get5 (k := 2) (v := .int (σ.1 210 2)) rfl (by decide) rfl qw_626 dX7_keep_41 ?_
    refine qr_iconst (v := 1) dX7_keep_44 (by decide) ?_
    refine qr_isub dX7_keep_45 ?_
    obtain ⟨σ8, eσ8, h⟩ := qm_bind h
    refine qr_put5_2 rfl qw_626 dX7_keep_46 (qr_eqm (Option.some.inj eσ8) ?_)
    refine qr_iconst (v := 0) dX7_keep_49 (by decide) ?_
    refine qr_istore_n (lv' := [(1, .int 0), (0, .ref (qm_a E 210))]) dX7_keep_50 rfl (by decide) rfl ?_
    exact qr_sub [1, 0] rfl (wl_X7_keep_51 (l := l) (E := E) σ8 0 h hT)
  · rw [if_neg c14] at h
    refine qr_aload_n dX7_keep_17 rfl 0 rfl ?_
    refine qr_get5 (k := 1) (v := .ref (qm_a E 212)) rfl (by decide) rfl qw_625 dX7_keep_18 ?_
    refine qr_iload_n dX7_keep_21 rfl 1 rfl ?_
    refine qr_aload_n dX7_keep_22 rfl 0 rfl ?_
    refine qr_get5 (k := 1) (v := .ref (qm_a E 212)) rfl (by decide) rfl qw_625 dX7_keep_23 ?_
    refine qr_iload_n dX7_keep_26 rfl 1 rfl ?_
    refine qr_sipush (v := 215) dX7_keep_27 (by decide) ?_
    refine qr_iadd dX7_keep_30 ?_
    obtain ⟨c10, h⟩ := qm_chk h
    refine qr_lald rfl c10 dX7_keep_31 ?_
    obtain ⟨c11, h⟩ := qm_chk h
    obtain ⟨σ12, eσ12, h⟩ := qm_bind h
    refine qr_last rfl c11 dX7_keep_32 (qr_eqm (Option.some.inj eσ12) ?_)
    obtain ⟨z13, ez13, h⟩ := qm_bind h
    refine qr_iinc (q := 1) (v := z13) (lv' := [(1, .int z13), (0, .ref (qm_a E 210))]) dX7_keep_33 rfl (Option.some.inj ez13) (by decide) rfl ?_
    refine qr_goto (tgt := 10) dX7_keep_36 (by decide) ?_
    obtain rfl := Option.some.inj h
    exact qr_sub [1, 0] rfl hT
def lp_X7_keep_10 (σ : qm_M) (v1 : Int32) : Option (qm_M) := qm_loop (fun s : Int32 × qm_M => bb_X7_keep_10 s.2 s.1) 1000 (v1, σ)
theorem wl_X7_keep_10 {l : Launch} {E : qm_E} (σ : qm_M) (v1 : Int32) {x : qm_M} (h : lp_X7_keep_10 σ v1 = some x) {r : Option Value × qm_M} (hT : (fun x r => (none, x) = r) x r) : qm_Wp l E kd_X7_keep "HungStreamsModel" cX7_keep 2 10 [(0, .ref (qm_a E 210)), (1, .int v1)] [] σ r :=
  qm_loop_T (P := pp_X7_keep_10 l E) (T1 := (fun x r => (none, x) = r)) (fun s x h r hT => wb_X7_keep_10 (l := l) (E := E) s.2 s.1  h hT) h hT
def fn_X7_keep (σ : qm_M)  : Option (qm_M) :=
  if (σ.1 210 2) = 5 then lp_X7_keep_10 σ 0 else lp_X7_keep_51 σ 0
set_option maxRecDepth 20000 in
theorem wf_X7_keep {l : Launch} {E : qm_E} (σ : qm_M)  {x : qm_M} (h : fn_X7_keep σ  = some x) {r : Option Value × qm_M} (hT : (fun x r => (none, x) = r) x r) : qm_Wp l E kd_X7_keep "HungStreamsModel" cX7_keep 2 0 [(0, .ref (qm_a E 210))] [] σ r := by
  unfold fn_X7_keep at h
  refine qr_aload_n dX7_keep_0 rfl 0 rfl ?_
  refine qr_get5 (k := 2) (v := .int (σ.1 210 2)) rfl (by decide) rfl qw_626 dX7_keep_1 ?_
  refine qr_iconst (v := 5) dX7_keep_4 (by decide) ?_
  refine qr_icmp_ne (tgt := 49) dX7_keep_5 (by decide) (fun c15 => ?_) (fun c15 => ?_)
  · rw [if_neg c15] at h
    refine qr_iconst (v := 0) dX7_keep_49 (by decide) ?_
    refine qr_istore_n (lv' := [(1, .int 0), (0, .ref (qm_a E 210))]) dX7_keep_50 rfl (by decide) rfl ?_
    exact qr_sub [1, 0] rfl (wl_X7_keep_51 (l := l) (E := E) σ 0 h hT)
  · rw [if_pos c15] at h
    refine qr_iconst (v := 0) dX7_keep_8 (by decide) ?_
    refine qr_istore_n (lv' := [(1, .int 0), (0, .ref (qm_a E 210))]) dX7_keep_9 rfl (by decide) rfl ?_
    exact qr_sub [1, 0] rfl (wl_X7_keep_10 (l := l) (E := E) σ 0 h hT)
theorem ct_X7_keep {l : Launch} {E : qm_E} (σ : qm_M)  {x : qm_M} (h : fn_X7_keep σ  = some x) : qm_Ct l E kd_X7_keep yX7_keep cX7_keep 2 none [.ref (qm_a E 210)] σ (none, x) := qm_ofWp rfl (Nat.le_of_ble_eq_true rfl) (rfl) (wf_X7_keep σ   h rfl)
-- HungStreamsModel.its (II)J
abbrev kd_X7_its : Nat := 1
theorem yd_X7_its : (yX7_its).cls ≠ "java/lang/invoke/MethodHandle" ∧ (yX7_its).cls ≠ "java/lang/invoke/VarHandle" ∧ (parseMethodDescriptor (yX7_its).desc).map (fun d => d.parameters.length) = some 2 := by decide +kernel
def fn_X7_its (σ : qm_M) (v1 : Int32) (v2 : Int32) : Option (Int64) :=
  if ¬ (((16 * v1) + v2) < 0 ∨ 215 ≤ ((16 * v1) + v2).toNatClampNeg) then some (σ.2 211 ((16 * v1) + v2).toNatClampNeg) else none
set_option maxRecDepth 20000 in
theorem wf_X7_its {l : Launch} {E : qm_E} (σ : qm_M) (v1 : Int32) (v2 : Int32) {x : Int64} (h : fn_X7_its σ v1 v2 = some x) {r : Option Value × qm_M} (hT : (fun x r => (some (.long x), σ) = r) x r) : qm_Wp l E kd_X7_its "HungStreamsModel" cX7_its 3 0 [(0, .ref (qm_a E 210)), (1, .int v1), (2, .int v2)] [] σ r := by
  unfold fn_X7_its at h
  refine qr_aload_n dX7_its_0 rfl 0 rfl ?_
  refine qr_get5 (k := 0) (v := .ref (qm_a E 211)) rfl (by decide) rfl qw_624 dX7_its_1 ?_
  refine qr_bipush (v := 16) dX7_its_4 (by decide) ?_
  refine qr_iload_n dX7_its_6 rfl 1 rfl ?_
  refine qr_imul dX7_its_7 ?_
  refine qr_iload_n dX7_its_8 rfl 2 rfl ?_
  refine qr_iadd dX7_its_9 ?_
  obtain ⟨c1, h⟩ := qm_chk h
  refine qr_lald rfl c1 dX7_its_10 ?_
  obtain rfl := Option.some.inj h
  cases hT
  exact qr_lret dX7_its_11
theorem ct_X7_its {l : Launch} {E : qm_E} (σ : qm_M) (v1 : Int32) (v2 : Int32) {x : Int64} (h : fn_X7_its σ v1 v2 = some x) : qm_Ct l E kd_X7_its yX7_its cX7_its 3 (some .long) [.ref (qm_a E 210), .int v1, .int v2] σ (some (.long x), σ) := qm_ofWp rfl (Nat.le_of_ble_eq_true rfl) (rfl) (wf_X7_its σ v1 v2  h rfl)
-- HungStreamsModel.puts (IIJ)V
abbrev kd_X7_puts : Nat := 1
theorem yd_X7_puts : (yX7_puts).cls ≠ "java/lang/invoke/MethodHandle" ∧ (yX7_puts).cls ≠ "java/lang/invoke/VarHandle" ∧ (parseMethodDescriptor (yX7_puts).desc).map (fun d => d.parameters.length) = some 3 := by decide +kernel
def fn_X7_puts (σ : qm_M) (v1 : Int32) (v2 : Int32) (v3 : Int64) : Option (qm_M) :=
  if ¬ (((16 * v1) + v2) < 0 ∨ 215 ≤ ((16 * v1) + v2).toNatClampNeg) then (some (qm_sl σ 211 ((16 * v1) + v2).toNatClampNeg v3)).bind (fun σ2 => some σ2) else none
set_option maxRecDepth 20000 in
theorem wf_X7_puts {l : Launch} {E : qm_E} (σ : qm_M) (v1 : Int32) (v2 : Int32) (v3 : Int64) {x : qm_M} (h : fn_X7_puts σ v1 v2 v3 = some x) {r : Option Value × qm_M} (hT : (fun x r => (none, x) = r) x r) : qm_Wp l E kd_X7_puts "HungStreamsModel" cX7_puts 5 0 [(0, .ref (qm_a E 210)), (1, .int v1), (2, .int v2), (3, .long v3)] [] σ r := by
  unfold fn_X7_puts at h
  refine qr_aload_n dX7_puts_0 rfl 0 rfl ?_
  refine qr_get5 (k := 0) (v := .ref (qm_a E 211)) rfl (by decide) rfl qw_624 dX7_puts_1 ?_
  refine qr_bipush (v := 16) dX7_puts_4 (by decide) ?_
  refine qr_iload_n dX7_puts_6 rfl 1 rfl ?_
  refine qr_imul dX7_puts_7 ?_
  refine qr_iload_n dX7_puts_8 rfl 2 rfl ?_
  refine qr_iadd dX7_puts_9 ?_
  refine qr_lload_n dX7_puts_10 rfl 3 rfl ?_
  obtain ⟨c1, h⟩ := qm_chk h
  obtain ⟨σ2, eσ2, h⟩ := qm_bind h
  refine qr_last rfl c1 dX7_puts_11 (qr_eqm (Option.some.inj eσ2) ?_)
  obtain rfl := Option.some.inj h
  cases hT
  exact qr_vret dX7_puts_12
theorem ct_X7_puts {l : Launch} {E : qm_E} (σ : qm_M) (v1 : Int32) (v2 : Int32) (v3 : Int64) {x : qm_M} (h : fn_X7_puts σ v1 v2 v3 = some x) : qm_Ct l E kd_X7_puts yX7_puts cX7_puts 5 none [.ref (qm_a E 210), .int v1, .int v2, .long v3] σ (none, x) := qm_ofWp rfl (Nat.le_of_ble_eq_true rfl) (rfl) (wf_X7_puts σ v1 v2 v3  h rfl)
-- HungStreamsModel.isStream (I)Z
abbrev kd_X7_isStream : Nat := 2
theorem yd_X7_isStream : (yX7_isStream).cls ≠ "java/lang/invoke/MethodHandle" ∧ (yX7_isStream).cls ≠ "java/lang/invoke/VarHandle" ∧ (parseMethodDescriptor (yX7_isStream).desc).map (fun d => d.parameters.length) = some 1 := by decide +kernel
def fn_X7_isStream (σ : qm_M) (v1 : Int32) : Option (Bool) :=
  (fn_X7_in σ v1.toInt64 1 12).bind (fun r1 => if (qm_b r1) = 0 then some false else (fn_X7_its σ v1 0).bind (fun r2 => if (lg_cmp r2 1) = 0 then some true else some false))
set_option maxRecDepth 20000 in
theorem wf_X7_isStream {l : Launch} {E : qm_E} (σ : qm_M) (v1 : Int32) {x : Bool} (h : fn_X7_isStream σ v1 = some x) {r : Option Value × qm_M} (hT : (fun x r => (some (.int (qm_b x)), σ) = r) x r) : qm_Wp l E kd_X7_isStream "HungStreamsModel" cX7_isStream 2 0 [(0, .ref (qm_a E 210)), (1, .int v1)] [] σ r := by
  unfold fn_X7_isStream at h
  refine qr_iload_n dX7_isStream_0 rfl 1 rfl ?_
  refine qr_i2l dX7_isStream_1 ?_
  refine qr_lconst (v := 1) dX7_isStream_2 (by decide) ?_
  refine qr_ldc2 qw_681 dX7_isStream_3 ?_
  obtain ⟨r1, er1, h⟩ := qm_bind h
  refine qr_call1 (st1 := [.int (qm_b r1)]) rfl (qr_callS (As := [.long v1.toInt64, .long 1, .long 12]) (st := []) (ct_X7_in (l := l) (E := E) σ v1.toInt64 1 12 er1) qw_684 qw_6 qw_682 qw_683 yd_X7_in (by decide) (by decide) rfl (Nat.le_of_ble_eq_true rfl) dX7_isStream_6) ?_
  refine qr_if_eq (tgt := 27) dX7_isStream_9 (by decide) (fun c4 => ?_) (fun c4 => ?_)
  · rw [if_pos c4] at h
    refine qr_iconst (v := 0) dX7_isStream_27 (by decide) ?_
    obtain rfl := Option.some.inj h
    cases hT
    exact qr_iret dX7_isStream_28
  · rw [if_neg c4] at h
    refine qr_aload_n dX7_isStream_12 rfl 0 rfl ?_
    refine qr_iload_n dX7_isStream_13 rfl 1 rfl ?_
    refine qr_iconst (v := 0) dX7_isStream_14 (by decide) ?_
    obtain ⟨r2, er2, h⟩ := qm_bind h
    refine qr_call1 (st1 := [.long r2]) rfl (qr_callV (id := 210) (c := 5) (As := [.int v1, .int 0]) (st := []) rfl (by decide) rfl (ct_X7_its (l := l) (E := E) σ v1 0 er2) qw_696 qw_6 qw_693 qw_695 qs_8 yd_X7_its (by decide) (by decide) rfl (Nat.le_of_ble_eq_true rfl) dX7_isStream_15) ?_
    refine qr_lconst (v := 1) dX7_isStream_18 (by decide) ?_
    refine qr_lcmp dX7_isStream_19 ?_
    refine qr_if_ne (tgt := 27) dX7_isStream_20 (by decide) (fun c3 => ?_) (fun c3 => ?_)
    · rw [if_neg c3] at h
      refine qr_iconst (v := 0) dX7_isStream_27 (by decide) ?_
      obtain rfl := Option.some.inj h
      cases hT
      exact qr_iret dX7_isStream_28
    · rw [if_pos c3] at h
      refine qr_iconst (v := 1) dX7_isStream_23 (by decide) ?_
      refine qr_goto (tgt := 28) dX7_isStream_24 (by decide) ?_
      obtain rfl := Option.some.inj h
      cases hT
      exact qr_iret dX7_isStream_28
theorem ct_X7_isStream {l : Launch} {E : qm_E} (σ : qm_M) (v1 : Int32) {x : Bool} (h : fn_X7_isStream σ v1 = some x) : qm_Ct l E kd_X7_isStream yX7_isStream cX7_isStream 2 (some .boolean) [.ref (qm_a E 210), .int v1] σ (some (.int (qm_b x)), σ) := qm_ofWp rfl (Nat.le_of_ble_eq_true rfl) (qm_rtz _) (wf_X7_isStream σ v1  h rfl)
-- HungStreamsModel.isPlace (I)Z
abbrev kd_X7_isPlace : Nat := 3
theorem yd_X7_isPlace : (yX7_isPlace).cls ≠ "java/lang/invoke/MethodHandle" ∧ (yX7_isPlace).cls ≠ "java/lang/invoke/VarHandle" ∧ (parseMethodDescriptor (yX7_isPlace).desc).map (fun d => d.parameters.length) = some 1 := by decide +kernel
def fn_X7_isPlace (σ : qm_M) (v1 : Int32) : Option (Bool) :=
  if v1 = 0 then some true else (fn_X7_isStream σ v1).bind (fun r1 => if (qm_b r1) = 0 then some false else some true)
set_option maxRecDepth 20000 in
theorem wf_X7_isPlace {l : Launch} {E : qm_E} (σ : qm_M) (v1 : Int32) {x : Bool} (h : fn_X7_isPlace σ v1 = some x) {r : Option Value × qm_M} (hT : (fun x r => (some (.int (qm_b x)), σ) = r) x r) : qm_Wp l E kd_X7_isPlace "HungStreamsModel" cX7_isPlace 2 0 [(0, .ref (qm_a E 210)), (1, .int v1)] [] σ r := by
  unfold fn_X7_isPlace at h
  refine qr_iload_n dX7_isPlace_0 rfl 1 rfl ?_
  refine qr_if_eq (tgt := 12) dX7_isPlace_1 (by decide) (fun c3 => ?_) (fun c3 => ?_)
  · rw [if_pos c3] at h
    refine qr_iconst (v := 1) dX7_isPlace_12 (by decide) ?_
    refine qr_goto (tgt := 17) dX7_isPlace_13 (by decide) ?_
    obtain rfl := Option.some.inj h
    cases hT
    exact qr_iret dX7_isPlace_17
  · rw [if_neg c3] at h
    refine qr_aload_n dX7_isPlace_4 rfl 0 rfl ?_
    refine qr_iload_n dX7_isPlace_5 rfl 1 rfl ?_
    obtain ⟨r1, er1, h⟩ := qm_bind h
    refine qr_call1 (st1 := [.int (qm_b r1)]) rfl (qr_callV (id := 210) (c := 5) (As := [.int v1]) (st := []) rfl (by decide) rfl (ct_X7_isStream (l := l) (E := E) σ v1 er1) qw_692 qw_6 qw_689 qw_691 qs_7 yd_X7_isStream (by decide) (by decide) rfl (Nat.le_of_ble_eq_true rfl) dX7_isPlace_6) ?_
    refine qr_if_eq (tgt := 16) dX7_isPlace_9 (by decide) (fun c2 => ?_) (fun c2 => ?_)
    · rw [if_pos c2] at h
      refine qr_iconst (v := 0) dX7_isPlace_16 (by decide) ?_
      obtain rfl := Option.some.inj h
      cases hT
      exact qr_iret dX7_isPlace_17
    · rw [if_neg c2] at h
      refine qr_iconst (v := 1) dX7_isPlace_12 (by decide) ?_
      refine qr_goto (tgt := 17) dX7_isPlace_13 (by decide) ?_
      obtain rfl := Option.some.inj h
      cases hT
      exact qr_iret dX7_isPlace_17
theorem ct_X7_isPlace {l : Launch} {E : qm_E} (σ : qm_M) (v1 : Int32) {x : Bool} (h : fn_X7_isPlace σ v1 = some x) : qm_Ct l E kd_X7_isPlace yX7_isPlace cX7_isPlace 2 (some .boolean) [.ref (qm_a E 210), .int v1] σ (some (.int (qm_b x)), σ) := qm_ofWp rfl (Nat.le_of_ble_eq_true rfl) (qm_rtz _) (wf_X7_isPlace σ v1  h rfl)
-- HungStreamsModel.parent (I)I
abbrev kd_X7_parent : Nat := 2
theorem yd_X7_parent : (yX7_parent).cls ≠ "java/lang/invoke/MethodHandle" ∧ (yX7_parent).cls ≠ "java/lang/invoke/VarHandle" ∧ (parseMethodDescriptor (yX7_parent).desc).map (fun d => d.parameters.length) = some 1 := by decide +kernel
def fn_X7_parent (σ : qm_M) (v1 : Int32) : Option (Int32) :=
  (fn_X7_its σ v1 1).bind (fun r1 => some r1.toInt32)
set_option maxRecDepth 20000 in
theorem wf_X7_parent {l : Launch} {E : qm_E} (σ : qm_M) (v1 : Int32) {x : Int32} (h : fn_X7_parent σ v1 = some x) {r : Option Value × qm_M} (hT : (fun x r => (some (.int x), σ) = r) x r) : qm_Wp l E kd_X7_parent "HungStreamsModel" cX7_parent 2 0 [(0, .ref (qm_a E 210)), (1, .int v1)] [] σ r := by
  unfold fn_X7_parent at h
  refine qr_aload_n dX7_parent_0 rfl 0 rfl ?_
  refine qr_iload_n dX7_parent_1 rfl 1 rfl ?_
  refine qr_iconst (v := 1) dX7_parent_2 (by decide) ?_
  obtain ⟨r1, er1, h⟩ := qm_bind h
  refine qr_call1 (st1 := [.long r1]) rfl (qr_callV (id := 210) (c := 5) (As := [.int v1, .int 1]) (st := []) rfl (by decide) rfl (ct_X7_its (l := l) (E := E) σ v1 1 er1) qw_696 qw_6 qw_693 qw_695 qs_8 yd_X7_its (by decide) (by decide) rfl (Nat.le_of_ble_eq_true rfl) dX7_parent_3) ?_
  refine qr_l2i dX7_parent_6 ?_
  obtain rfl := Option.some.inj h
  cases hT
  exact qr_iret dX7_parent_7
theorem ct_X7_parent {l : Launch} {E : qm_E} (σ : qm_M) (v1 : Int32) {x : Int32} (h : fn_X7_parent σ v1 = some x) : qm_Ct l E kd_X7_parent yX7_parent cX7_parent 2 (some .int) [.ref (qm_a E 210), .int v1] σ (some (.int x), σ) := qm_ofWp rfl (Nat.le_of_ble_eq_true rfl) (Or.inl rfl) (wf_X7_parent σ v1  h rfl)
-- HungStreamsModel.isChild (II)Z
abbrev kd_X7_isChild : Nat := 3
theorem yd_X7_isChild : (yX7_isChild).cls ≠ "java/lang/invoke/MethodHandle" ∧ (yX7_isChild).cls ≠ "java/lang/invoke/VarHandle" ∧ (parseMethodDescriptor (yX7_isChild).desc).map (fun d => d.parameters.length) = some 2 := by decide +kernel
def fn_X7_isChild (σ : qm_M) (v1 : Int32) (v2 : Int32) : Option (Bool) :=
  (fn_X7_isStream σ v1).bind (fun r1 => if (qm_b r1) = 0 then some false else (fn_X7_parent σ v1).bind (fun r2 => if r2 = v2 then some true else some false))
set_option maxRecDepth 20000 in
theorem wf_X7_isChild {l : Launch} {E : qm_E} (σ : qm_M) (v1 : Int32) (v2 : Int32) {x : Bool} (h : fn_X7_isChild σ v1 v2 = some x) {r : Option Value × qm_M} (hT : (fun x r => (some (.int (qm_b x)), σ) = r) x r) : qm_Wp l E kd_X7_isChild "HungStreamsModel" cX7_isChild 3 0 [(0, .ref (qm_a E 210)), (1, .int v1), (2, .int v2)] [] σ r := by
  unfold fn_X7_isChild at h
  refine qr_aload_n dX7_isChild_0 rfl 0 rfl ?_
  refine qr_iload_n dX7_isChild_1 rfl 1 rfl ?_
  obtain ⟨r1, er1, h⟩ := qm_bind h
  refine qr_call1 (st1 := [.int (qm_b r1)]) rfl (qr_callV (id := 210) (c := 5) (As := [.int v1]) (st := []) rfl (by decide) rfl (ct_X7_isStream (l := l) (E := E) σ v1 er1) qw_692 qw_6 qw_689 qw_691 qs_7 yd_X7_isStream (by decide) (by decide) rfl (Nat.le_of_ble_eq_true rfl) dX7_isChild_2) ?_
  refine qr_if_eq (tgt := 21) dX7_isChild_5 (by decide) (fun c4 => ?_) (fun c4 => ?_)
  · rw [if_pos c4] at h
    refine qr_iconst (v := 0) dX7_isChild_21 (by decide) ?_
    obtain rfl := Option.some.inj h
    cases hT
    exact qr_iret dX7_isChild_22
  · rw [if_neg c4] at h
    refine qr_aload_n dX7_isChild_8 rfl 0 rfl ?_
    refine qr_iload_n dX7_isChild_9 rfl 1 rfl ?_
    obtain ⟨r2, er2, h⟩ := qm_bind h
    refine qr_call1 (st1 := [.int r2]) rfl (qr_callV (id := 210) (c := 5) (As := [.int v1]) (st := []) rfl (by decide) rfl (ct_X7_parent (l := l) (E := E) σ v1 er2) qw_727 qw_6 qw_724 qw_726 qs_15 yd_X7_parent (by decide) (by decide) rfl (Nat.le_of_ble_eq_true rfl) dX7_isChild_10) ?_
    refine qr_iload_n dX7_isChild_13 rfl 2 rfl ?_
    refine qr_icmp_ne (tgt := 21) dX7_isChild_14 (by decide) (fun c3 => ?_) (fun c3 => ?_)
    · rw [if_neg c3] at h
      refine qr_iconst (v := 0) dX7_isChild_21 (by decide) ?_
      obtain rfl := Option.some.inj h
      cases hT
      exact qr_iret dX7_isChild_22
    · rw [if_pos c3] at h
      refine qr_iconst (v := 1) dX7_isChild_17 (by decide) ?_
      refine qr_goto (tgt := 22) dX7_isChild_18 (by decide) ?_
      obtain rfl := Option.some.inj h
      cases hT
      exact qr_iret dX7_isChild_22
theorem ct_X7_isChild {l : Launch} {E : qm_E} (σ : qm_M) (v1 : Int32) (v2 : Int32) {x : Bool} (h : fn_X7_isChild σ v1 v2 = some x) : qm_Ct l E kd_X7_isChild yX7_isChild cX7_isChild 3 (some .boolean) [.ref (qm_a E 210), .int v1, .int v2] σ (some (.int (qm_b x)), σ) := qm_ofWp rfl (Nat.le_of_ble_eq_true rfl) (qm_rtz _) (wf_X7_isChild σ v1 v2  h rfl)
-- HungStreamsModel.isBelow (II)Z
abbrev kd_X7_isBelow : Nat := 3
theorem yd_X7_isBelow : (yX7_isBelow).cls ≠ "java/lang/invoke/MethodHandle" ∧ (yX7_isBelow).cls ≠ "java/lang/invoke/VarHandle" ∧ (parseMethodDescriptor (yX7_isBelow).desc).map (fun d => d.parameters.length) = some 2 := by decide +kernel
abbrev pp_X7_isBelow_2 (l : Launch) (E : qm_E) (σ : qm_M) (v2 : Int32) : Int32 → Option Value × qm_M → Prop := fun s r => qm_Wp l E kd_X7_isBelow "HungStreamsModel" cX7_isBelow 4 2 [(0, .ref (qm_a E 210)), (2, .int v2), (3, .int s)] [] σ r
def bb_X7_isBelow_2 (σ : qm_M) (v2 : Int32) (v3 : Int32) : Option ((Int32) ⊕ (Bool)) :=
  if v3 = 0 then (some false).bind (fun y => some (.inr y)) else (fn_X7_parent σ v3).bind (fun r2 => if r2 = v2 then (some true).bind (fun y => some (.inr y)) else some (.inl r2))
set_option maxRecDepth 20000 in
theorem wb_X7_isBelow_2 {l : Launch} {E : qm_E} (σ : qm_M) (v2 : Int32) (v3 : Int32) {x : (Int32) ⊕ (Bool)} (h : bb_X7_isBelow_2 σ v2 v3 = some x) {r : Option Value × qm_M} (hT : (qm_T (pp_X7_isBelow_2 l E σ v2) (fun x r => (some (.int (qm_b x)), σ) = r)) x r) : qm_Wp l E kd_X7_isBelow "HungStreamsModel" cX7_isBelow 4 2 [(0, .ref (qm_a E 210)), (2, .int v2), (3, .int v3)] [] σ r := by
  unfold bb_X7_isBelow_2 at h
  refine qr_iload_n dX7_isBelow_2 rfl 2 rfl ?_
  refine qr_if_eq (tgt := 19) dX7_isBelow_3 (by decide) (fun c5 => ?_) (fun c5 => ?_)
  · rw [if_pos c5] at h
    obtain ⟨y1, h1, hx⟩ := qm_bind h
    clear h
    cases hx
    have h := h1
    refine qr_iconst (v := 0) dX7_isBelow_19 (by decide) ?_
    obtain rfl := Option.some.inj h
    cases hT
    exact qr_iret dX7_isBelow_20
  · rw [if_neg c5] at h
    refine qr_aload_n dX7_isBelow_6 rfl 0 rfl ?_
    refine qr_iload_n dX7_isBelow_7 rfl 2 rfl ?_
    obtain ⟨r2, er2, h⟩ := qm_bind h
    refine qr_call1 (st1 := [.int r2]) rfl (qr_callV (id := 210) (c := 5) (As := [.int v3]) (st := []) rfl (by decide) rfl (ct_X7_parent (l := l) (E := E) σ v3 er2) qw_727 qw_6 qw_724 qw_726 qs_15 yd_X7_parent (by decide) (by decide) rfl (Nat.le_of_ble_eq_true rfl) dX7_isBelow_8) ?_
    refine qr_istore_n (lv' := [(3, .int r2), (0, .ref (qm_a E 210)), (2, .int v2)]) dX7_isBelow_11 rfl (by decide) rfl ?_
    refine qr_iload_n dX7_isBelow_12 rfl 0 rfl ?_
    refine qr_iload_n dX7_isBelow_13 rfl 2 rfl ?_
    refine qr_icmp_ne (tgt := 2) dX7_isBelow_14 (by decide) (fun c4 => ?_) (fun c4 => ?_)
    · rw [if_neg c4] at h
      obtain rfl := Option.some.inj h
      exact qr_sub [1, 2, 0] rfl hT
    · rw [if_pos c4] at h
      obtain ⟨y3, h1, hx⟩ := qm_bind h
      clear h
      cases hx
      have h := h1
      refine qr_iconst (v := 1) dX7_isBelow_17 (by decide) ?_
      obtain rfl := Option.some.inj h
      cases hT
      exact qr_iret dX7_isBelow_18
def lp_X7_isBelow_2 (σ : qm_M) (v2 : Int32) (v3 : Int32) : Option (Bool) := qm_loop (fun s : Int32 => bb_X7_isBelow_2 σ v2 s) 1000 v3
theorem wl_X7_isBelow_2 {l : Launch} {E : qm_E} (σ : qm_M) (v2 : Int32) (v3 : Int32) {x : Bool} (h : lp_X7_isBelow_2 σ v2 v3 = some x) {r : Option Value × qm_M} (hT : (fun x r => (some (.int (qm_b x)), σ) = r) x r) : qm_Wp l E kd_X7_isBelow "HungStreamsModel" cX7_isBelow 4 2 [(0, .ref (qm_a E 210)), (2, .int v2), (3, .int v3)] [] σ r :=
  qm_loop_T (P := pp_X7_isBelow_2 l E σ v2) (T1 := (fun x r => (some (.int (qm_b x)), σ) = r)) (fun s x h r hT => wb_X7_isBelow_2 (l := l) (E := E) σ v2 s  h hT) h hT
def fn_X7_isBelow (σ : qm_M) (v1 : Int32) (v2 : Int32) : Option (Bool) :=
  lp_X7_isBelow_2 σ v2 v1
set_option maxRecDepth 20000 in
theorem wf_X7_isBelow {l : Launch} {E : qm_E} (σ : qm_M) (v1 : Int32) (v2 : Int32) {x : Bool} (h : fn_X7_isBelow σ v1 v2 = some x) {r : Option Value × qm_M} (hT : (fun x r => (some (.int (qm_b x)), σ) = r) x r) : qm_Wp l E kd_X7_isBelow "HungStreamsModel" cX7_isBelow 4 0 [(0, .ref (qm_a E 210)), (1, .int v1), (2, .int v2)] [] σ r := by
  unfold fn_X7_isBelow at h
  refine qr_iload_n dX7_isBelow_0 rfl 1 rfl ?_
  refine qr_istore_n (lv' := [(3, .int v1), (0, .ref (qm_a E 210)), (1, .int v1), (2, .int v2)]) dX7_isBelow_1 rfl (by decide) rfl ?_
  exact qr_sub [1, 3, 0] rfl (wl_X7_isBelow_2 (l := l) (E := E) σ v2 v1 h hT)
theorem ct_X7_isBelow {l : Launch} {E : qm_E} (σ : qm_M) (v1 : Int32) (v2 : Int32) {x : Bool} (h : fn_X7_isBelow σ v1 v2 = some x) : qm_Ct l E kd_X7_isBelow yX7_isBelow cX7_isBelow 4 (some .boolean) [.ref (qm_a E 210), .int v1, .int v2] σ (some (.int (qm_b x)), σ) := qm_ofWp rfl (Nat.le_of_ble_eq_true rfl) (qm_rtz _) (wf_X7_isBelow σ v1 v2  h rfl)
-- HungStreamsModel.children (I)I
abbrev kd_X7_children : Nat := 4
theorem yd_X7_children : (yX7_children).cls ≠ "java/lang/invoke/MethodHandle" ∧ (yX7_children).cls ≠ "java/lang/invoke/VarHandle" ∧ (parseMethodDescriptor (yX7_children).desc).map (fun d => d.parameters.length) = some 1 := by decide +kernel
abbrev pp_X7_children_4 (l : Launch) (E : qm_E) (σ : qm_M) (v1 : Int32) : (Int32 × Int32) → Option Value × qm_M → Prop := fun s r => qm_Wp l E kd_X7_children "HungStreamsModel" cX7_children 4 4 [(0, .ref (qm_a E 210)), (1, .int v1), (2, .int s.1), (3, .int s.2)] [] σ r
def bb_X7_children_4 (σ : qm_M) (v1 : Int32) (v2 : Int32) (v3 : Int32) : Option ((Int32 × Int32) ⊕ (Int32)) :=
  if 12 < v3 then (some v2).bind (fun y => some (.inr y)) else (fn_X7_isChild σ v3 v1).bind (fun r2 => if (qm_b r2) = 0 then (some (v2 + 0)).bind (fun z3 => (some (v3 + 1)).bind (fun z4 => some (.inl (z3, z4)))) else (some (v2 + 1)).bind (fun z5 => (some (v3 + 1)).bind (fun z6 => some (.inl (z5, z6)))))
set_option maxRecDepth 20000 in
theorem wb_X7_children_4 {l : Launch} {E : qm_E} (σ : qm_M) (v1 : Int32) (v2 : Int32) (v3 : Int32) {x : (Int32 × Int32) ⊕ (Int32)} (h : bb_X7_children_4 σ v1 v2 v3 = some x) {r : Option Value × qm_M} (hT : (qm_T (pp_X7_children_4 l E σ v1) (fun x r => (some (.int x), σ) = r)) x r) : qm_Wp l E kd_X7_children "HungStreamsModel" cX7_children 4 4 [(0, .ref (qm_a E 210)), (1, .int v1), (2, .int v2), (3, .int v3)] [] σ r := by
  unfold bb_X7_children_4 at h
  refine qr_iload_n dX7_children_4 rfl 3 rfl ?_
  refine qr_bipush (v := 12) dX7_children_5 (by decide) ?_
  refine qr_icmp_gt (tgt := 33) dX7_children_7 (by decide) (fun c8 => ?_) (fun c8 => ?_)
  · rw [if_pos c8] at h
    obtain ⟨y1, h1, hx⟩ := qm_bind h
    clear h
    cases hx
    have h := h1
    refine qr_iload_n dX7_children_33 rfl 2 rfl ?_
    obtain rfl := Option.some.inj h
    cases hT
    exact qr_iret dX7_children_34
  · rw [if_neg c8] at h
    refine qr_iload_n dX7_children_10 rfl 2 rfl ?_
    refine qr_aload_n dX7_children_11 rfl 0 rfl ?_
    refine qr_iload_n dX7_children_12 rfl 3 rfl ?_
    refine qr_iload_n dX7_children_13 rfl 1 rfl ?_
    obtain ⟨r2, er2, h⟩ := qm_bind h
    refine qr_call1 (st1 := [.int (qm_b r2), .int v2]) rfl (qr_callV (id := 210) (c := 5) (As := [.int v3, .int v1]) (st := [.int v2]) rfl (by decide) rfl (ct_X7_isChild (l := l) (E := E) σ v3 v1 er2) qw_723 qw_6 qw_720 qw_722 qs_14 yd_X7_isChild (by decide) (by decide) rfl (Nat.le_of_ble_eq_true rfl) dX7_children_14) ?_
    refine qr_if_eq (tgt := 24) dX7_children_17 (by decide) (fun c7 => ?_) (fun c7 => ?_)
    · rw [if_pos c7] at h
      refine qr_iconst (v := 0) dX7_children_24 (by decide) ?_
      refine qr_iadd dX7_children_25 ?_
      obtain ⟨z3, ez3, h⟩ := qm_bind h
      refine qr_eqi (Option.some.inj ez3) ?_
      refine qr_istore_n (lv' := [(2, .int z3), (0, .ref (qm_a E 210)), (1, .int v1), (3, .int v3)]) dX7_children_26 rfl (by decide) rfl ?_
      obtain ⟨z4, ez4, h⟩ := qm_bind h
      refine qr_iinc (q := 3) (v := z4) (lv' := [(3, .int z4), (2, .int z3), (0, .ref (qm_a E 210)), (1, .int v1)]) dX7_children_27 rfl (Option.some.inj ez4) (by decide) rfl ?_
      refine qr_goto (tgt := 4) dX7_children_30 (by decide) ?_
      obtain rfl := Option.some.inj h
      exact qr_sub [2, 3, 1, 0] rfl hT
    · rw [if_neg c7] at h
      refine qr_iconst (v := 1) dX7_children_20 (by decide) ?_
      refine qr_goto (tgt := 25) dX7_children_21 (by decide) ?_
      refine qr_iadd dX7_children_25 ?_
      obtain ⟨z5, ez5, h⟩ := qm_bind h
      refine qr_eqi (Option.some.inj ez5) ?_
      refine qr_istore_n (lv' := [(2, .int z5), (0, .ref (qm_a E 210)), (1, .int v1), (3, .int v3)]) dX7_children_26 rfl (by decide) rfl ?_
      obtain ⟨z6, ez6, h⟩ := qm_bind h
      refine qr_iinc (q := 3) (v := z6) (lv' := [(3, .int z6), (2, .int z5), (0, .ref (qm_a E 210)), (1, .int v1)]) dX7_children_27 rfl (Option.some.inj ez6) (by decide) rfl ?_
      refine qr_goto (tgt := 4) dX7_children_30 (by decide) ?_
      obtain rfl := Option.some.inj h
      exact qr_sub [2, 3, 1, 0] rfl hT
def lp_X7_children_4 (σ : qm_M) (v1 : Int32) (v2 : Int32) (v3 : Int32) : Option (Int32) := qm_loop (fun s : Int32 × Int32 => bb_X7_children_4 σ v1 s.1 s.2) 1000 (v2, v3)
theorem wl_X7_children_4 {l : Launch} {E : qm_E} (σ : qm_M) (v1 : Int32) (v2 : Int32) (v3 : Int32) {x : Int32} (h : lp_X7_children_4 σ v1 v2 v3 = some x) {r : Option Value × qm_M} (hT : (fun x r => (some (.int x), σ) = r) x r) : qm_Wp l E kd_X7_children "HungStreamsModel" cX7_children 4 4 [(0, .ref (qm_a E 210)), (1, .int v1), (2, .int v2), (3, .int v3)] [] σ r :=
  qm_loop_T (P := pp_X7_children_4 l E σ v1) (T1 := (fun x r => (some (.int x), σ) = r)) (fun s x h r hT => wb_X7_children_4 (l := l) (E := E) σ v1 s.1 s.2  h hT) h hT
def fn_X7_children (σ : qm_M) (v1 : Int32) : Option (Int32) :=
  lp_X7_children_4 σ v1 0 1
set_option maxRecDepth 20000 in
theorem wf_X7_children {l : Launch} {E : qm_E} (σ : qm_M) (v1 : Int32) {x : Int32} (h : fn_X7_children σ v1 = some x) {r : Option Value × qm_M} (hT : (fun x r => (some (.int x), σ) = r) x r) : qm_Wp l E kd_X7_children "HungStreamsModel" cX7_children 4 0 [(0, .ref (qm_a E 210)), (1, .int v1)] [] σ r := by
  unfold fn_X7_children at h
  refine qr_iconst (v := 0) dX7_children_0 (by decide) ?_
  refine qr_istore_n (lv' := [(2, .int 0), (0, .ref (qm_a E 210)), (1, .int v1)]) dX7_children_1 rfl (by decide) rfl ?_
  refine qr_iconst (v := 1) dX7_children_2 (by decide) ?_
  refine qr_istore_n (lv' := [(3, .int 1), (2, .int 0), (0, .ref (qm_a E 210)), (1, .int v1)]) dX7_children_3 rfl (by decide) rfl ?_
  exact qr_sub [2, 3, 1, 0] rfl (wl_X7_children_4 (l := l) (E := E) σ v1 0 1 h hT)
theorem ct_X7_children {l : Launch} {E : qm_E} (σ : qm_M) (v1 : Int32) {x : Int32} (h : fn_X7_children σ v1 = some x) : qm_Ct l E kd_X7_children yX7_children cX7_children 4 (some .int) [.ref (qm_a E 210), .int v1] σ (some (.int x), σ) := qm_ofWp rfl (Nat.le_of_ble_eq_true rfl) (Or.inl rfl) (wf_X7_children σ v1  h rfl)
-- HungStreamsModel.hangs (II)V
abbrev kd_X7_hangs : Nat := 2
theorem yd_X7_hangs : (yX7_hangs).cls ≠ "java/lang/invoke/MethodHandle" ∧ (yX7_hangs).cls ≠ "java/lang/invoke/VarHandle" ∧ (parseMethodDescriptor (yX7_hangs).desc).map (fun d => d.parameters.length) = some 2 := by decide +kernel
def fn_X7_hangs (σ : qm_M) (v1 : Int32) (v2 : Int32) : Option (qm_M) :=
  (fn_X7_puts σ v1 1 v2.toInt64).bind (fun r1 => (fn_X7_its r1 v2 10).bind (fun r2 => (fn_X7_puts r1 v1 9 r2).bind (fun r3 => some r3)))
set_option maxRecDepth 20000 in
theorem wf_X7_hangs {l : Launch} {E : qm_E} (σ : qm_M) (v1 : Int32) (v2 : Int32) {x : qm_M} (h : fn_X7_hangs σ v1 v2 = some x) {r : Option Value × qm_M} (hT : (fun x r => (none, x) = r) x r) : qm_Wp l E kd_X7_hangs "HungStreamsModel" cX7_hangs 3 0 [(0, .ref (qm_a E 210)), (1, .int v1), (2, .int v2)] [] σ r := by
  unfold fn_X7_hangs at h
  refine qr_aload_n dX7_hangs_0 rfl 0 rfl ?_
  refine qr_iload_n dX7_hangs_1 rfl 1 rfl ?_
  refine qr_iconst (v := 1) dX7_hangs_2 (by decide) ?_
  refine qr_iload_n dX7_hangs_3 rfl 2 rfl ?_
  refine qr_i2l dX7_hangs_4 ?_
  obtain ⟨r1, er1, h⟩ := qm_bind h
  refine qr_call1 (st1 := []) rfl (qr_callV (id := 210) (c := 5) (As := [.int v1, .int 1, .long v2.toInt64]) (st := []) rfl (by decide) rfl (ct_X7_puts (l := l) (E := E) σ v1 1 v2.toInt64 er1) qw_713 qw_6 qw_710 qw_712 qs_12 yd_X7_puts (by decide) (by decide) rfl (Nat.le_of_ble_eq_true rfl) dX7_hangs_5) ?_
  refine qr_aload_n dX7_hangs_8 rfl 0 rfl ?_
  refine qr_iload_n dX7_hangs_9 rfl 1 rfl ?_
  refine qr_bipush (v := 9) dX7_hangs_10 (by decide) ?_
  refine qr_aload_n dX7_hangs_12 rfl 0 rfl ?_
  refine qr_iload_n dX7_hangs_13 rfl 2 rfl ?_
  refine qr_bipush (v := 10) dX7_hangs_14 (by decide) ?_
  obtain ⟨r2, er2, h⟩ := qm_bind h
  refine qr_call1 (st1 := [.long r2, .int 9, .int v1, .ref (qm_a E 210)]) rfl (qr_callV (id := 210) (c := 5) (As := [.int v2, .int 10]) (st := [.int 9, .int v1, .ref (qm_a E 210)]) rfl (by decide) rfl (ct_X7_its (l := l) (E := E) r1 v2 10 er2) qw_696 qw_6 qw_693 qw_695 qs_8 yd_X7_its (by decide) (by decide) rfl (Nat.le_of_ble_eq_true rfl) dX7_hangs_16) ?_
  obtain ⟨r3, er3, h⟩ := qm_bind h
  refine qr_call1 (st1 := []) rfl (qr_callV (id := 210) (c := 5) (As := [.int v1, .int 9, .long r2]) (st := []) rfl (by decide) rfl (ct_X7_puts (l := l) (E := E) r1 v1 9 r2 er3) qw_713 qw_6 qw_710 qw_712 qs_12 yd_X7_puts (by decide) (by decide) rfl (Nat.le_of_ble_eq_true rfl) dX7_hangs_19) ?_
  obtain rfl := Option.some.inj h
  cases hT
  exact qr_vret dX7_hangs_22
theorem ct_X7_hangs {l : Launch} {E : qm_E} (σ : qm_M) (v1 : Int32) (v2 : Int32) {x : qm_M} (h : fn_X7_hangs σ v1 v2 = some x) : qm_Ct l E kd_X7_hangs yX7_hangs cX7_hangs 3 none [.ref (qm_a E 210), .int v1, .int v2] σ (none, x) := qm_ofWp rfl (Nat.le_of_ble_eq_true rfl) (rfl) (wf_X7_hangs σ v1 v2  h rfl)
-- HungStreamsModel.comesTo (IIZ)V
abbrev kd_X7_comesTo : Nat := 4
theorem yd_X7_comesTo : (yX7_comesTo).cls ≠ "java/lang/invoke/MethodHandle" ∧ (yX7_comesTo).cls ≠ "java/lang/invoke/VarHandle" ∧ (parseMethodDescriptor (yX7_comesTo).desc).map (fun d => d.parameters.length) = some 3 := by decide +kernel
abbrev pp_X7_comesTo_3 (l : Launch) (E : qm_E) (v1 : Int32) (v2 : Int32) (v3 : Int32) : (Int32 × qm_M) → Option Value × qm_M → Prop := fun s r => qm_Wp l E kd_X7_comesTo "HungStreamsModel" cX7_comesTo 5 3 [(0, .ref (qm_a E 210)), (1, .int v1), (2, .int v2), (3, .int v3), (4, .int s.1)] [] s.2 r
def bb_X7_comesTo_3 (σ : qm_M) (v1 : Int32) (v2 : Int32) (v3 : Int32) (v4 : Int32) : Option ((Int32 × qm_M) ⊕ (qm_M)) :=
  if 12 < v4 then ((fn_X7_hangs σ v1 v2).bind (fun r1 => some r1)).bind (fun y => some (.inr y)) else if v3 = 0 then ((fn_X7_hangs σ v1 v2).bind (fun r3 => some r3)).bind (fun y => some (.inr y)) else if v4 = v1 then (some (v4 + 1)).bind (fun z5 => some (.inl (z5, σ))) else (fn_X7_isChild σ v4 v2).bind (fun r6 => if (qm_b r6) = 0 then (some (v4 + 1)).bind (fun z7 => some (.inl (z7, σ))) else (fn_X7_hangs σ v4 v1).bind (fun r8 => (some (v4 + 1)).bind (fun z9 => some (.inl (z9, r8)))))
set_option maxRecDepth 20000 in
theorem wb_X7_comesTo_3 {l : Launch} {E : qm_E} (σ : qm_M) (v1 : Int32) (v2 : Int32) (v3 : Int32) (v4 : Int32) {x : (Int32 × qm_M) ⊕ (qm_M)} (h : bb_X7_comesTo_3 σ v1 v2 v3 v4 = some x) {r : Option Value × qm_M} (hT : (qm_T (pp_X7_comesTo_3 l E v1 v2 v3) (fun x r => (none, x) = r)) x r) : qm_Wp l E kd_X7_comesTo "HungStreamsModel" cX7_comesTo 5 3 [(0, .ref (qm_a E 210)), (1, .int v1), (2, .int v2), (3, .int v3), (4, .int v4)] [] σ r := by
  unfold bb_X7_comesTo_3 at h
  refine qr_iload dX7_comesTo_3 4 rfl ?_
  refine qr_bipush (v := 12) dX7_comesTo_5 (by decide) ?_
  refine qr_icmp_gt (tgt := 43) dX7_comesTo_7 (by decide) (fun c13 => ?_) (fun c13 => ?_)
  · rw [if_pos c13] at h
    obtain ⟨y2, h1, hx⟩ := qm_bind h
    clear h
    cases hx
    have h := h1
    refine qr_aload_n dX7_comesTo_43 rfl 0 rfl ?_
    refine qr_iload_n dX7_comesTo_44 rfl 1 rfl ?_
    refine qr_iload_n dX7_comesTo_45 rfl 2 rfl ?_
    obtain ⟨r1, er1, h⟩ := qm_bind h
    refine qr_call1 (st1 := []) rfl (qr_callV (id := 210) (c := 5) (As := [.int v1, .int v2]) (st := []) rfl (by decide) rfl (ct_X7_hangs (l := l) (E := E) σ v1 v2 er1) qw_731 qw_6 qw_728 qw_730 qs_16 yd_X7_hangs (by decide) (by decide) rfl (Nat.le_of_ble_eq_true rfl) dX7_comesTo_46) ?_
    obtain rfl := Option.some.inj h
    cases hT
    exact qr_vret dX7_comesTo_49
  · rw [if_neg c13] at h
    refine qr_iload_n dX7_comesTo_10 rfl 3 rfl ?_
    refine qr_if_eq (tgt := 43) dX7_comesTo_11 (by decide) (fun c12 => ?_) (fun c12 => ?_)
    · rw [if_pos c12] at h
      obtain ⟨y4, h1, hx⟩ := qm_bind h
      clear h
      cases hx
      have h := h1
      refine qr_aload_n dX7_comesTo_43 rfl 0 rfl ?_
      refine qr_iload_n dX7_comesTo_44 rfl 1 rfl ?_
      refine qr_iload_n dX7_comesTo_45 rfl 2 rfl ?_
      obtain ⟨r3, er3, h⟩ := qm_bind h
      refine qr_call1 (st1 := []) rfl (qr_callV (id := 210) (c := 5) (As := [.int v1, .int v2]) (st := []) rfl (by decide) rfl (ct_X7_hangs (l := l) (E := E) σ v1 v2 er3) qw_731 qw_6 qw_728 qw_730 qs_16 yd_X7_hangs (by decide) (by decide) rfl (Nat.le_of_ble_eq_true rfl) dX7_comesTo_46) ?_
      obtain rfl := Option.some.inj h
      cases hT
      exact qr_vret dX7_comesTo_49
    · rw [if_neg c12] at h
      refine qr_iload dX7_comesTo_14 4 rfl ?_
      refine qr_iload_n dX7_comesTo_16 rfl 1 rfl ?_
      refine qr_icmp_eq (tgt := 37) dX7_comesTo_17 (by decide) (fun c11 => ?_) (fun c11 => ?_)
      · rw [if_pos c11] at h
        obtain ⟨z5, ez5, h⟩ := qm_bind h
        refine qr_iinc (q := 4) (v := z5) (lv' := [(4, .int z5), (0, .ref (qm_a E 210)), (1, .int v1), (2, .int v2), (3, .int v3)]) dX7_comesTo_37 rfl (Option.some.inj ez5) (by decide) rfl ?_
        refine qr_goto (tgt := 3) dX7_comesTo_40 (by decide) ?_
        obtain rfl := Option.some.inj h
        exact qr_sub [1, 2, 3, 4, 0] rfl hT
      · rw [if_neg c11] at h
        refine qr_aload_n dX7_comesTo_20 rfl 0 rfl ?_
        refine qr_iload dX7_comesTo_21 4 rfl ?_
        refine qr_iload_n dX7_comesTo_23 rfl 2 rfl ?_
        obtain ⟨r6, er6, h⟩ := qm_bind h
        refine qr_call1 (st1 := [.int (qm_b r6)]) rfl (qr_callV (id := 210) (c := 5) (As := [.int v4, .int v2]) (st := []) rfl (by decide) rfl (ct_X7_isChild (l := l) (E := E) σ v4 v2 er6) qw_723 qw_6 qw_720 qw_722 qs_14 yd_X7_isChild (by decide) (by decide) rfl (Nat.le_of_ble_eq_true rfl) dX7_comesTo_24) ?_
        refine qr_if_eq (tgt := 37) dX7_comesTo_27 (by decide) (fun c10 => ?_) (fun c10 => ?_)
        · rw [if_pos c10] at h
          obtain ⟨z7, ez7, h⟩ := qm_bind h
          refine qr_iinc (q := 4) (v := z7) (lv' := [(4, .int z7), (0, .ref (qm_a E 210)), (1, .int v1), (2, .int v2), (3, .int v3)]) dX7_comesTo_37 rfl (Option.some.inj ez7) (by decide) rfl ?_
          refine qr_goto (tgt := 3) dX7_comesTo_40 (by decide) ?_
          obtain rfl := Option.some.inj h
          exact qr_sub [1, 2, 3, 4, 0] rfl hT
        · rw [if_neg c10] at h
          refine qr_aload_n dX7_comesTo_30 rfl 0 rfl ?_
          refine qr_iload dX7_comesTo_31 4 rfl ?_
          refine qr_iload_n dX7_comesTo_33 rfl 1 rfl ?_
          obtain ⟨r8, er8, h⟩ := qm_bind h
          refine qr_call1 (st1 := []) rfl (qr_callV (id := 210) (c := 5) (As := [.int v4, .int v1]) (st := []) rfl (by decide) rfl (ct_X7_hangs (l := l) (E := E) σ v4 v1 er8) qw_731 qw_6 qw_728 qw_730 qs_16 yd_X7_hangs (by decide) (by decide) rfl (Nat.le_of_ble_eq_true rfl) dX7_comesTo_34) ?_
          obtain ⟨z9, ez9, h⟩ := qm_bind h
          refine qr_iinc (q := 4) (v := z9) (lv' := [(4, .int z9), (0, .ref (qm_a E 210)), (1, .int v1), (2, .int v2), (3, .int v3)]) dX7_comesTo_37 rfl (Option.some.inj ez9) (by decide) rfl ?_
          refine qr_goto (tgt := 3) dX7_comesTo_40 (by decide) ?_
          obtain rfl := Option.some.inj h
          exact qr_sub [1, 2, 3, 4, 0] rfl hT
def lp_X7_comesTo_3 (σ : qm_M) (v1 : Int32) (v2 : Int32) (v3 : Int32) (v4 : Int32) : Option (qm_M) := qm_loop (fun s : Int32 × qm_M => bb_X7_comesTo_3 s.2 v1 v2 v3 s.1) 1000 (v4, σ)
theorem wl_X7_comesTo_3 {l : Launch} {E : qm_E} (σ : qm_M) (v1 : Int32) (v2 : Int32) (v3 : Int32) (v4 : Int32) {x : qm_M} (h : lp_X7_comesTo_3 σ v1 v2 v3 v4 = some x) {r : Option Value × qm_M} (hT : (fun x r => (none, x) = r) x r) : qm_Wp l E kd_X7_comesTo "HungStreamsModel" cX7_comesTo 5 3 [(0, .ref (qm_a E 210)), (1, .int v1), (2, .int v2), (3, .int v3), (4, .int v4)] [] σ r :=
  qm_loop_T (P := pp_X7_comesTo_3 l E v1 v2 v3) (T1 := (fun x r => (none, x) = r)) (fun s x h r hT => wb_X7_comesTo_3 (l := l) (E := E) s.2 v1 v2 v3 s.1  h hT) h hT
def fn_X7_comesTo (σ : qm_M) (v1 : Int32) (v2 : Int32) (v3 : Int32) : Option (qm_M) :=
  lp_X7_comesTo_3 σ v1 v2 v3 1
set_option maxRecDepth 20000 in
theorem wf_X7_comesTo {l : Launch} {E : qm_E} (σ : qm_M) (v1 : Int32) (v2 : Int32) (v3 : Int32) {x : qm_M} (h : fn_X7_comesTo σ v1 v2 v3 = some x) {r : Option Value × qm_M} (hT : (fun x r => (none, x) = r) x r) : qm_Wp l E kd_X7_comesTo "HungStreamsModel" cX7_comesTo 5 0 [(0, .ref (qm_a E 210)), (1, .int v1), (2, .int v2), (3, .int v3)] [] σ r := by
  unfold fn_X7_comesTo at h
  refine qr_iconst (v := 1) dX7_comesTo_0 (by decide) ?_
  refine qr_istore (lv' := [(4, .int 1), (0, .ref (qm_a E 210)), (1, .int v1), (2, .int v2), (3, .int v3)]) dX7_comesTo_1 (by decide) rfl ?_
  exact qr_sub [1, 2, 3, 4, 0] rfl (wl_X7_comesTo_3 (l := l) (E := E) σ v1 v2 v3 1 h hT)
theorem ct_X7_comesTo {l : Launch} {E : qm_E} (σ : qm_M) (v1 : Int32) (v2 : Int32) (v3 : Int32) {x : qm_M} (h : fn_X7_comesTo σ v1 v2 v3 = some x) : qm_Ct l E kd_X7_comesTo yX7_comesTo cX7_comesTo 5 none [.ref (qm_a E 210), .int v1, .int v2, .int v3] σ (none, x) := qm_ofWp rfl (Nat.le_of_ble_eq_true rfl) (rfl) (wf_X7_comesTo σ v1 v2 v3  h rfl)
-- HungStreamsModel.begins (II)V
abbrev kd_X7_begins : Nat := 2
theorem yd_X7_begins : (yX7_begins).cls ≠ "java/lang/invoke/MethodHandle" ∧ (yX7_begins).cls ≠ "java/lang/invoke/VarHandle" ∧ (parseMethodDescriptor (yX7_begins).desc).map (fun d => d.parameters.length) = some 2 := by decide +kernel
abbrev pp_X7_begins_2 (l : Launch) (E : qm_E) (v1 : Int32) (v2 : Int32) : (Int32 × qm_M) → Option Value × qm_M → Prop := fun s r => qm_Wp l E kd_X7_begins "HungStreamsModel" cX7_begins 4 2 [(0, .ref (qm_a E 210)), (1, .int v1), (2, .int v2), (3, .int s.1)] [] s.2 r
def bb_X7_begins_2 (σ : qm_M) (v1 : Int32) (v2 : Int32) (v3 : Int32) : Option ((Int32 × qm_M) ⊕ (qm_M)) :=
  if 16 ≤ v3 then ((fn_X7_puts σ v1 0 1).bind (fun r1 => (fn_X7_puts r1 v1 2 v2.toInt64).bind (fun r2 => (fn_X7_puts r2 v1 4 1000).bind (fun r3 => (fn_X7_puts r3 v1 5 3).bind (fun r4 => (fn_X7_puts r4 v1 7 1).bind (fun r5 => (fn_X7_puts r5 v1 14 (-1)).bind (fun r6 => (fn_X7_puts r6 v1 1 v1.toInt64).bind (fun r7 => some r7)))))))).bind (fun y => some (.inr y)) else (fn_X7_puts σ v1 v3 0).bind (fun r9 => (some (v3 + 1)).bind (fun z10 => some (.inl (z10, r9))))
set_option maxRecDepth 20000 in
theorem wb_X7_begins_2 {l : Launch} {E : qm_E} (σ : qm_M) (v1 : Int32) (v2 : Int32) (v3 : Int32) {x : (Int32 × qm_M) ⊕ (qm_M)} (h : bb_X7_begins_2 σ v1 v2 v3 = some x) {r : Option Value × qm_M} (hT : (qm_T (pp_X7_begins_2 l E v1 v2) (fun x r => (none, x) = r)) x r) : qm_Wp l E kd_X7_begins "HungStreamsModel" cX7_begins 4 2 [(0, .ref (qm_a E 210)), (1, .int v1), (2, .int v2), (3, .int v3)] [] σ r := by
  unfold bb_X7_begins_2 at h
  refine qr_iload_n dX7_begins_2 rfl 3 rfl ?_
  refine qr_bipush (v := 16) dX7_begins_3 (by decide) ?_
  refine qr_icmp_ge (tgt := 21) dX7_begins_5 (by decide) (fun c11 => ?_) (fun c11 => ?_)
  · rw [if_pos c11] at h
    obtain ⟨y8, h1, hx⟩ := qm_bind h
    clear h
    cases hx
    have h := h1
    refine qr_aload_n dX7_begins_21 rfl 0 rfl ?_
    refine qr_iload_n dX7_begins_22 rfl 1 rfl ?_
    refine qr_iconst (v := 0) dX7_begins_23 (by decide) ?_
    refine qr_lconst (v := 1) dX7_begins_24 (by decide) ?_
    obtain ⟨r1, er1, h⟩ := qm_bind h
    refine qr_call1 (st1 := []) rfl (qr_callV (id := 210) (c := 5) (As := [.int v1, .int 0, .long 1]) (st := []) rfl (by decide) rfl (ct_X7_puts (l := l) (E := E) σ v1 0 1 er1) qw_713 qw_6 qw_710 qw_712 qs_12 yd_X7_puts (by decide) (by decide) rfl (Nat.le_of_ble_eq_true rfl) dX7_begins_25) ?_
    refine qr_aload_n dX7_begins_28 rfl 0 rfl ?_
    refine qr_iload_n dX7_begins_29 rfl 1 rfl ?_
    refine qr_iconst (v := 2) dX7_begins_30 (by decide) ?_
    refine qr_iload_n dX7_begins_31 rfl 2 rfl ?_
    refine qr_i2l dX7_begins_32 ?_
    obtain ⟨r2, er2, h⟩ := qm_bind h
    refine qr_call1 (st1 := []) rfl (qr_callV (id := 210) (c := 5) (As := [.int v1, .int 2, .long v2.toInt64]) (st := []) rfl (by decide) rfl (ct_X7_puts (l := l) (E := E) r1 v1 2 v2.toInt64 er2) qw_713 qw_6 qw_710 qw_712 qs_12 yd_X7_puts (by decide) (by decide) rfl (Nat.le_of_ble_eq_true rfl) dX7_begins_33) ?_
    refine qr_aload_n dX7_begins_36 rfl 0 rfl ?_
    refine qr_iload_n dX7_begins_37 rfl 1 rfl ?_
    refine qr_iconst (v := 4) dX7_begins_38 (by decide) ?_
    refine qr_ldc2 qw_714 dX7_begins_39 ?_
    obtain ⟨r3, er3, h⟩ := qm_bind h
    refine qr_call1 (st1 := []) rfl (qr_callV (id := 210) (c := 5) (As := [.int v1, .int 4, .long 1000]) (st := []) rfl (by decide) rfl (ct_X7_puts (l := l) (E := E) r2 v1 4 1000 er3) qw_713 qw_6 qw_710 qw_712 qs_12 yd_X7_puts (by decide) (by decide) rfl (Nat.le_of_ble_eq_true rfl) dX7_begins_42) ?_
    refine qr_aload_n dX7_begins_45 rfl 0 rfl ?_
    refine qr_iload_n dX7_begins_46 rfl 1 rfl ?_
    refine qr_iconst (v := 5) dX7_begins_47 (by decide) ?_
    refine qr_ldc2 qw_715 dX7_begins_48 ?_
    obtain ⟨r4, er4, h⟩ := qm_bind h
    refine qr_call1 (st1 := []) rfl (qr_callV (id := 210) (c := 5) (As := [.int v1, .int 5, .long 3]) (st := []) rfl (by decide) rfl (ct_X7_puts (l := l) (E := E) r3 v1 5 3 er4) qw_713 qw_6 qw_710 qw_712 qs_12 yd_X7_puts (by decide) (by decide) rfl (Nat.le_of_ble_eq_true rfl) dX7_begins_51) ?_
    refine qr_aload_n dX7_begins_54 rfl 0 rfl ?_
    refine qr_iload_n dX7_begins_55 rfl 1 rfl ?_
    refine qr_bipush (v := 7) dX7_begins_56 (by decide) ?_
    refine qr_lconst (v := 1) dX7_begins_58 (by decide) ?_
    obtain ⟨r5, er5, h⟩ := qm_bind h
    refine qr_call1 (st1 := []) rfl (qr_callV (id := 210) (c := 5) (As := [.int v1, .int 7, .long 1]) (st := []) rfl (by decide) rfl (ct_X7_puts (l := l) (E := E) r4 v1 7 1 er5) qw_713 qw_6 qw_710 qw_712 qs_12 yd_X7_puts (by decide) (by decide) rfl (Nat.le_of_ble_eq_true rfl) dX7_begins_59) ?_
    refine qr_aload_n dX7_begins_62 rfl 0 rfl ?_
    refine qr_iload_n dX7_begins_63 rfl 1 rfl ?_
    refine qr_bipush (v := 14) dX7_begins_64 (by decide) ?_
    refine qr_ldc2 qw_623 dX7_begins_66 ?_
    obtain ⟨r6, er6, h⟩ := qm_bind h
    refine qr_call1 (st1 := []) rfl (qr_callV (id := 210) (c := 5) (As := [.int v1, .int 14, .long (-1)]) (st := []) rfl (by decide) rfl (ct_X7_puts (l := l) (E := E) r5 v1 14 (-1) er6) qw_713 qw_6 qw_710 qw_712 qs_12 yd_X7_puts (by decide) (by decide) rfl (Nat.le_of_ble_eq_true rfl) dX7_begins_69) ?_
    refine qr_aload_n dX7_begins_72 rfl 0 rfl ?_
    refine qr_iload_n dX7_begins_73 rfl 1 rfl ?_
    refine qr_iconst (v := 1) dX7_begins_74 (by decide) ?_
    refine qr_iload_n dX7_begins_75 rfl 1 rfl ?_
    refine qr_i2l dX7_begins_76 ?_
    obtain ⟨r7, er7, h⟩ := qm_bind h
    refine qr_call1 (st1 := []) rfl (qr_callV (id := 210) (c := 5) (As := [.int v1, .int 1, .long v1.toInt64]) (st := []) rfl (by decide) rfl (ct_X7_puts (l := l) (E := E) r6 v1 1 v1.toInt64 er7) qw_713 qw_6 qw_710 qw_712 qs_12 yd_X7_puts (by decide) (by decide) rfl (Nat.le_of_ble_eq_true rfl) dX7_begins_77) ?_
    obtain rfl := Option.some.inj h
    cases hT
    exact qr_vret dX7_begins_80
  · rw [if_neg c11] at h
    refine qr_aload_n dX7_begins_8 rfl 0 rfl ?_
    refine qr_iload_n dX7_begins_9 rfl 1 rfl ?_
    refine qr_iload_n dX7_begins_10 rfl 3 rfl ?_
    refine qr_lconst (v := 0) dX7_begins_11 (by decide) ?_
    obtain ⟨r9, er9, h⟩ := qm_bind h
    refine qr_call1 (st1 := []) rfl (qr_callV (id := 210) (c := 5) (As := [.int v1, .int v3, .long 0]) (st := []) rfl (by decide) rfl (ct_X7_puts (l := l) (E := E) σ v1 v3 0 er9) qw_713 qw_6 qw_710 qw_712 qs_12 yd_X7_puts (by decide) (by decide) rfl (Nat.le_of_ble_eq_true rfl) dX7_begins_12) ?_
    obtain ⟨z10, ez10, h⟩ := qm_bind h
    refine qr_iinc (q := 3) (v := z10) (lv' := [(3, .int z10), (0, .ref (qm_a E 210)), (1, .int v1), (2, .int v2)]) dX7_begins_15 rfl (Option.some.inj ez10) (by decide) rfl ?_
    refine qr_goto (tgt := 2) dX7_begins_18 (by decide) ?_
    obtain rfl := Option.some.inj h
    exact qr_sub [1, 2, 3, 0] rfl hT
def lp_X7_begins_2 (σ : qm_M) (v1 : Int32) (v2 : Int32) (v3 : Int32) : Option (qm_M) := qm_loop (fun s : Int32 × qm_M => bb_X7_begins_2 s.2 v1 v2 s.1) 1000 (v3, σ)
theorem wl_X7_begins_2 {l : Launch} {E : qm_E} (σ : qm_M) (v1 : Int32) (v2 : Int32) (v3 : Int32) {x : qm_M} (h : lp_X7_begins_2 σ v1 v2 v3 = some x) {r : Option Value × qm_M} (hT : (fun x r => (none, x) = r) x r) : qm_Wp l E kd_X7_begins "HungStreamsModel" cX7_begins 4 2 [(0, .ref (qm_a E 210)), (1, .int v1), (2, .int v2), (3, .int v3)] [] σ r :=
  qm_loop_T (P := pp_X7_begins_2 l E v1 v2) (T1 := (fun x r => (none, x) = r)) (fun s x h r hT => wb_X7_begins_2 (l := l) (E := E) s.2 v1 v2 s.1  h hT) h hT
def fn_X7_begins (σ : qm_M) (v1 : Int32) (v2 : Int32) : Option (qm_M) :=
  lp_X7_begins_2 σ v1 v2 0
set_option maxRecDepth 20000 in
theorem wf_X7_begins {l : Launch} {E : qm_E} (σ : qm_M) (v1 : Int32) (v2 : Int32) {x : qm_M} (h : fn_X7_begins σ v1 v2 = some x) {r : Option Value × qm_M} (hT : (fun x r => (none, x) = r) x r) : qm_Wp l E kd_X7_begins "HungStreamsModel" cX7_begins 4 0 [(0, .ref (qm_a E 210)), (1, .int v1), (2, .int v2)] [] σ r := by
  unfold fn_X7_begins at h
  refine qr_iconst (v := 0) dX7_begins_0 (by decide) ?_
  refine qr_istore_n (lv' := [(3, .int 0), (0, .ref (qm_a E 210)), (1, .int v1), (2, .int v2)]) dX7_begins_1 rfl (by decide) rfl ?_
  exact qr_sub [1, 2, 3, 0] rfl (wl_X7_begins_2 (l := l) (E := E) σ v1 v2 0 h hT)
theorem ct_X7_begins {l : Launch} {E : qm_E} (σ : qm_M) (v1 : Int32) (v2 : Int32) {x : qm_M} (h : fn_X7_begins σ v1 v2 = some x) : qm_Ct l E kd_X7_begins yX7_begins cX7_begins 4 none [.ref (qm_a E 210), .int v1, .int v2] σ (none, x) := qm_ofWp rfl (Nat.le_of_ble_eq_true rfl) (rfl) (wf_X7_begins σ v1 v2  h rfl)
-- HungStreamsModel.comes (IIII)I
abbrev kd_X7_comes : Nat := 5
theorem yd_X7_comes : (yX7_comes).cls ≠ "java/lang/invoke/MethodHandle" ∧ (yX7_comes).cls ≠ "java/lang/invoke/VarHandle" ∧ (parseMethodDescriptor (yX7_comes).desc).map (fun d => d.parameters.length) = some 4 := by decide +kernel
def fn_X7_comes (σ : qm_M) (v1 : Int32) (v2 : Int32) (v3 : Int32) (v4 : Int32) : Option (Int32 × qm_M) :=
  (fn_X7_in σ v1.toInt64 1 12).bind (fun r1 => if (qm_b r1) = 0 then (fn_X7_refuses σ (-2)).bind (fun r2 => some (r2.1, r2.2)) else (fn_X7_isPlace σ v2).bind (fun r3 => if (qm_b r3) = 0 then (fn_X7_refuses σ (-2)).bind (fun r4 => some (r4.1, r4.2)) else (fn_X7_in σ v3.toInt64 1 16).bind (fun r5 => if (qm_b r5) = 0 then (fn_X7_refuses σ (-2)).bind (fun r6 => some (r6.1, r6.2)) else (fn_X7_in σ v4.toInt64 0 1).bind (fun r7 => if (qm_b r7) = 0 then (fn_X7_refuses σ (-2)).bind (fun r18 => some (r18.1, r18.2)) else (fn_X7_isStream σ v1).bind (fun r8 => if (qm_b r8) = 0 then (fn_X7_keep σ ).bind (fun r9 => (fn_X7_begins r9 v1 v3).bind (fun r10 => if v4 = 1 then (fn_X7_comesTo r10 v1 v2 1).bind (fun r13 => (fn_X7_children r13 v1).bind (fun r14 => some (r14, r13))) else (fn_X7_comesTo r10 v1 v2 0).bind (fun r11 => (fn_X7_children r11 v1).bind (fun r12 => some (r12, r11))))) else (fn_X7_refuses σ (-3)).bind (fun r16 => some (r16.1, r16.2)))))))
set_option maxRecDepth 20000 in
theorem wf_X7_comes {l : Launch} {E : qm_E} (σ : qm_M) (v1 : Int32) (v2 : Int32) (v3 : Int32) (v4 : Int32) {x : Int32 × qm_M} (h : fn_X7_comes σ v1 v2 v3 v4 = some x) {r : Option Value × qm_M} (hT : (fun x r => (some (.int x.1), x.2) = r) x r) : qm_Wp l E kd_X7_comes "HungStreamsModel" cX7_comes 5 0 [(0, .ref (qm_a E 210)), (1, .int v1), (2, .int v2), (3, .int v3), (4, .int v4)] [] σ r := by
  unfold fn_X7_comes at h
  refine qr_iload_n dX7_comes_0 rfl 1 rfl ?_
  refine qr_i2l dX7_comes_1 ?_
  refine qr_lconst (v := 1) dX7_comes_2 (by decide) ?_
  refine qr_ldc2 qw_681 dX7_comes_3 ?_
  obtain ⟨r1, er1, h⟩ := qm_bind h
  refine qr_call1 (st1 := [.int (qm_b r1)]) rfl (qr_callS (As := [.long v1.toInt64, .long 1, .long 12]) (st := []) (ct_X7_in (l := l) (E := E) σ v1.toInt64 1 12 er1) qw_684 qw_6 qw_682 qw_683 yd_X7_in (by decide) (by decide) rfl (Nat.le_of_ble_eq_true rfl) dX7_comes_6) ?_
  refine qr_if_eq (tgt := 43) dX7_comes_9 (by decide) (fun c22 => ?_) (fun c22 => ?_)
  · rw [if_pos c22] at h
    refine qr_aload_n dX7_comes_43 rfl 0 rfl ?_
    refine qr_bipush (v := (-2)) dX7_comes_44 (by decide) ?_
    obtain ⟨r2, er2, h⟩ := qm_bind h
    refine qr_call1 (st1 := [.int r2.1]) rfl (qr_callV (id := 210) (c := 5) (As := [.int (-2)]) (st := []) rfl (by decide) rfl (ct_X7_refuses (l := l) (E := E) σ (-2) er2) qw_701 qw_6 qw_698 qw_700 qs_9 yd_X7_refuses (by decide) (by decide) rfl (Nat.le_of_ble_eq_true rfl) dX7_comes_46) ?_
    obtain rfl := Option.some.inj h
    cases hT
    exact qr_iret dX7_comes_49
  · rw [if_neg c22] at h
    refine qr_aload_n dX7_comes_12 rfl 0 rfl ?_
    refine qr_iload_n dX7_comes_13 rfl 2 rfl ?_
    obtain ⟨r3, er3, h⟩ := qm_bind h
    refine qr_call1 (st1 := [.int (qm_b r3)]) rfl (qr_callV (id := 210) (c := 5) (As := [.int v2]) (st := []) rfl (by decide) rfl (ct_X7_isPlace (l := l) (E := E) σ v2 er3) qw_688 qw_6 qw_685 qw_687 qs_6 yd_X7_isPlace (by decide) (by decide) rfl (Nat.le_of_ble_eq_true rfl) dX7_comes_14) ?_
    refine qr_if_eq (tgt := 43) dX7_comes_17 (by decide) (fun c21 => ?_) (fun c21 => ?_)
    · rw [if_pos c21] at h
      refine qr_aload_n dX7_comes_43 rfl 0 rfl ?_
      refine qr_bipush (v := (-2)) dX7_comes_44 (by decide) ?_
      obtain ⟨r4, er4, h⟩ := qm_bind h
      refine qr_call1 (st1 := [.int r4.1]) rfl (qr_callV (id := 210) (c := 5) (As := [.int (-2)]) (st := []) rfl (by decide) rfl (ct_X7_refuses (l := l) (E := E) σ (-2) er4) qw_701 qw_6 qw_698 qw_700 qs_9 yd_X7_refuses (by decide) (by decide) rfl (Nat.le_of_ble_eq_true rfl) dX7_comes_46) ?_
      obtain rfl := Option.some.inj h
      cases hT
      exact qr_iret dX7_comes_49
    · rw [if_neg c21] at h
      refine qr_iload_n dX7_comes_20 rfl 3 rfl ?_
      refine qr_i2l dX7_comes_21 ?_
      refine qr_lconst (v := 1) dX7_comes_22 (by decide) ?_
      refine qr_ldc2 qw_697 dX7_comes_23 ?_
      obtain ⟨r5, er5, h⟩ := qm_bind h
      refine qr_call1 (st1 := [.int (qm_b r5)]) rfl (qr_callS (As := [.long v3.toInt64, .long 1, .long 16]) (st := []) (ct_X7_in (l := l) (E := E) σ v3.toInt64 1 16 er5) qw_684 qw_6 qw_682 qw_683 yd_X7_in (by decide) (by decide) rfl (Nat.le_of_ble_eq_true rfl) dX7_comes_26) ?_
      refine qr_if_eq (tgt := 43) dX7_comes_29 (by decide) (fun c20 => ?_) (fun c20 => ?_)
      · rw [if_pos c20] at h
        refine qr_aload_n dX7_comes_43 rfl 0 rfl ?_
        refine qr_bipush (v := (-2)) dX7_comes_44 (by decide) ?_
        obtain ⟨r6, er6, h⟩ := qm_bind h
        refine qr_call1 (st1 := [.int r6.1]) rfl (qr_callV (id := 210) (c := 5) (As := [.int (-2)]) (st := []) rfl (by decide) rfl (ct_X7_refuses (l := l) (E := E) σ (-2) er6) qw_701 qw_6 qw_698 qw_700 qs_9 yd_X7_refuses (by decide) (by decide) rfl (Nat.le_of_ble_eq_true rfl) dX7_comes_46) ?_
        obtain rfl := Option.some.inj h
        cases hT
        exact qr_iret dX7_comes_49
      · rw [if_neg c20] at h
        refine qr_iload dX7_comes_32 4 rfl ?_
        refine qr_i2l dX7_comes_34 ?_
        refine qr_lconst (v := 0) dX7_comes_35 (by decide) ?_
        refine qr_lconst (v := 1) dX7_comes_36 (by decide) ?_
        obtain ⟨r7, er7, h⟩ := qm_bind h
        refine qr_call1 (st1 := [.int (qm_b r7)]) rfl (qr_callS (As := [.long v4.toInt64, .long 0, .long 1]) (st := []) (ct_X7_in (l := l) (E := E) σ v4.toInt64 0 1 er7) qw_684 qw_6 qw_682 qw_683 yd_X7_in (by decide) (by decide) rfl (Nat.le_of_ble_eq_true rfl) dX7_comes_37) ?_
        refine qr_if_ne (tgt := 50) dX7_comes_40 (by decide) (fun c19 => ?_) (fun c19 => ?_)
        · rw [if_neg c19] at h
          refine qr_aload_n dX7_comes_50 rfl 0 rfl ?_
          refine qr_iload_n dX7_comes_51 rfl 1 rfl ?_
          obtain ⟨r8, er8, h⟩ := qm_bind h
          refine qr_call1 (st1 := [.int (qm_b r8)]) rfl (qr_callV (id := 210) (c := 5) (As := [.int v1]) (st := []) rfl (by decide) rfl (ct_X7_isStream (l := l) (E := E) σ v1 er8) qw_692 qw_6 qw_689 qw_691 qs_7 yd_X7_isStream (by decide) (by decide) rfl (Nat.le_of_ble_eq_true rfl) dX7_comes_52) ?_
          refine qr_if_eq (tgt := 65) dX7_comes_55 (by decide) (fun c17 => ?_) (fun c17 => ?_)
          · rw [if_pos c17] at h
            refine qr_aload_n dX7_comes_65 rfl 0 rfl ?_
            obtain ⟨r9, er9, h⟩ := qm_bind h
            refine qr_call1 (st1 := []) rfl (qr_callV (id := 210) (c := 5) (As := []) (st := []) rfl (by decide) rfl (ct_X7_keep (l := l) (E := E) σ  er9) qw_705 qw_6 qw_702 qw_704 qs_10 yd_X7_keep (by decide) (by decide) rfl (Nat.le_of_ble_eq_true rfl) dX7_comes_66) ?_
            refine qr_aload_n dX7_comes_69 rfl 0 rfl ?_
            refine qr_iload_n dX7_comes_70 rfl 1 rfl ?_
            refine qr_iload_n dX7_comes_71 rfl 3 rfl ?_
            obtain ⟨r10, er10, h⟩ := qm_bind h
            refine qr_call1 (st1 := []) rfl (qr_callV (id := 210) (c := 5) (As := [.int v1, .int v3]) (st := []) rfl (by decide) rfl (ct_X7_begins (l := l) (E := E) r9 v1 v3 er10) qw_709 qw_6 qw_706 qw_708 qs_11 yd_X7_begins (by decide) (by decide) rfl (Nat.le_of_ble_eq_true rfl) dX7_comes_72) ?_
            refine qr_aload_n dX7_comes_75 rfl 0 rfl ?_
            refine qr_iload_n dX7_comes_76 rfl 1 rfl ?_
            refine qr_iload_n dX7_comes_77 rfl 2 rfl ?_
            refine qr_iload dX7_comes_78 4 rfl ?_
            refine qr_iconst (v := 1) dX7_comes_80 (by decide) ?_
            refine qr_icmp_ne (tgt := 88) dX7_comes_81 (by decide) (fun c15 => ?_) (fun c15 => ?_)
            · rw [if_neg c15] at h
              refine qr_iconst (v := 0) dX7_comes_88 (by decide) ?_
              obtain ⟨r11, er11, h⟩ := qm_bind h
              refine qr_call1 (st1 := []) rfl (qr_callV (id := 210) (c := 5) (As := [.int v1, .int v2, .int 0]) (st := []) rfl (by decide) rfl (ct_X7_comesTo (l := l) (E := E) r10 v1 v2 0 er11) qw_719 qw_6 qw_716 qw_718 qs_13 yd_X7_comesTo (by decide) (by decide) rfl (Nat.le_of_ble_eq_true rfl) dX7_comes_89) ?_
              refine qr_aload_n dX7_comes_92 rfl 0 rfl ?_
              refine qr_iload_n dX7_comes_93 rfl 1 rfl ?_
              obtain ⟨r12, er12, h⟩ := qm_bind h
              refine qr_call1 (st1 := [.int r12]) rfl (qr_callV (id := 210) (c := 5) (As := [.int v1]) (st := []) rfl (by decide) rfl (ct_X7_children (l := l) (E := E) r11 v1 er12) qw_735 qw_6 qw_732 qw_734 qs_17 yd_X7_children (by decide) (by decide) rfl (Nat.le_of_ble_eq_true rfl) dX7_comes_94) ?_
              obtain rfl := Option.some.inj h
              cases hT
              exact qr_iret dX7_comes_97
            · rw [if_pos c15] at h
              refine qr_iconst (v := 1) dX7_comes_84 (by decide) ?_
              refine qr_goto (tgt := 89) dX7_comes_85 (by decide) ?_
              obtain ⟨r13, er13, h⟩ := qm_bind h
              refine qr_call1 (st1 := []) rfl (qr_callV (id := 210) (c := 5) (As := [.int v1, .int v2, .int 1]) (st := []) rfl (by decide) rfl (ct_X7_comesTo (l := l) (E := E) r10 v1 v2 1 er13) qw_719 qw_6 qw_716 qw_718 qs_13 yd_X7_comesTo (by decide) (by decide) rfl (Nat.le_of_ble_eq_true rfl) dX7_comes_89) ?_
              refine qr_aload_n dX7_comes_92 rfl 0 rfl ?_
              refine qr_iload_n dX7_comes_93 rfl 1 rfl ?_
              obtain ⟨r14, er14, h⟩ := qm_bind h
              refine qr_call1 (st1 := [.int r14]) rfl (qr_callV (id := 210) (c := 5) (As := [.int v1]) (st := []) rfl (by decide) rfl (ct_X7_children (l := l) (E := E) r13 v1 er14) qw_735 qw_6 qw_732 qw_734 qs_17 yd_X7_children (by decide) (by decide) rfl (Nat.le_of_ble_eq_true rfl) dX7_comes_94) ?_
              obtain rfl := Option.some.inj h
              cases hT
              exact qr_iret dX7_comes_97
          · rw [if_neg c17] at h
            refine qr_aload_n dX7_comes_58 rfl 0 rfl ?_
            refine qr_bipush (v := (-3)) dX7_comes_59 (by decide) ?_
            obtain ⟨r16, er16, h⟩ := qm_bind h
            refine qr_call1 (st1 := [.int r16.1]) rfl (qr_callV (id := 210) (c := 5) (As := [.int (-3)]) (st := []) rfl (by decide) rfl (ct_X7_refuses (l := l) (E := E) σ (-3) er16) qw_701 qw_6 qw_698 qw_700 qs_9 yd_X7_refuses (by decide) (by decide) rfl (Nat.le_of_ble_eq_true rfl) dX7_comes_61) ?_
            obtain rfl := Option.some.inj h
            cases hT
            exact qr_iret dX7_comes_64
        · rw [if_pos c19] at h
          refine qr_aload_n dX7_comes_43 rfl 0 rfl ?_
          refine qr_bipush (v := (-2)) dX7_comes_44 (by decide) ?_
          obtain ⟨r18, er18, h⟩ := qm_bind h
          refine qr_call1 (st1 := [.int r18.1]) rfl (qr_callV (id := 210) (c := 5) (As := [.int (-2)]) (st := []) rfl (by decide) rfl (ct_X7_refuses (l := l) (E := E) σ (-2) er18) qw_701 qw_6 qw_698 qw_700 qs_9 yd_X7_refuses (by decide) (by decide) rfl (Nat.le_of_ble_eq_true rfl) dX7_comes_46) ?_
          obtain rfl := Option.some.inj h
          cases hT
          exact qr_iret dX7_comes_49
theorem ct_X7_comes {l : Launch} {E : qm_E} (σ : qm_M) (v1 : Int32) (v2 : Int32) (v3 : Int32) (v4 : Int32) {x : Int32 × qm_M} (h : fn_X7_comes σ v1 v2 v3 v4 = some x) : qm_Ct l E kd_X7_comes yX7_comes cX7_comes 5 (some .int) [.ref (qm_a E 210), .int v1, .int v2, .int v3, .int v4] σ (some (.int x.1), x.2) := qm_ofWp rfl (Nat.le_of_ble_eq_true rfl) (Or.inl rfl) (wf_X7_comes σ v1 v2 v3 v4  h rfl)
