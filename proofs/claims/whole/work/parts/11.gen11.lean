-- HungStreamsModel.takesStream (I)Z
abbrev kd_X7_takesStream : Nat := 4
theorem yd_X7_takesStream : (yX7_takesStream).cls ≠ "java/lang/invoke/MethodHandle" ∧ (yX7_takesStream).cls ≠ "java/lang/invoke/VarHandle" ∧ (parseMethodDescriptor (yX7_takesStream).desc).map (fun d => d.parameters.length) = some 1 := by decide +kernel
abbrev pp_X7_takesStream_24 (l : Launch) (E : qm_E) (σ : qm_M) (v1 : Int32) (v3 : Int32) : Int32 → Option Value × qm_M → Prop := fun s r => qm_Wp l E kd_X7_takesStream "HungStreamsModel" cX7_takesStream 5 24 [(0, .ref (qm_a E 210)), (1, .int v1), (3, .int v3), (4, .int s)] [] σ r
def bb_X7_takesStream_24 (σ : qm_M) (v1 : Int32) (v3 : Int32) (v4 : Int32) : Option ((Int32) ⊕ (Bool × qm_M)) :=
  if (σ.1 210 10) ≤ v4 then (if ¬ ((σ.1 210 10) < 0 ∨ 12 ≤ (σ.1 210 10).toNatClampNeg) then (some (qm_si σ 215 (σ.1 210 10).toNatClampNeg (σ.1 210 9))).bind (fun σ5 => if ¬ ((σ5.1 210 10) < 0 ∨ 12 ≤ (σ5.1 210 10).toNatClampNeg) then (some (qm_si σ5 217 (σ5.1 210 10).toNatClampNeg v1)).bind (fun σ7 => (fn_X7_here σ7 ).bind (fun r8 => if r8.1 = 58 then (some (qm_si r8.2 210 8 ((r8.2.1 210 8) + 1))).bind (fun σ9 => (fn_X7_takes σ9 16).bind (fun r10 => if (qm_b r10.1) = 0 then some (false, r10.2) else if ¬ ((r10.2.1 210 10) < 0 ∨ 12 ≤ (r10.2.1 210 10).toNatClampNeg) then (some (qm_si r10.2 216 (r10.2.1 210 10).toNatClampNeg (r10.2.1 210 9))).bind (fun σ12 => (some (qm_si σ12 210 10 ((σ12.1 210 10) + 1))).bind (fun σ13 => some (true, σ13))) else none)) else some (false, r8.2))) else none) else none).bind (fun y => some (.inr y)) else if ¬ (v4 < 0 ∨ 12 ≤ v4.toNatClampNeg) then if (σ.1 215 v4.toNatClampNeg) = (σ.1 210 9) then ((some (qm_si σ 210 8 v3)).bind (fun σ19 => some (false, σ19))).bind (fun y => some (.inr y)) else (some (v4 + 1)).bind (fun z18 => some (.inl z18)) else none
set_option maxRecDepth 20000 in
theorem wb_X7_takesStream_24 {l : Launch} {E : qm_E} (σ : qm_M) (v1 : Int32) (v3 : Int32) (v4 : Int32) {x : (Int32) ⊕ (Bool × qm_M)} (h : bb_X7_takesStream_24 σ v1 v3 v4 = some x) {r : Option Value × qm_M} (hT : (qm_T (pp_X7_takesStream_24 l E σ v1 v3) (fun x r => (some (.int (qm_b x.1)), x.2) = r)) x r) : qm_Wp l E kd_X7_takesStream "HungStreamsModel" cX7_takesStream 5 24 [(0, .ref (qm_a E 210)), (1, .int v1), (3, .int v3), (4, .int v4)] [] σ r := by
  unfold bb_X7_takesStream_24 at h
  refine qr_iload dX7_takesStream_24 3 rfl ?_
  refine qr_aload_n dX7_takesStream_26 rfl 0 rfl ?_
  refine qr_get5 (k := 10) (v := .int (σ.1 210 10)) rfl (by decide) rfl qw_634 dX7_takesStream_27 ?_
  refine qr_icmp_ge (tgt := 60) dX7_takesStream_30 (by decide) (fun c22 => ?_) (fun c22 => ?_)
  · rw [if_pos c22] at h
    obtain ⟨y16, h1, hx⟩ := qm_bind h
    clear h
    cases hx
    have h := h1
    refine qr_aload_n dX7_takesStream_60 rfl 0 rfl ?_
    refine qr_get5 (k := 11) (v := .ref (qm_a E 215)) rfl (by decide) rfl qw_635 dX7_takesStream_61 ?_
    refine qr_aload_n dX7_takesStream_64 rfl 0 rfl ?_
    refine qr_get5 (k := 10) (v := .int (σ.1 210 10)) rfl (by decide) rfl qw_634 dX7_takesStream_65 ?_
    refine qr_aload_n dX7_takesStream_68 rfl 0 rfl ?_
    refine qr_get5 (k := 9) (v := .int (σ.1 210 9)) rfl (by decide) rfl qw_633 dX7_takesStream_69 ?_
    obtain ⟨c4, h⟩ := qm_chk h
    obtain ⟨σ5, eσ5, h⟩ := qm_bind h
    refine qr_iast rfl c4 dX7_takesStream_72 (qr_eqm (Option.some.inj eσ5) ?_)
    refine qr_aload_n dX7_takesStream_73 rfl 0 rfl ?_
    refine qr_get5 (k := 13) (v := .ref (qm_a E 217)) rfl (by decide) rfl qw_637 dX7_takesStream_74 ?_
    refine qr_aload_n dX7_takesStream_77 rfl 0 rfl ?_
    refine qr_get5 (k := 10) (v := .int (σ5.1 210 10)) rfl (by decide) rfl qw_634 dX7_takesStream_78 ?_
    refine qr_iload_n dX7_takesStream_81 rfl 1 rfl ?_
    obtain ⟨c6, h⟩ := qm_chk h
    obtain ⟨σ7, eσ7, h⟩ := qm_bind h
    refine qr_iast rfl c6 dX7_takesStream_82 (qr_eqm (Option.some.inj eσ7) ?_)
    refine qr_aload_n dX7_takesStream_83 rfl 0 rfl ?_
    obtain ⟨r8, er8, h⟩ := qm_bind h
    refine qr_call1 (st1 := [.int r8.1]) rfl (qr_callV (id := 210) (c := 5) (As := []) (st := []) rfl (by decide) rfl (ct_X7_here (l := l) (E := E) σ7  er8) qw_920 qw_6 qw_917 qw_919 qs_41 yd_X7_here (by decide) (by decide) rfl (Nat.le_of_ble_eq_true rfl) dX7_takesStream_84) ?_
    refine qr_bipush (v := 58) dX7_takesStream_87 (by decide) ?_
    refine qr_icmp_eq (tgt := 94) dX7_takesStream_89 (by decide) (fun c15 => ?_) (fun c15 => ?_)
    · rw [if_pos c15] at h
      refine qr_aload_n dX7_takesStream_94 rfl 0 rfl ?_
      refine qr_dup dX7_takesStream_95 rfl ?_
      refine qr_get5 (k := 8) (v := .int (r8.2.1 210 8)) rfl (by decide) rfl qw_632 dX7_takesStream_96 ?_
      refine qr_iconst (v := 1) dX7_takesStream_99 (by decide) ?_
      refine qr_iadd dX7_takesStream_100 ?_
      obtain ⟨σ9, eσ9, h⟩ := qm_bind h
      refine qr_put5_8 rfl qw_632 dX7_takesStream_101 (qr_eqm (Option.some.inj eσ9) ?_)
      refine qr_aload_n dX7_takesStream_104 rfl 0 rfl ?_
      refine qr_bipush (v := 16) dX7_takesStream_105 (by decide) ?_
      obtain ⟨r10, er10, h⟩ := qm_bind h
      refine qr_call1 (st1 := [.int (qm_b r10.1)]) rfl (qr_callV (id := 210) (c := 5) (As := [.int 16]) (st := []) rfl (by decide) rfl (ct_X7_takes (l := l) (E := E) σ9 16 er10) qw_932 qw_6 qw_929 qw_931 qs_44 yd_X7_takes (by decide) (by decide) rfl (Nat.le_of_ble_eq_true rfl) dX7_takesStream_107) ?_
      refine qr_if_ne (tgt := 115) dX7_takesStream_110 (by decide) (fun c14 => ?_) (fun c14 => ?_)
      · rw [if_neg c14] at h
        refine qr_aload_n dX7_takesStream_115 rfl 0 rfl ?_
        refine qr_get5 (k := 12) (v := .ref (qm_a E 216)) rfl (by decide) rfl qw_636 dX7_takesStream_116 ?_
        refine qr_aload_n dX7_takesStream_119 rfl 0 rfl ?_
        refine qr_get5 (k := 10) (v := .int (r10.2.1 210 10)) rfl (by decide) rfl qw_634 dX7_takesStream_120 ?_
        refine qr_aload_n dX7_takesStream_123 rfl 0 rfl ?_
        refine qr_get5 (k := 9) (v := .int (r10.2.1 210 9)) rfl (by decide) rfl qw_633 dX7_takesStream_124 ?_
        obtain ⟨c11, h⟩ := qm_chk h
        obtain ⟨σ12, eσ12, h⟩ := qm_bind h
        refine qr_iast rfl c11 dX7_takesStream_127 (qr_eqm (Option.some.inj eσ12) ?_)
        refine qr_aload_n dX7_takesStream_128 rfl 0 rfl ?_
        refine qr_dup dX7_takesStream_129 rfl ?_
        refine qr_get5 (k := 10) (v := .int (σ12.1 210 10)) rfl (by decide) rfl qw_634 dX7_takesStream_130 ?_
        refine qr_iconst (v := 1) dX7_takesStream_133 (by decide) ?_
        refine qr_iadd dX7_takesStream_134 ?_
        obtain ⟨σ13, eσ13, h⟩ := qm_bind h
        refine qr_put5_10 rfl qw_634 dX7_takesStream_135 (qr_eqm (Option.some.inj eσ13) ?_)
        refine qr_iconst (v := 1) dX7_takesStream_138 (by decide) ?_
        obtain rfl := Option.some.inj h
        cases hT
        exact qr_iret dX7_takesStream_139
      · rw [if_pos c14] at h
        refine qr_iconst (v := 0) dX7_takesStream_113 (by decide) ?_
        obtain rfl := Option.some.inj h
        cases hT
        exact qr_iret dX7_takesStream_114
    · rw [if_neg c15] at h
      refine qr_iconst (v := 0) dX7_takesStream_92 (by decide) ?_
      obtain rfl := Option.some.inj h
      cases hT
      exact qr_iret dX7_takesStream_93
  · rw [if_neg c22] at h
    refine qr_aload_n dX7_takesStream_33 rfl 0 rfl ?_
    refine qr_get5 (k := 11) (v := .ref (qm_a E 215)) rfl (by decide) rfl qw_635 dX7_takesStream_34 ?_
    refine qr_iload dX7_takesStream_37 3 rfl ?_
    obtain ⟨c17, h⟩ := qm_chk h
    refine qr_iald rfl c17 dX7_takesStream_39 ?_
    refine qr_aload_n dX7_takesStream_40 rfl 0 rfl ?_
    refine qr_get5 (k := 9) (v := .int (σ.1 210 9)) rfl (by decide) rfl qw_633 dX7_takesStream_41 ?_
    refine qr_icmp_ne (tgt := 54) dX7_takesStream_44 (by decide) (fun c21 => ?_) (fun c21 => ?_)
    · rw [if_neg c21] at h
      obtain ⟨z18, ez18, h⟩ := qm_bind h
      refine qr_iinc (q := 3) (v := z18) (lv' := [(4, .int z18), (0, .ref (qm_a E 210)), (1, .int v1), (3, .int v3)]) dX7_takesStream_54 rfl (Option.some.inj ez18) (by decide) rfl ?_
      refine qr_goto (tgt := 24) dX7_takesStream_57 (by decide) ?_
      obtain rfl := Option.some.inj h
      exact qr_sub [1, 2, 3, 0] rfl hT
    · rw [if_pos c21] at h
      obtain ⟨y20, h1, hx⟩ := qm_bind h
      clear h
      cases hx
      have h := h1
      refine qr_aload_n dX7_takesStream_47 rfl 0 rfl ?_
      refine qr_iload_n dX7_takesStream_48 rfl 2 rfl ?_
      obtain ⟨σ19, eσ19, h⟩ := qm_bind h
      refine qr_put5_8 rfl qw_632 dX7_takesStream_49 (qr_eqm (Option.some.inj eσ19) ?_)
      refine qr_iconst (v := 0) dX7_takesStream_52 (by decide) ?_
      obtain rfl := Option.some.inj h
      cases hT
      exact qr_iret dX7_takesStream_53
def lp_X7_takesStream_24 (σ : qm_M) (v1 : Int32) (v3 : Int32) (v4 : Int32) : Option (Bool × qm_M) := qm_loop (fun s : Int32 => bb_X7_takesStream_24 σ v1 v3 s) 1000 v4
theorem wl_X7_takesStream_24 {l : Launch} {E : qm_E} (σ : qm_M) (v1 : Int32) (v3 : Int32) (v4 : Int32) {x : Bool × qm_M} (h : lp_X7_takesStream_24 σ v1 v3 v4 = some x) {r : Option Value × qm_M} (hT : (fun x r => (some (.int (qm_b x.1)), x.2) = r) x r) : qm_Wp l E kd_X7_takesStream "HungStreamsModel" cX7_takesStream 5 24 [(0, .ref (qm_a E 210)), (1, .int v1), (3, .int v3), (4, .int v4)] [] σ r :=
  qm_loop_T (P := pp_X7_takesStream_24 l E σ v1 v3) (T1 := (fun x r => (some (.int (qm_b x.1)), x.2) = r)) (fun s x h r hT => wb_X7_takesStream_24 (l := l) (E := E) σ v1 v3 s  h hT) h hT
def fn_X7_takesStream (σ : qm_M) (v1 : Int32) : Option (Bool × qm_M) :=
  (fn_X7_here σ ).bind (fun r1 => (some (r1.2.1 210 8)).bind (fun z2 => (fn_X7_takes r1.2 12).bind (fun r3 => if (qm_b r3.1) = 0 then some (false, r3.2) else lp_X7_takesStream_24 r3.2 v1 z2 0)))
set_option maxRecDepth 20000 in
theorem wf_X7_takesStream {l : Launch} {E : qm_E} (σ : qm_M) (v1 : Int32) {x : Bool × qm_M} (h : fn_X7_takesStream σ v1 = some x) {r : Option Value × qm_M} (hT : (fun x r => (some (.int (qm_b x.1)), x.2) = r) x r) : qm_Wp l E kd_X7_takesStream "HungStreamsModel" cX7_takesStream 5 0 [(0, .ref (qm_a E 210)), (1, .int v1)] [] σ r := by
  unfold fn_X7_takesStream at h
  refine qr_aload_n dX7_takesStream_0 rfl 0 rfl ?_
  obtain ⟨r1, er1, h⟩ := qm_bind h
  refine qr_call1 (st1 := [.int r1.1]) rfl (qr_callV (id := 210) (c := 5) (As := []) (st := []) rfl (by decide) rfl (ct_X7_here (l := l) (E := E) σ  er1) qw_920 qw_6 qw_917 qw_919 qs_41 yd_X7_here (by decide) (by decide) rfl (Nat.le_of_ble_eq_true rfl) dX7_takesStream_1) ?_
  refine qr_istore_n (lv' := [(2, .int r1.1), (0, .ref (qm_a E 210)), (1, .int v1)]) dX7_takesStream_4 rfl (by decide) rfl ?_
  refine qr_aload_n dX7_takesStream_5 rfl 1 rfl ?_
  refine qr_get5 (k := 8) (v := .int (r1.2.1 210 8)) rfl (by decide) rfl qw_632 dX7_takesStream_6 ?_
  obtain ⟨z2, ez2, h⟩ := qm_bind h
  refine qr_eqi (Option.some.inj ez2) ?_
  refine qr_istore_n (lv' := [(3, .int z2), (2, .int r1.1), (0, .ref (qm_a E 210)), (1, .int v1)]) dX7_takesStream_9 rfl (by decide) rfl ?_
  refine qr_aload_n dX7_takesStream_10 rfl 2 rfl ?_
  refine qr_bipush (v := 12) dX7_takesStream_11 (by decide) ?_
  obtain ⟨r3, er3, h⟩ := qm_bind h
  refine qr_call1 (st1 := [.int (qm_b r3.1)]) rfl (qr_callV (id := 210) (c := 5) (As := [.int 12]) (st := []) rfl (by decide) rfl (ct_X7_takes (l := l) (E := E) r1.2 12 er3) qw_932 qw_6 qw_929 qw_931 qs_44 yd_X7_takes (by decide) (by decide) rfl (Nat.le_of_ble_eq_true rfl) dX7_takesStream_13) ?_
  refine qr_if_ne (tgt := 21) dX7_takesStream_16 (by decide) (fun c23 => ?_) (fun c23 => ?_)
  · rw [if_neg c23] at h
    refine qr_iconst (v := 0) dX7_takesStream_21 (by decide) ?_
    refine qr_istore (lv' := [(4, .int 0), (3, .int z2), (2, .int r1.1), (0, .ref (qm_a E 210)), (1, .int v1)]) dX7_takesStream_22 (by decide) rfl ?_
    exact qr_sub [3, 4, 1, 0] rfl (wl_X7_takesStream_24 (l := l) (E := E) r3.2 v1 z2 0 h hT)
  · rw [if_pos c23] at h
    refine qr_iconst (v := 0) dX7_takesStream_19 (by decide) ?_
    obtain rfl := Option.some.inj h
    cases hT
    exact qr_iret dX7_takesStream_20
theorem ct_X7_takesStream {l : Launch} {E : qm_E} (σ : qm_M) (v1 : Int32) {x : Bool × qm_M} (h : fn_X7_takesStream σ v1 = some x) : qm_Ct l E kd_X7_takesStream yX7_takesStream cX7_takesStream 5 (some .boolean) [.ref (qm_a E 210), .int v1] σ (some (.int (qm_b x.1)), x.2) := qm_ofWp rfl (Nat.le_of_ble_eq_true rfl) (qm_rtz _) (wf_X7_takesStream σ v1  h rfl)
-- HungStreamsModel.standsIn (I)I
abbrev kd_X7_standsIn : Nat := 1
theorem yd_X7_standsIn : (yX7_standsIn).cls ≠ "java/lang/invoke/MethodHandle" ∧ (yX7_standsIn).cls ≠ "java/lang/invoke/VarHandle" ∧ (parseMethodDescriptor (yX7_standsIn).desc).map (fun d => d.parameters.length) = some 1 := by decide +kernel
abbrev pp_X7_standsIn_4 (l : Launch) (E : qm_E) (σ : qm_M) (v1 : Int32) : (Int32 × Int32) → Option Value × qm_M → Prop := fun s r => qm_Wp l E kd_X7_standsIn "HungStreamsModel" cX7_standsIn 4 4 [(0, .ref (qm_a E 210)), (1, .int v1), (2, .int s.1), (3, .int s.2)] [] σ r
def bb_X7_standsIn_4 (σ : qm_M) (v1 : Int32) (v2 : Int32) (v3 : Int32) : Option ((Int32 × Int32) ⊕ (Int32)) :=
  if (σ.1 210 10) ≤ v3 then (some v2).bind (fun y => some (.inr y)) else if ¬ (v3 < 0 ∨ 12 ≤ v3.toNatClampNeg) then if (σ.1 215 v3.toNatClampNeg) = v1 then if ¬ (v3 < 0 ∨ 12 ≤ v3.toNatClampNeg) then (some (σ.1 217 v3.toNatClampNeg)).bind (fun z5 => (some (v3 + 1)).bind (fun z6 => some (.inl (z5, z6)))) else none else (some (v3 + 1)).bind (fun z3 => some (.inl (v2, z3))) else none
set_option maxRecDepth 20000 in
theorem wb_X7_standsIn_4 {l : Launch} {E : qm_E} (σ : qm_M) (v1 : Int32) (v2 : Int32) (v3 : Int32) {x : (Int32 × Int32) ⊕ (Int32)} (h : bb_X7_standsIn_4 σ v1 v2 v3 = some x) {r : Option Value × qm_M} (hT : (qm_T (pp_X7_standsIn_4 l E σ v1) (fun x r => (some (.int x), σ) = r)) x r) : qm_Wp l E kd_X7_standsIn "HungStreamsModel" cX7_standsIn 4 4 [(0, .ref (qm_a E 210)), (1, .int v1), (2, .int v2), (3, .int v3)] [] σ r := by
  unfold bb_X7_standsIn_4 at h
  refine qr_iload_n dX7_standsIn_4 rfl 3 rfl ?_
  refine qr_aload_n dX7_standsIn_5 rfl 0 rfl ?_
  refine qr_get5 (k := 10) (v := .int (σ.1 210 10)) rfl (by decide) rfl qw_634 dX7_standsIn_6 ?_
  refine qr_icmp_ge (tgt := 39) dX7_standsIn_9 (by decide) (fun c8 => ?_) (fun c8 => ?_)
  · rw [if_pos c8] at h
    obtain ⟨y1, h1, hx⟩ := qm_bind h
    clear h
    cases hx
    have h := h1
    refine qr_iload_n dX7_standsIn_39 rfl 2 rfl ?_
    obtain rfl := Option.some.inj h
    cases hT
    exact qr_iret dX7_standsIn_40
  · rw [if_neg c8] at h
    refine qr_aload_n dX7_standsIn_12 rfl 0 rfl ?_
    refine qr_get5 (k := 11) (v := .ref (qm_a E 215)) rfl (by decide) rfl qw_635 dX7_standsIn_13 ?_
    refine qr_iload_n dX7_standsIn_16 rfl 3 rfl ?_
    obtain ⟨c2, h⟩ := qm_chk h
    refine qr_iald rfl c2 dX7_standsIn_17 ?_
    refine qr_iload_n dX7_standsIn_18 rfl 1 rfl ?_
    refine qr_icmp_ne (tgt := 31) dX7_standsIn_19 (by decide) (fun c7 => ?_) (fun c7 => ?_)
    · rw [if_neg c7] at h
      refine qr_iload_n dX7_standsIn_31 rfl 2 rfl ?_
      refine qr_istore_n (lv' := [(2, .int v2), (0, .ref (qm_a E 210)), (1, .int v1), (3, .int v3)]) dX7_standsIn_32 rfl (by decide) rfl ?_
      obtain ⟨z3, ez3, h⟩ := qm_bind h
      refine qr_iinc (q := 3) (v := z3) (lv' := [(3, .int z3), (2, .int v2), (0, .ref (qm_a E 210)), (1, .int v1)]) dX7_standsIn_33 rfl (Option.some.inj ez3) (by decide) rfl ?_
      refine qr_goto (tgt := 4) dX7_standsIn_36 (by decide) ?_
      obtain rfl := Option.some.inj h
      exact qr_sub [2, 3, 1, 0] rfl hT
    · rw [if_pos c7] at h
      refine qr_aload_n dX7_standsIn_22 rfl 0 rfl ?_
      refine qr_get5 (k := 13) (v := .ref (qm_a E 217)) rfl (by decide) rfl qw_637 dX7_standsIn_23 ?_
      refine qr_iload_n dX7_standsIn_26 rfl 3 rfl ?_
      obtain ⟨c4, h⟩ := qm_chk h
      refine qr_iald rfl c4 dX7_standsIn_27 ?_
      refine qr_goto (tgt := 32) dX7_standsIn_28 (by decide) ?_
      obtain ⟨z5, ez5, h⟩ := qm_bind h
      refine qr_eqi (Option.some.inj ez5) ?_
      refine qr_istore_n (lv' := [(2, .int z5), (0, .ref (qm_a E 210)), (1, .int v1), (3, .int v3)]) dX7_standsIn_32 rfl (by decide) rfl ?_
      obtain ⟨z6, ez6, h⟩ := qm_bind h
      refine qr_iinc (q := 3) (v := z6) (lv' := [(3, .int z6), (2, .int z5), (0, .ref (qm_a E 210)), (1, .int v1)]) dX7_standsIn_33 rfl (Option.some.inj ez6) (by decide) rfl ?_
      refine qr_goto (tgt := 4) dX7_standsIn_36 (by decide) ?_
      obtain rfl := Option.some.inj h
      exact qr_sub [2, 3, 1, 0] rfl hT
def lp_X7_standsIn_4 (σ : qm_M) (v1 : Int32) (v2 : Int32) (v3 : Int32) : Option (Int32) := qm_loop (fun s : Int32 × Int32 => bb_X7_standsIn_4 σ v1 s.1 s.2) 1000 (v2, v3)
theorem wl_X7_standsIn_4 {l : Launch} {E : qm_E} (σ : qm_M) (v1 : Int32) (v2 : Int32) (v3 : Int32) {x : Int32} (h : lp_X7_standsIn_4 σ v1 v2 v3 = some x) {r : Option Value × qm_M} (hT : (fun x r => (some (.int x), σ) = r) x r) : qm_Wp l E kd_X7_standsIn "HungStreamsModel" cX7_standsIn 4 4 [(0, .ref (qm_a E 210)), (1, .int v1), (2, .int v2), (3, .int v3)] [] σ r :=
  qm_loop_T (P := pp_X7_standsIn_4 l E σ v1) (T1 := (fun x r => (some (.int x), σ) = r)) (fun s x h r hT => wb_X7_standsIn_4 (l := l) (E := E) σ v1 s.1 s.2  h hT) h hT
def fn_X7_standsIn (σ : qm_M) (v1 : Int32) : Option (Int32) :=
  lp_X7_standsIn_4 σ v1 0 0
set_option maxRecDepth 20000 in
theorem wf_X7_standsIn {l : Launch} {E : qm_E} (σ : qm_M) (v1 : Int32) {x : Int32} (h : fn_X7_standsIn σ v1 = some x) {r : Option Value × qm_M} (hT : (fun x r => (some (.int x), σ) = r) x r) : qm_Wp l E kd_X7_standsIn "HungStreamsModel" cX7_standsIn 4 0 [(0, .ref (qm_a E 210)), (1, .int v1)] [] σ r := by
  unfold fn_X7_standsIn at h
  refine qr_iconst (v := 0) dX7_standsIn_0 (by decide) ?_
  refine qr_istore_n (lv' := [(2, .int 0), (0, .ref (qm_a E 210)), (1, .int v1)]) dX7_standsIn_1 rfl (by decide) rfl ?_
  refine qr_iconst (v := 0) dX7_standsIn_2 (by decide) ?_
  refine qr_istore_n (lv' := [(3, .int 0), (2, .int 0), (0, .ref (qm_a E 210)), (1, .int v1)]) dX7_standsIn_3 rfl (by decide) rfl ?_
  exact qr_sub [2, 3, 1, 0] rfl (wl_X7_standsIn_4 (l := l) (E := E) σ v1 0 0 h hT)
theorem ct_X7_standsIn {l : Launch} {E : qm_E} (σ : qm_M) (v1 : Int32) {x : Int32} (h : fn_X7_standsIn σ v1 = some x) : qm_Ct l E kd_X7_standsIn yX7_standsIn cX7_standsIn 4 (some .int) [.ref (qm_a E 210), .int v1] σ (some (.int x), σ) := qm_ofWp rfl (Nat.le_of_ble_eq_true rfl) (Or.inl rfl) (wf_X7_standsIn σ v1  h rfl)
-- HungStreamsModel.isRead ()Z
abbrev kd_X7_isRead : Nat := 5
theorem yd_X7_isRead : (yX7_isRead).cls ≠ "java/lang/invoke/MethodHandle" ∧ (yX7_isRead).cls ≠ "java/lang/invoke/VarHandle" ∧ (parseMethodDescriptor (yX7_isRead).desc).map (fun d => d.parameters.length) = some 0 := by decide +kernel
abbrev pp_X7_isRead_14 (l : Launch) (E : qm_E) : (Int32 × Int32 × qm_M) → Option Value × qm_M → Prop := fun s r => qm_Wp l E kd_X7_isRead "HungStreamsModel" cX7_isRead 3 14 [(0, .ref (qm_a E 210)), (1, .int s.1), (2, .int s.2.1)] [] s.2.2 r
def bb_X7_isRead_86 (σ : qm_M) (v1 : Int32) (k0 : Int32) : Option ((Int32 × Int32 × qm_M) ⊕ (Bool × qm_M)) :=
  if k0 = 0 then some (.inl (v1, k0, σ)) else (some (qm_si σ 210 8 ((σ.1 210 8) + 1))).bind (fun σ5 => if ¬ (((σ5.1 210 10) - 1) < 0 ∨ 12 ≤ ((σ5.1 210 10) - 1).toNatClampNeg) then (some (σ5.1 215 ((σ5.1 210 10) - 1).toNatClampNeg)).bind (fun z7 => some (.inl (z7, k0, σ5))) else none)
set_option maxRecDepth 20000 in
theorem wb_X7_isRead_86 {l : Launch} {E : qm_E} (σ : qm_M) (v1 : Int32) (k0 : Int32) {x : (Int32 × Int32 × qm_M) ⊕ (Bool × qm_M)} (h : bb_X7_isRead_86 σ v1 k0 = some x) {r : Option Value × qm_M} (hT : (qm_T (pp_X7_isRead_14 l E) (fun x r => (some (.int (qm_b x.1)), x.2) = r)) x r) : qm_Wp l E kd_X7_isRead "HungStreamsModel" cX7_isRead 3 86 [(0, .ref (qm_a E 210)), (1, .int v1)] [.int k0] σ r := by
  unfold bb_X7_isRead_86 at h
  refine qr_istore_n (lv' := [(2, .int k0), (0, .ref (qm_a E 210)), (1, .int v1)]) dX7_isRead_86 rfl (by decide) rfl ?_
  refine qr_iload_n dX7_isRead_87 rfl 0 rfl ?_
  refine qr_if_eq (tgt := 14) dX7_isRead_88 (by decide) (fun c8 => ?_) (fun c8 => ?_)
  · rw [if_pos c8] at h
    obtain rfl := Option.some.inj h
    exact qr_sub [1, 2, 0] rfl hT
  · rw [if_neg c8] at h
    refine qr_aload_n dX7_isRead_91 rfl 1 rfl ?_
    refine qr_dup dX7_isRead_92 rfl ?_
    refine qr_get5 (k := 8) (v := .int (σ.1 210 8)) rfl (by decide) rfl qw_632 dX7_isRead_93 ?_
    refine qr_iconst (v := 1) dX7_isRead_96 (by decide) ?_
    refine qr_iadd dX7_isRead_97 ?_
    obtain ⟨σ5, eσ5, h⟩ := qm_bind h
    refine qr_put5_8 rfl qw_632 dX7_isRead_98 (qr_eqm (Option.some.inj eσ5) ?_)
    refine qr_aload_n dX7_isRead_101 rfl 1 rfl ?_
    refine qr_get5 (k := 11) (v := .ref (qm_a E 215)) rfl (by decide) rfl qw_635 dX7_isRead_102 ?_
    refine qr_aload_n dX7_isRead_105 rfl 1 rfl ?_
    refine qr_get5 (k := 10) (v := .int (σ5.1 210 10)) rfl (by decide) rfl qw_634 dX7_isRead_106 ?_
    refine qr_iconst (v := 1) dX7_isRead_109 (by decide) ?_
    refine qr_isub dX7_isRead_110 ?_
    obtain ⟨c6, h⟩ := qm_chk h
    refine qr_iald rfl c6 dX7_isRead_111 ?_
    obtain ⟨z7, ez7, h⟩ := qm_bind h
    refine qr_eqi (Option.some.inj ez7) ?_
    refine qr_istore_n (lv' := [(1, .int z7), (2, .int k0), (0, .ref (qm_a E 210))]) dX7_isRead_112 rfl (by decide) rfl ?_
    refine qr_goto (tgt := 14) dX7_isRead_113 (by decide) ?_
    obtain rfl := Option.some.inj h
    exact qr_sub [2, 0, 1] rfl hT
def bb_X7_isRead_62 (σ : qm_M) (v1 : Int32) : Option ((Int32 × Int32 × qm_M) ⊕ (Bool × qm_M)) :=
  (fn_X7_takesStream σ v1).bind (fun r3 => if (qm_b r3.1) = 0 then (some (false, r3.2)).bind (fun y => some (.inr y)) else (fn_X7_here r3.2 ).bind (fun r4 => if r4.1 = 40 then bb_X7_isRead_86 r4.2 v1 1 else bb_X7_isRead_86 r4.2 v1 0))
set_option maxRecDepth 20000 in
theorem wb_X7_isRead_62 {l : Launch} {E : qm_E} (σ : qm_M) (v1 : Int32) {x : (Int32 × Int32 × qm_M) ⊕ (Bool × qm_M)} (h : bb_X7_isRead_62 σ v1 = some x) {r : Option Value × qm_M} (hT : (qm_T (pp_X7_isRead_14 l E) (fun x r => (some (.int (qm_b x.1)), x.2) = r)) x r) : qm_Wp l E kd_X7_isRead "HungStreamsModel" cX7_isRead 3 62 [(0, .ref (qm_a E 210)), (1, .int v1)] [] σ r := by
  unfold bb_X7_isRead_62 at h
  refine qr_aload_n dX7_isRead_62 rfl 0 rfl ?_
  refine qr_iload_n dX7_isRead_63 rfl 1 rfl ?_
  obtain ⟨r3, er3, h⟩ := qm_bind h
  refine qr_call1 (st1 := [.int (qm_b r3.1)]) rfl (qr_callV (id := 210) (c := 5) (As := [.int v1]) (st := []) rfl (by decide) rfl (ct_X7_takesStream (l := l) (E := E) σ v1 er3) qw_928 qw_6 qw_925 qw_927 qs_43 yd_X7_takesStream (by decide) (by decide) rfl (Nat.le_of_ble_eq_true rfl) dX7_isRead_64) ?_
  refine qr_if_ne (tgt := 72) dX7_isRead_67 (by decide) (fun c11 => ?_) (fun c11 => ?_)
  · rw [if_neg c11] at h
    refine qr_aload_n dX7_isRead_72 rfl 0 rfl ?_
    obtain ⟨r4, er4, h⟩ := qm_bind h
    refine qr_call1 (st1 := [.int r4.1]) rfl (qr_callV (id := 210) (c := 5) (As := []) (st := []) rfl (by decide) rfl (ct_X7_here (l := l) (E := E) r3.2  er4) qw_920 qw_6 qw_917 qw_919 qs_41 yd_X7_here (by decide) (by decide) rfl (Nat.le_of_ble_eq_true rfl) dX7_isRead_73) ?_
    refine qr_bipush (v := 40) dX7_isRead_76 (by decide) ?_
    refine qr_icmp_ne (tgt := 85) dX7_isRead_78 (by decide) (fun c9 => ?_) (fun c9 => ?_)
    · rw [if_neg c9] at h
      refine qr_iconst (v := 0) dX7_isRead_85 (by decide) ?_
      exact qr_sub [0, 1] rfl (wb_X7_isRead_86 (l := l) (E := E) r4.2 v1 0 h hT)
    · rw [if_pos c9] at h
      refine qr_iconst (v := 1) dX7_isRead_81 (by decide) ?_
      refine qr_goto (tgt := 86) dX7_isRead_82 (by decide) ?_
      exact qr_sub [0, 1] rfl (wb_X7_isRead_86 (l := l) (E := E) r4.2 v1 1 h hT)
  · rw [if_pos c11] at h
    obtain ⟨y10, h1, hx⟩ := qm_bind h
    clear h
    cases hx
    have h := h1
    refine qr_iconst (v := 0) dX7_isRead_70 (by decide) ?_
    obtain rfl := Option.some.inj h
    cases hT
    exact qr_iret dX7_isRead_71
def bb_X7_isRead_26 (σ : qm_M) (v1 : Int32) (v2 : Int32) : Option ((Int32 × Int32 × qm_M) ⊕ (Bool × qm_M)) :=
  if v2 = 0 then if v1 = 0 then bb_X7_isRead_62 σ v1 else (fn_X7_here σ ).bind (fun r12 => if r12.1 = 41 then (some (qm_si r12.2 210 8 ((r12.2.1 210 8) + 1))).bind (fun σ13 => (fn_X7_standsIn σ13 v1).bind (fun r14 => some (.inl (r14, v2, σ13)))) else bb_X7_isRead_62 r12.2 v1) else bb_X7_isRead_62 σ v1
set_option maxRecDepth 20000 in
theorem wb_X7_isRead_26 {l : Launch} {E : qm_E} (σ : qm_M) (v1 : Int32) (v2 : Int32) {x : (Int32 × Int32 × qm_M) ⊕ (Bool × qm_M)} (h : bb_X7_isRead_26 σ v1 v2 = some x) {r : Option Value × qm_M} (hT : (qm_T (pp_X7_isRead_14 l E) (fun x r => (some (.int (qm_b x.1)), x.2) = r)) x r) : qm_Wp l E kd_X7_isRead "HungStreamsModel" cX7_isRead 3 26 [(0, .ref (qm_a E 210)), (1, .int v1), (2, .int v2)] [] σ r := by
  unfold bb_X7_isRead_26 at h
  refine qr_iload_n dX7_isRead_26 rfl 2 rfl ?_
  refine qr_if_ne (tgt := 62) dX7_isRead_27 (by decide) (fun c17 => ?_) (fun c17 => ?_)
  · rw [if_neg c17] at h
    exact qr_sub [0, 1] rfl (wb_X7_isRead_62 (l := l) (E := E) σ v1 h hT)
  · rw [if_pos c17] at h
    refine qr_iload_n dX7_isRead_30 rfl 1 rfl ?_
    refine qr_if_eq (tgt := 62) dX7_isRead_31 (by decide) (fun c16 => ?_) (fun c16 => ?_)
    · rw [if_pos c16] at h
      exact qr_sub [0, 1] rfl (wb_X7_isRead_62 (l := l) (E := E) σ v1 h hT)
    · rw [if_neg c16] at h
      refine qr_aload_n dX7_isRead_34 rfl 0 rfl ?_
      obtain ⟨r12, er12, h⟩ := qm_bind h
      refine qr_call1 (st1 := [.int r12.1]) rfl (qr_callV (id := 210) (c := 5) (As := []) (st := []) rfl (by decide) rfl (ct_X7_here (l := l) (E := E) σ  er12) qw_920 qw_6 qw_917 qw_919 qs_41 yd_X7_here (by decide) (by decide) rfl (Nat.le_of_ble_eq_true rfl) dX7_isRead_35) ?_
      refine qr_bipush (v := 41) dX7_isRead_38 (by decide) ?_
      refine qr_icmp_ne (tgt := 62) dX7_isRead_40 (by decide) (fun c15 => ?_) (fun c15 => ?_)
      · rw [if_neg c15] at h
        exact qr_sub [0, 1] rfl (wb_X7_isRead_62 (l := l) (E := E) r12.2 v1 h hT)
      · rw [if_pos c15] at h
        refine qr_aload_n dX7_isRead_43 rfl 0 rfl ?_
        refine qr_dup dX7_isRead_44 rfl ?_
        refine qr_get5 (k := 8) (v := .int (r12.2.1 210 8)) rfl (by decide) rfl qw_632 dX7_isRead_45 ?_
        refine qr_iconst (v := 1) dX7_isRead_48 (by decide) ?_
        refine qr_iadd dX7_isRead_49 ?_
        obtain ⟨σ13, eσ13, h⟩ := qm_bind h
        refine qr_put5_8 rfl qw_632 dX7_isRead_50 (qr_eqm (Option.some.inj eσ13) ?_)
        refine qr_aload_n dX7_isRead_53 rfl 0 rfl ?_
        refine qr_iload_n dX7_isRead_54 rfl 1 rfl ?_
        obtain ⟨r14, er14, h⟩ := qm_bind h
        refine qr_call1 (st1 := [.int r14]) rfl (qr_callV (id := 210) (c := 5) (As := [.int v1]) (st := []) rfl (by decide) rfl (ct_X7_standsIn (l := l) (E := E) σ13 v1 er14) qw_924 qw_6 qw_921 qw_923 qs_42 yd_X7_standsIn (by decide) (by decide) rfl (Nat.le_of_ble_eq_true rfl) dX7_isRead_55) ?_
        refine qr_istore_n (lv' := [(1, .int r14), (0, .ref (qm_a E 210)), (2, .int v2)]) dX7_isRead_58 rfl (by decide) rfl ?_
        refine qr_goto (tgt := 14) dX7_isRead_59 (by decide) ?_
        obtain rfl := Option.some.inj h
        exact qr_sub [1, 0, 2] rfl hT
def bb_X7_isRead_14 (σ : qm_M) (v1 : Int32) (v2 : Int32) : Option ((Int32 × Int32 × qm_M) ⊕ (Bool × qm_M)) :=
  if v2 = 0 then (fn_X7_here σ ).bind (fun r18 => if r18.1 = (-1) then (if v1 = 0 then some (true, r18.2) else some (false, r18.2)).bind (fun y => some (.inr y)) else bb_X7_isRead_26 r18.2 v1 v2) else bb_X7_isRead_26 σ v1 v2
set_option maxRecDepth 20000 in
theorem wb_X7_isRead_14 {l : Launch} {E : qm_E} (σ : qm_M) (v1 : Int32) (v2 : Int32) {x : (Int32 × Int32 × qm_M) ⊕ (Bool × qm_M)} (h : bb_X7_isRead_14 σ v1 v2 = some x) {r : Option Value × qm_M} (hT : (qm_T (pp_X7_isRead_14 l E) (fun x r => (some (.int (qm_b x.1)), x.2) = r)) x r) : qm_Wp l E kd_X7_isRead "HungStreamsModel" cX7_isRead 3 14 [(0, .ref (qm_a E 210)), (1, .int v1), (2, .int v2)] [] σ r := by
  unfold bb_X7_isRead_14 at h
  refine qr_iload_n dX7_isRead_14 rfl 2 rfl ?_
  refine qr_if_ne (tgt := 26) dX7_isRead_15 (by decide) (fun c22 => ?_) (fun c22 => ?_)
  · rw [if_neg c22] at h
    exact qr_sub [0, 1, 2] rfl (wb_X7_isRead_26 (l := l) (E := E) σ v1 v2 h hT)
  · rw [if_pos c22] at h
    refine qr_aload_n dX7_isRead_18 rfl 0 rfl ?_
    obtain ⟨r18, er18, h⟩ := qm_bind h
    refine qr_call1 (st1 := [.int r18.1]) rfl (qr_callV (id := 210) (c := 5) (As := []) (st := []) rfl (by decide) rfl (ct_X7_here (l := l) (E := E) σ  er18) qw_920 qw_6 qw_917 qw_919 qs_41 yd_X7_here (by decide) (by decide) rfl (Nat.le_of_ble_eq_true rfl) dX7_isRead_19) ?_
    refine qr_iconst (v := (-1)) dX7_isRead_22 (by decide) ?_
    refine qr_icmp_eq (tgt := 116) dX7_isRead_23 (by decide) (fun c21 => ?_) (fun c21 => ?_)
    · rw [if_pos c21] at h
      obtain ⟨y20, h1, hx⟩ := qm_bind h
      clear h
      cases hx
      have h := h1
      refine qr_iload_n dX7_isRead_116 rfl 1 rfl ?_
      refine qr_if_ne (tgt := 124) dX7_isRead_117 (by decide) (fun c19 => ?_) (fun c19 => ?_)
      · rw [if_neg c19] at h
        refine qr_iconst (v := 0) dX7_isRead_124 (by decide) ?_
        obtain rfl := Option.some.inj h
        cases hT
        exact qr_iret dX7_isRead_125
      · rw [if_pos c19] at h
        refine qr_iconst (v := 1) dX7_isRead_120 (by decide) ?_
        refine qr_goto (tgt := 125) dX7_isRead_121 (by decide) ?_
        obtain rfl := Option.some.inj h
        cases hT
        exact qr_iret dX7_isRead_125
    · rw [if_neg c21] at h
      exact qr_sub [0, 1, 2] rfl (wb_X7_isRead_26 (l := l) (E := E) r18.2 v1 v2 h hT)
def lp_X7_isRead_14 (σ : qm_M) (v1 : Int32) (v2 : Int32) : Option (Bool × qm_M) := qm_loop (fun s : Int32 × Int32 × qm_M => bb_X7_isRead_14 s.2.2 s.1 s.2.1) 1000 (v1, v2, σ)
theorem wl_X7_isRead_14 {l : Launch} {E : qm_E} (σ : qm_M) (v1 : Int32) (v2 : Int32) {x : Bool × qm_M} (h : lp_X7_isRead_14 σ v1 v2 = some x) {r : Option Value × qm_M} (hT : (fun x r => (some (.int (qm_b x.1)), x.2) = r) x r) : qm_Wp l E kd_X7_isRead "HungStreamsModel" cX7_isRead 3 14 [(0, .ref (qm_a E 210)), (1, .int v1), (2, .int v2)] [] σ r :=
  qm_loop_T (P := pp_X7_isRead_14 l E) (T1 := (fun x r => (some (.int (qm_b x.1)), x.2) = r)) (fun s x h r hT => wb_X7_isRead_14 (l := l) (E := E) s.2.2 s.1 s.2.1  h hT) h hT
def fn_X7_isRead (σ : qm_M)  : Option (Bool × qm_M) :=
  (some (qm_si σ 210 10 0)).bind (fun σ1 => (some (qm_si σ1 210 8 0)).bind (fun σ2 => lp_X7_isRead_14 σ2 0 0))
set_option maxRecDepth 20000 in
theorem wf_X7_isRead {l : Launch} {E : qm_E} (σ : qm_M)  {x : Bool × qm_M} (h : fn_X7_isRead σ  = some x) {r : Option Value × qm_M} (hT : (fun x r => (some (.int (qm_b x.1)), x.2) = r) x r) : qm_Wp l E kd_X7_isRead "HungStreamsModel" cX7_isRead 3 0 [(0, .ref (qm_a E 210))] [] σ r := by
  unfold fn_X7_isRead at h
  refine qr_iconst (v := 0) dX7_isRead_0 (by decide) ?_
  refine qr_istore_n (lv' := [(1, .int 0), (0, .ref (qm_a E 210))]) dX7_isRead_1 rfl (by decide) rfl ?_
  refine qr_aload_n dX7_isRead_2 rfl 1 rfl ?_
  refine qr_iconst (v := 0) dX7_isRead_3 (by decide) ?_
  obtain ⟨σ1, eσ1, h⟩ := qm_bind h
  refine qr_put5_10 rfl qw_634 dX7_isRead_4 (qr_eqm (Option.some.inj eσ1) ?_)
  refine qr_aload_n dX7_isRead_7 rfl 1 rfl ?_
  refine qr_iconst (v := 0) dX7_isRead_8 (by decide) ?_
  obtain ⟨σ2, eσ2, h⟩ := qm_bind h
  refine qr_put5_8 rfl qw_632 dX7_isRead_9 (qr_eqm (Option.some.inj eσ2) ?_)
  refine qr_iconst (v := 0) dX7_isRead_12 (by decide) ?_
  refine qr_istore_n (lv' := [(2, .int 0), (1, .int 0), (0, .ref (qm_a E 210))]) dX7_isRead_13 rfl (by decide) rfl ?_
  exact qr_sub [2, 1, 0] rfl (wl_X7_isRead_14 (l := l) (E := E) σ2 0 0 h hT)
theorem ct_X7_isRead {l : Launch} {E : qm_E} (σ : qm_M)  {x : Bool × qm_M} (h : fn_X7_isRead σ  = some x) : qm_Ct l E kd_X7_isRead yX7_isRead cX7_isRead 3 (some .boolean) [.ref (qm_a E 210)] σ (some (.int (qm_b x.1)), x.2) := qm_ofWp rfl (Nat.le_of_ble_eq_true rfl) (qm_rtz _) (wf_X7_isRead σ   h rfl)
-- HungStreamsModel.builds ()I
abbrev kd_X7_builds : Nat := 6
theorem yd_X7_builds : (yX7_builds).cls ≠ "java/lang/invoke/MethodHandle" ∧ (yX7_builds).cls ≠ "java/lang/invoke/VarHandle" ∧ (parseMethodDescriptor (yX7_builds).desc).map (fun d => d.parameters.length) = some 0 := by decide +kernel
abbrev pp_X7_builds_21 (l : Launch) (E : qm_E) : (Int32 × qm_M) → Option Value × qm_M → Prop := fun s r => qm_Wp l E kd_X7_builds "HungStreamsModel" cX7_builds 2 21 [(0, .ref (qm_a E 210)), (1, .int s.1)] [] s.2 r
abbrev pp_X7_builds_43 (l : Launch) (E : qm_E) : (Int32 × qm_M) → Option Value × qm_M → Prop := fun s r => qm_Wp l E kd_X7_builds "HungStreamsModel" cX7_builds 2 43 [(0, .ref (qm_a E 210)), (1, .int s.1)] [] s.2 r
def bb_X7_builds_43 (σ : qm_M) (v1 : Int32) : Option ((Int32 × qm_M) ⊕ (Int32 × qm_M)) :=
  if (σ.1 210 10) ≤ v1 then (some (σ.1 210 10, σ)).bind (fun y => some (.inr y)) else if ¬ (v1 < 0 ∨ 12 ≤ v1.toNatClampNeg) then if ¬ (v1 < 0 ∨ 12 ≤ v1.toNatClampNeg) then (fn_X7_begins σ (σ.1 215 v1.toNatClampNeg) (σ.1 216 v1.toNatClampNeg)).bind (fun r6 => if ¬ (v1 < 0 ∨ 12 ≤ v1.toNatClampNeg) then if ¬ (v1 < 0 ∨ 12 ≤ v1.toNatClampNeg) then (fn_X7_hangs r6 (r6.1 215 v1.toNatClampNeg) (r6.1 217 v1.toNatClampNeg)).bind (fun r9 => (some (v1 + 1)).bind (fun z10 => some (.inl (z10, r9)))) else none else none) else none else none
set_option maxRecDepth 20000 in
theorem wb_X7_builds_43 {l : Launch} {E : qm_E} (σ : qm_M) (v1 : Int32) {x : (Int32 × qm_M) ⊕ (Int32 × qm_M)} (h : bb_X7_builds_43 σ v1 = some x) {r : Option Value × qm_M} (hT : (qm_T (pp_X7_builds_43 l E) (fun x r => (some (.int x.1), x.2) = r)) x r) : qm_Wp l E kd_X7_builds "HungStreamsModel" cX7_builds 2 43 [(0, .ref (qm_a E 210)), (1, .int v1)] [] σ r := by
  unfold bb_X7_builds_43 at h
  refine qr_iload_n dX7_builds_43 rfl 1 rfl ?_
  refine qr_aload_n dX7_builds_44 rfl 0 rfl ?_
  refine qr_get5 (k := 10) (v := .int (σ.1 210 10)) rfl (by decide) rfl qw_634 dX7_builds_45 ?_
  refine qr_icmp_ge (tgt := 89) dX7_builds_48 (by decide) (fun c11 => ?_) (fun c11 => ?_)
  · rw [if_pos c11] at h
    obtain ⟨y3, h1, hx⟩ := qm_bind h
    clear h
    cases hx
    have h := h1
    refine qr_aload_n dX7_builds_89 rfl 0 rfl ?_
    refine qr_get5 (k := 10) (v := .int (σ.1 210 10)) rfl (by decide) rfl qw_634 dX7_builds_90 ?_
    obtain rfl := Option.some.inj h
    cases hT
    exact qr_iret dX7_builds_93
  · rw [if_neg c11] at h
    refine qr_aload_n dX7_builds_51 rfl 0 rfl ?_
    refine qr_aload_n dX7_builds_52 rfl 0 rfl ?_
    refine qr_get5 (k := 11) (v := .ref (qm_a E 215)) rfl (by decide) rfl qw_635 dX7_builds_53 ?_
    refine qr_iload_n dX7_builds_56 rfl 1 rfl ?_
    obtain ⟨c4, h⟩ := qm_chk h
    refine qr_iald rfl c4 dX7_builds_57 ?_
    refine qr_aload_n dX7_builds_58 rfl 0 rfl ?_
    refine qr_get5 (k := 12) (v := .ref (qm_a E 216)) rfl (by decide) rfl qw_636 dX7_builds_59 ?_
    refine qr_iload_n dX7_builds_62 rfl 1 rfl ?_
    obtain ⟨c5, h⟩ := qm_chk h
    refine qr_iald rfl c5 dX7_builds_63 ?_
    obtain ⟨r6, er6, h⟩ := qm_bind h
    refine qr_call1 (st1 := []) rfl (qr_callV (id := 210) (c := 5) (As := [.int (σ.1 215 v1.toNatClampNeg), .int (σ.1 216 v1.toNatClampNeg)]) (st := []) rfl (by decide) rfl (ct_X7_begins (l := l) (E := E) σ (σ.1 215 v1.toNatClampNeg) (σ.1 216 v1.toNatClampNeg) er6) qw_709 qw_6 qw_706 qw_708 qs_11 yd_X7_begins (by decide) (by decide) rfl (Nat.le_of_ble_eq_true rfl) dX7_builds_64) ?_
    refine qr_aload_n dX7_builds_67 rfl 0 rfl ?_
    refine qr_aload_n dX7_builds_68 rfl 0 rfl ?_
    refine qr_get5 (k := 11) (v := .ref (qm_a E 215)) rfl (by decide) rfl qw_635 dX7_builds_69 ?_
    refine qr_iload_n dX7_builds_72 rfl 1 rfl ?_
    obtain ⟨c7, h⟩ := qm_chk h
    refine qr_iald rfl c7 dX7_builds_73 ?_
    refine qr_aload_n dX7_builds_74 rfl 0 rfl ?_
    refine qr_get5 (k := 13) (v := .ref (qm_a E 217)) rfl (by decide) rfl qw_637 dX7_builds_75 ?_
    refine qr_iload_n dX7_builds_78 rfl 1 rfl ?_
    obtain ⟨c8, h⟩ := qm_chk h
    refine qr_iald rfl c8 dX7_builds_79 ?_
    obtain ⟨r9, er9, h⟩ := qm_bind h
    refine qr_call1 (st1 := []) rfl (qr_callV (id := 210) (c := 5) (As := [.int (r6.1 215 v1.toNatClampNeg), .int (r6.1 217 v1.toNatClampNeg)]) (st := []) rfl (by decide) rfl (ct_X7_hangs (l := l) (E := E) r6 (r6.1 215 v1.toNatClampNeg) (r6.1 217 v1.toNatClampNeg) er9) qw_731 qw_6 qw_728 qw_730 qs_16 yd_X7_hangs (by decide) (by decide) rfl (Nat.le_of_ble_eq_true rfl) dX7_builds_80) ?_
    obtain ⟨z10, ez10, h⟩ := qm_bind h
    refine qr_iinc (q := 1) (v := z10) (lv' := [(1, .int z10), (0, .ref (qm_a E 210))]) dX7_builds_83 rfl (Option.some.inj ez10) (by decide) rfl ?_
    refine qr_goto (tgt := 43) dX7_builds_86 (by decide) ?_
    obtain rfl := Option.some.inj h
    exact qr_sub [1, 0] rfl hT
def lp_X7_builds_43 (σ : qm_M) (v1 : Int32) : Option (Int32 × qm_M) := qm_loop (fun s : Int32 × qm_M => bb_X7_builds_43 s.2 s.1) 1000 (v1, σ)
theorem wl_X7_builds_43 {l : Launch} {E : qm_E} (σ : qm_M) (v1 : Int32) {x : Int32 × qm_M} (h : lp_X7_builds_43 σ v1 = some x) {r : Option Value × qm_M} (hT : (fun x r => (some (.int x.1), x.2) = r) x r) : qm_Wp l E kd_X7_builds "HungStreamsModel" cX7_builds 2 43 [(0, .ref (qm_a E 210)), (1, .int v1)] [] σ r :=
  qm_loop_T (P := pp_X7_builds_43 l E) (T1 := (fun x r => (some (.int x.1), x.2) = r)) (fun s x h r hT => wb_X7_builds_43 (l := l) (E := E) s.2 s.1  h hT) h hT
def bb_X7_builds_21 (σ : qm_M) (v1 : Int32) : Option ((Int32 × qm_M) ⊕ (Int32 × qm_M)) :=
  if 208 ≤ v1 then (lp_X7_builds_43 σ 0).bind (fun y => some (.inr y)) else if ¬ (v1 < 0 ∨ 215 ≤ v1.toNatClampNeg) then (some (qm_sl σ 211 v1.toNatClampNeg 0)).bind (fun σ14 => (some (v1 + 1)).bind (fun z15 => some (.inl (z15, σ14)))) else none
set_option maxRecDepth 20000 in
theorem wb_X7_builds_21 {l : Launch} {E : qm_E} (σ : qm_M) (v1 : Int32) {x : (Int32 × qm_M) ⊕ (Int32 × qm_M)} (h : bb_X7_builds_21 σ v1 = some x) {r : Option Value × qm_M} (hT : (qm_T (pp_X7_builds_21 l E) (fun x r => (some (.int x.1), x.2) = r)) x r) : qm_Wp l E kd_X7_builds "HungStreamsModel" cX7_builds 2 21 [(0, .ref (qm_a E 210)), (1, .int v1)] [] σ r := by
  unfold bb_X7_builds_21 at h
  refine qr_iload_n dX7_builds_21 rfl 1 rfl ?_
  refine qr_sipush (v := 208) dX7_builds_22 (by decide) ?_
  refine qr_icmp_ge (tgt := 41) dX7_builds_25 (by decide) (fun c16 => ?_) (fun c16 => ?_)
  · rw [if_pos c16] at h
    obtain ⟨y12, h1, hx⟩ := qm_bind h
    clear h
    cases hx
    have h := h1
    refine qr_iconst (v := 0) dX7_builds_41 (by decide) ?_
    refine qr_istore_n (lv' := [(1, .int 0), (0, .ref (qm_a E 210))]) dX7_builds_42 rfl (by decide) rfl ?_
    exact qr_sub [1, 0] rfl (wl_X7_builds_43 (l := l) (E := E) σ 0 h hT)
  · rw [if_neg c16] at h
    refine qr_aload_n dX7_builds_28 rfl 0 rfl ?_
    refine qr_get5 (k := 0) (v := .ref (qm_a E 211)) rfl (by decide) rfl qw_624 dX7_builds_29 ?_
    refine qr_iload_n dX7_builds_32 rfl 1 rfl ?_
    refine qr_lconst (v := 0) dX7_builds_33 (by decide) ?_
    obtain ⟨c13, h⟩ := qm_chk h
    obtain ⟨σ14, eσ14, h⟩ := qm_bind h
    refine qr_last rfl c13 dX7_builds_34 (qr_eqm (Option.some.inj eσ14) ?_)
    obtain ⟨z15, ez15, h⟩ := qm_bind h
    refine qr_iinc (q := 1) (v := z15) (lv' := [(1, .int z15), (0, .ref (qm_a E 210))]) dX7_builds_35 rfl (Option.some.inj ez15) (by decide) rfl ?_
    refine qr_goto (tgt := 21) dX7_builds_38 (by decide) ?_
    obtain rfl := Option.some.inj h
    exact qr_sub [1, 0] rfl hT
def lp_X7_builds_21 (σ : qm_M) (v1 : Int32) : Option (Int32 × qm_M) := qm_loop (fun s : Int32 × qm_M => bb_X7_builds_21 s.2 s.1) 1000 (v1, σ)
theorem wl_X7_builds_21 {l : Launch} {E : qm_E} (σ : qm_M) (v1 : Int32) {x : Int32 × qm_M} (h : lp_X7_builds_21 σ v1 = some x) {r : Option Value × qm_M} (hT : (fun x r => (some (.int x.1), x.2) = r) x r) : qm_Wp l E kd_X7_builds "HungStreamsModel" cX7_builds 2 21 [(0, .ref (qm_a E 210)), (1, .int v1)] [] σ r :=
  qm_loop_T (P := pp_X7_builds_21 l E) (T1 := (fun x r => (some (.int x.1), x.2) = r)) (fun s x h r hT => wb_X7_builds_21 (l := l) (E := E) s.2 s.1  h hT) h hT
def fn_X7_builds (σ : qm_M)  : Option (Int32 × qm_M) :=
  (fn_X7_isRead σ ).bind (fun r1 => if (qm_b r1.1) = 0 then some ((-10) - (r1.2.1 210 8), r1.2) else (fn_X7_keep r1.2 ).bind (fun r2 => lp_X7_builds_21 r2 0))
set_option maxRecDepth 20000 in
theorem wf_X7_builds {l : Launch} {E : qm_E} (σ : qm_M)  {x : Int32 × qm_M} (h : fn_X7_builds σ  = some x) {r : Option Value × qm_M} (hT : (fun x r => (some (.int x.1), x.2) = r) x r) : qm_Wp l E kd_X7_builds "HungStreamsModel" cX7_builds 2 0 [(0, .ref (qm_a E 210))] [] σ r := by
  unfold fn_X7_builds at h
  refine qr_aload_n dX7_builds_0 rfl 0 rfl ?_
  obtain ⟨r1, er1, h⟩ := qm_bind h
  refine qr_call1 (st1 := [.int (qm_b r1.1)]) rfl (qr_callV (id := 210) (c := 5) (As := []) (st := []) rfl (by decide) rfl (ct_X7_isRead (l := l) (E := E) σ  er1) qw_916 qw_6 qw_913 qw_915 qs_40 yd_X7_isRead (by decide) (by decide) rfl (Nat.le_of_ble_eq_true rfl) dX7_builds_1) ?_
  refine qr_if_ne (tgt := 15) dX7_builds_4 (by decide) (fun c17 => ?_) (fun c17 => ?_)
  · rw [if_neg c17] at h
    refine qr_aload_n dX7_builds_15 rfl 0 rfl ?_
    obtain ⟨r2, er2, h⟩ := qm_bind h
    refine qr_call1 (st1 := []) rfl (qr_callV (id := 210) (c := 5) (As := []) (st := []) rfl (by decide) rfl (ct_X7_keep (l := l) (E := E) r1.2  er2) qw_705 qw_6 qw_702 qw_704 qs_10 yd_X7_keep (by decide) (by decide) rfl (Nat.le_of_ble_eq_true rfl) dX7_builds_16) ?_
    refine qr_iconst (v := 0) dX7_builds_19 (by decide) ?_
    refine qr_istore_n (lv' := [(1, .int 0), (0, .ref (qm_a E 210))]) dX7_builds_20 rfl (by decide) rfl ?_
    exact qr_sub [1, 0] rfl (wl_X7_builds_21 (l := l) (E := E) r2 0 h hT)
  · rw [if_pos c17] at h
    refine qr_bipush (v := (-10)) dX7_builds_7 (by decide) ?_
    refine qr_aload_n dX7_builds_9 rfl 0 rfl ?_
    refine qr_get5 (k := 8) (v := .int (r1.2.1 210 8)) rfl (by decide) rfl qw_632 dX7_builds_10 ?_
    refine qr_isub dX7_builds_13 ?_
    obtain rfl := Option.some.inj h
    cases hT
    exact qr_iret dX7_builds_14
theorem ct_X7_builds {l : Launch} {E : qm_E} (σ : qm_M)  {x : Int32 × qm_M} (h : fn_X7_builds σ  = some x) : qm_Ct l E kd_X7_builds yX7_builds cX7_builds 2 (some .int) [.ref (qm_a E 210)] σ (some (.int x.1), x.2) := qm_ofWp rfl (Nat.le_of_ble_eq_true rfl) (Or.inl rfl) (wf_X7_builds σ   h rfl)
-- HungStreamsModel.shows (I)V
abbrev kd_X7_shows : Nat := 1
theorem yd_X7_shows : (yX7_shows).cls ≠ "java/lang/invoke/MethodHandle" ∧ (yX7_shows).cls ≠ "java/lang/invoke/VarHandle" ∧ (parseMethodDescriptor (yX7_shows).desc).map (fun d => d.parameters.length) = some 1 := by decide +kernel
def fn_X7_shows (σ : qm_M) (v1 : Int32) : Option (qm_M) :=
  if (σ.1 210 14) = (σ.1 210 16) then (some (qm_si σ 210 15 v1)).bind (fun σ3 => (some (qm_si σ3 210 14 ((σ3.1 210 14) + 1))).bind (fun σ4 => some σ4)) else (some (qm_si σ 210 15 (σ.1 210 15))).bind (fun σ1 => (some (qm_si σ1 210 14 ((σ1.1 210 14) + 1))).bind (fun σ2 => some σ2))
set_option maxRecDepth 20000 in
theorem wf_X7_shows {l : Launch} {E : qm_E} (σ : qm_M) (v1 : Int32) {x : qm_M} (h : fn_X7_shows σ v1 = some x) {r : Option Value × qm_M} (hT : (fun x r => (none, x) = r) x r) : qm_Wp l E kd_X7_shows "HungStreamsModel" cX7_shows 2 0 [(0, .ref (qm_a E 210)), (1, .int v1)] [] σ r := by
  unfold fn_X7_shows at h
  refine qr_aload_n dX7_shows_0 rfl 0 rfl ?_
  refine qr_aload_n dX7_shows_1 rfl 0 rfl ?_
  refine qr_get5 (k := 14) (v := .int (σ.1 210 14)) rfl (by decide) rfl qw_638 dX7_shows_2 ?_
  refine qr_aload_n dX7_shows_5 rfl 0 rfl ?_
  refine qr_get5 (k := 16) (v := .int (σ.1 210 16)) rfl (by decide) rfl qw_640 dX7_shows_6 ?_
  refine qr_icmp_ne (tgt := 16) dX7_shows_9 (by decide) (fun c5 => ?_) (fun c5 => ?_)
  · rw [if_neg c5] at h
    refine qr_aload_n dX7_shows_16 rfl 0 rfl ?_
    refine qr_get5 (k := 15) (v := .int (σ.1 210 15)) rfl (by decide) rfl qw_639 dX7_shows_17 ?_
    obtain ⟨σ1, eσ1, h⟩ := qm_bind h
    refine qr_put5_15 rfl qw_639 dX7_shows_20 (qr_eqm (Option.some.inj eσ1) ?_)
    refine qr_aload_n dX7_shows_23 rfl 0 rfl ?_
    refine qr_dup dX7_shows_24 rfl ?_
    refine qr_get5 (k := 14) (v := .int (σ1.1 210 14)) rfl (by decide) rfl qw_638 dX7_shows_25 ?_
    refine qr_iconst (v := 1) dX7_shows_28 (by decide) ?_
    refine qr_iadd dX7_shows_29 ?_
    obtain ⟨σ2, eσ2, h⟩ := qm_bind h
    refine qr_put5_14 rfl qw_638 dX7_shows_30 (qr_eqm (Option.some.inj eσ2) ?_)
    obtain rfl := Option.some.inj h
    cases hT
    exact qr_vret dX7_shows_33
  · rw [if_pos c5] at h
    refine qr_iload_n dX7_shows_12 rfl 1 rfl ?_
    refine qr_goto (tgt := 20) dX7_shows_13 (by decide) ?_
    obtain ⟨σ3, eσ3, h⟩ := qm_bind h
    refine qr_put5_15 rfl qw_639 dX7_shows_20 (qr_eqm (Option.some.inj eσ3) ?_)
    refine qr_aload_n dX7_shows_23 rfl 0 rfl ?_
    refine qr_dup dX7_shows_24 rfl ?_
    refine qr_get5 (k := 14) (v := .int (σ3.1 210 14)) rfl (by decide) rfl qw_638 dX7_shows_25 ?_
    refine qr_iconst (v := 1) dX7_shows_28 (by decide) ?_
    refine qr_iadd dX7_shows_29 ?_
    obtain ⟨σ4, eσ4, h⟩ := qm_bind h
    refine qr_put5_14 rfl qw_638 dX7_shows_30 (qr_eqm (Option.some.inj eσ4) ?_)
    obtain rfl := Option.some.inj h
    cases hT
    exact qr_vret dX7_shows_33
theorem ct_X7_shows {l : Launch} {E : qm_E} (σ : qm_M) (v1 : Int32) {x : qm_M} (h : fn_X7_shows σ v1 = some x) : qm_Ct l E kd_X7_shows yX7_shows cX7_shows 2 none [.ref (qm_a E 210), .int v1] σ (none, x) := qm_ofWp rfl (Nat.le_of_ble_eq_true rfl) (rfl) (wf_X7_shows σ v1  h rfl)
-- HungStreamsModel.showsNumber (I)V
abbrev kd_X7_showsNumber : Nat := 2
theorem yd_X7_showsNumber : (yX7_showsNumber).cls ≠ "java/lang/invoke/MethodHandle" ∧ (yX7_showsNumber).cls ≠ "java/lang/invoke/VarHandle" ∧ (parseMethodDescriptor (yX7_showsNumber).desc).map (fun d => d.parameters.length) = some 1 := by decide +kernel
def bb_X7_showsNumber_17 (σ : qm_M) (v1 : Int32) : Option (qm_M) :=
  (fn_X7_shows σ (48 + (v1 - v1 / 10 * 10))).bind (fun r1 => some r1)
set_option maxRecDepth 20000 in
theorem wb_X7_showsNumber_17 {l : Launch} {E : qm_E} (σ : qm_M) (v1 : Int32) {x : qm_M} (h : bb_X7_showsNumber_17 σ v1 = some x) {r : Option Value × qm_M} (hT : (fun x r => (none, x) = r) x r) : qm_Wp l E kd_X7_showsNumber "HungStreamsModel" cX7_showsNumber 2 17 [(0, .ref (qm_a E 210)), (1, .int v1)] [] σ r := by
  unfold bb_X7_showsNumber_17 at h
  refine qr_aload_n dX7_showsNumber_17 rfl 0 rfl ?_
  refine qr_bipush (v := 48) dX7_showsNumber_18 (by decide) ?_
  refine qr_iload_n dX7_showsNumber_20 rfl 1 rfl ?_
  refine qr_bipush (v := 10) dX7_showsNumber_21 (by decide) ?_
  refine qr_irem dX7_showsNumber_23 (by decide) ?_
  refine qr_iadd dX7_showsNumber_24 ?_
  obtain ⟨r1, er1, h⟩ := qm_bind h
  refine qr_call1 (st1 := []) rfl (qr_callV (id := 210) (c := 5) (As := [.int (48 + (v1 - v1 / 10 * 10))]) (st := []) rfl (by decide) rfl (ct_X7_shows (l := l) (E := E) σ (48 + (v1 - v1 / 10 * 10)) er1) qw_958 qw_6 qw_955 qw_957 qs_49 yd_X7_shows (by decide) (by decide) rfl (Nat.le_of_ble_eq_true rfl) dX7_showsNumber_25) ?_
  obtain rfl := Option.some.inj h
  cases hT
  exact qr_vret dX7_showsNumber_28
def fn_X7_showsNumber (σ : qm_M) (v1 : Int32) : Option (qm_M) :=
  if v1 ≤ 9 then bb_X7_showsNumber_17 σ v1 else (fn_X7_shows σ (48 + (v1 / 10))).bind (fun r2 => bb_X7_showsNumber_17 r2 v1)
set_option maxRecDepth 20000 in
theorem wf_X7_showsNumber {l : Launch} {E : qm_E} (σ : qm_M) (v1 : Int32) {x : qm_M} (h : fn_X7_showsNumber σ v1 = some x) {r : Option Value × qm_M} (hT : (fun x r => (none, x) = r) x r) : qm_Wp l E kd_X7_showsNumber "HungStreamsModel" cX7_showsNumber 2 0 [(0, .ref (qm_a E 210)), (1, .int v1)] [] σ r := by
  unfold fn_X7_showsNumber at h
  refine qr_iload_n dX7_showsNumber_0 rfl 1 rfl ?_
  refine qr_bipush (v := 9) dX7_showsNumber_1 (by decide) ?_
  refine qr_icmp_le (tgt := 17) dX7_showsNumber_3 (by decide) (fun c3 => ?_) (fun c3 => ?_)
  · rw [if_pos c3] at h
    exact qr_sub [0, 1] rfl (wb_X7_showsNumber_17 (l := l) (E := E) σ v1 h hT)
  · rw [if_neg c3] at h
    refine qr_aload_n dX7_showsNumber_6 rfl 0 rfl ?_
    refine qr_bipush (v := 48) dX7_showsNumber_7 (by decide) ?_
    refine qr_iload_n dX7_showsNumber_9 rfl 1 rfl ?_
    refine qr_bipush (v := 10) dX7_showsNumber_10 (by decide) ?_
    refine qr_idiv dX7_showsNumber_12 (by decide) ?_
    refine qr_iadd dX7_showsNumber_13 ?_
    obtain ⟨r2, er2, h⟩ := qm_bind h
    refine qr_call1 (st1 := []) rfl (qr_callV (id := 210) (c := 5) (As := [.int (48 + (v1 / 10))]) (st := []) rfl (by decide) rfl (ct_X7_shows (l := l) (E := E) σ (48 + (v1 / 10)) er2) qw_958 qw_6 qw_955 qw_957 qs_49 yd_X7_shows (by decide) (by decide) rfl (Nat.le_of_ble_eq_true rfl) dX7_showsNumber_14) ?_
    exact qr_sub [0, 1] rfl (wb_X7_showsNumber_17 (l := l) (E := E) r2 v1 h hT)
theorem ct_X7_showsNumber {l : Launch} {E : qm_E} (σ : qm_M) (v1 : Int32) {x : qm_M} (h : fn_X7_showsNumber σ v1 = some x) : qm_Ct l E kd_X7_showsNumber yX7_showsNumber cX7_showsNumber 2 none [.ref (qm_a E 210), .int v1] σ (none, x) := qm_ofWp rfl (Nat.le_of_ble_eq_true rfl) (rfl) (wf_X7_showsNumber σ v1  h rfl)
-- HungStreamsModel.nextChild (II)I
abbrev kd_X7_nextChild : Nat := 4
theorem yd_X7_nextChild : (yX7_nextChild).cls ≠ "java/lang/invoke/MethodHandle" ∧ (yX7_nextChild).cls ≠ "java/lang/invoke/VarHandle" ∧ (parseMethodDescriptor (yX7_nextChild).desc).map (fun d => d.parameters.length) = some 2 := by decide +kernel
abbrev pp_X7_nextChild_4 (l : Launch) (E : qm_E) (σ : qm_M) (v1 : Int32) : Int32 → Option Value × qm_M → Prop := fun s r => qm_Wp l E kd_X7_nextChild "HungStreamsModel" cX7_nextChild 4 4 [(0, .ref (qm_a E 210)), (1, .int v1), (3, .int s)] [] σ r
def bb_X7_nextChild_4 (σ : qm_M) (v1 : Int32) (v3 : Int32) : Option ((Int32) ⊕ (Int32)) :=
  if 12 < v3 then (some (-1)).bind (fun y => some (.inr y)) else (fn_X7_isChild σ v3 v1).bind (fun r3 => if (qm_b r3) = 0 then (some (v3 + 1)).bind (fun z4 => some (.inl z4)) else (some v3).bind (fun y => some (.inr y)))
set_option maxRecDepth 20000 in
theorem wb_X7_nextChild_4 {l : Launch} {E : qm_E} (σ : qm_M) (v1 : Int32) (v3 : Int32) {x : (Int32) ⊕ (Int32)} (h : bb_X7_nextChild_4 σ v1 v3 = some x) {r : Option Value × qm_M} (hT : (qm_T (pp_X7_nextChild_4 l E σ v1) (fun x r => (some (.int x), σ) = r)) x r) : qm_Wp l E kd_X7_nextChild "HungStreamsModel" cX7_nextChild 4 4 [(0, .ref (qm_a E 210)), (1, .int v1), (3, .int v3)] [] σ r := by
  unfold bb_X7_nextChild_4 at h
  refine qr_iload_n dX7_nextChild_4 rfl 2 rfl ?_
  refine qr_bipush (v := 12) dX7_nextChild_5 (by decide) ?_
  refine qr_icmp_gt (tgt := 27) dX7_nextChild_7 (by decide) (fun c7 => ?_) (fun c7 => ?_)
  · rw [if_pos c7] at h
    obtain ⟨y2, h1, hx⟩ := qm_bind h
    clear h
    cases hx
    have h := h1
    refine qr_iconst (v := (-1)) dX7_nextChild_27 (by decide) ?_
    obtain rfl := Option.some.inj h
    cases hT
    exact qr_iret dX7_nextChild_28
  · rw [if_neg c7] at h
    refine qr_aload_n dX7_nextChild_10 rfl 0 rfl ?_
    refine qr_iload_n dX7_nextChild_11 rfl 2 rfl ?_
    refine qr_iload_n dX7_nextChild_12 rfl 1 rfl ?_
    obtain ⟨r3, er3, h⟩ := qm_bind h
    refine qr_call1 (st1 := [.int (qm_b r3)]) rfl (qr_callV (id := 210) (c := 5) (As := [.int v3, .int v1]) (st := []) rfl (by decide) rfl (ct_X7_isChild (l := l) (E := E) σ v3 v1 er3) qw_723 qw_6 qw_720 qw_722 qs_14 yd_X7_isChild (by decide) (by decide) rfl (Nat.le_of_ble_eq_true rfl) dX7_nextChild_13) ?_
    refine qr_if_eq (tgt := 21) dX7_nextChild_16 (by decide) (fun c6 => ?_) (fun c6 => ?_)
    · rw [if_pos c6] at h
      obtain ⟨z4, ez4, h⟩ := qm_bind h
      refine qr_iinc (q := 2) (v := z4) (lv' := [(3, .int z4), (0, .ref (qm_a E 210)), (1, .int v1)]) dX7_nextChild_21 rfl (Option.some.inj ez4) (by decide) rfl ?_
      refine qr_goto (tgt := 4) dX7_nextChild_24 (by decide) ?_
      obtain rfl := Option.some.inj h
      exact qr_sub [1, 2, 0] rfl hT
    · rw [if_neg c6] at h
      obtain ⟨y5, h1, hx⟩ := qm_bind h
      clear h
      cases hx
      have h := h1
      refine qr_iload_n dX7_nextChild_19 rfl 2 rfl ?_
      obtain rfl := Option.some.inj h
      cases hT
      exact qr_iret dX7_nextChild_20
def lp_X7_nextChild_4 (σ : qm_M) (v1 : Int32) (v3 : Int32) : Option (Int32) := qm_loop (fun s : Int32 => bb_X7_nextChild_4 σ v1 s) 1000 v3
theorem wl_X7_nextChild_4 {l : Launch} {E : qm_E} (σ : qm_M) (v1 : Int32) (v3 : Int32) {x : Int32} (h : lp_X7_nextChild_4 σ v1 v3 = some x) {r : Option Value × qm_M} (hT : (fun x r => (some (.int x), σ) = r) x r) : qm_Wp l E kd_X7_nextChild "HungStreamsModel" cX7_nextChild 4 4 [(0, .ref (qm_a E 210)), (1, .int v1), (3, .int v3)] [] σ r :=
  qm_loop_T (P := pp_X7_nextChild_4 l E σ v1) (T1 := (fun x r => (some (.int x), σ) = r)) (fun s x h r hT => wb_X7_nextChild_4 (l := l) (E := E) σ v1 s  h hT) h hT
def fn_X7_nextChild (σ : qm_M) (v1 : Int32) (v2 : Int32) : Option (Int32) :=
  (some (v2 + 1)).bind (fun z1 => lp_X7_nextChild_4 σ v1 z1)
set_option maxRecDepth 20000 in
theorem wf_X7_nextChild {l : Launch} {E : qm_E} (σ : qm_M) (v1 : Int32) (v2 : Int32) {x : Int32} (h : fn_X7_nextChild σ v1 v2 = some x) {r : Option Value × qm_M} (hT : (fun x r => (some (.int x), σ) = r) x r) : qm_Wp l E kd_X7_nextChild "HungStreamsModel" cX7_nextChild 4 0 [(0, .ref (qm_a E 210)), (1, .int v1), (2, .int v2)] [] σ r := by
  unfold fn_X7_nextChild at h
  refine qr_iload_n dX7_nextChild_0 rfl 2 rfl ?_
  refine qr_iconst (v := 1) dX7_nextChild_1 (by decide) ?_
  refine qr_iadd dX7_nextChild_2 ?_
  obtain ⟨z1, ez1, h⟩ := qm_bind h
  refine qr_eqi (Option.some.inj ez1) ?_
  refine qr_istore_n (lv' := [(3, .int z1), (0, .ref (qm_a E 210)), (1, .int v1), (2, .int v2)]) dX7_nextChild_3 rfl (by decide) rfl ?_
  exact qr_sub [1, 2, 0] rfl (wl_X7_nextChild_4 (l := l) (E := E) σ v1 z1 h hT)
theorem ct_X7_nextChild {l : Launch} {E : qm_E} (σ : qm_M) (v1 : Int32) (v2 : Int32) {x : Int32} (h : fn_X7_nextChild σ v1 v2 = some x) : qm_Ct l E kd_X7_nextChild yX7_nextChild cX7_nextChild 4 (some .int) [.ref (qm_a E 210), .int v1, .int v2] σ (some (.int x), σ) := qm_ofWp rfl (Nat.le_of_ble_eq_true rfl) (Or.inl rfl) (wf_X7_nextChild σ v1 v2  h rfl)
-- HungStreamsModel.showsAll ()V
abbrev kd_X7_showsAll : Nat := 5
theorem yd_X7_showsAll : (yX7_showsAll).cls ≠ "java/lang/invoke/MethodHandle" ∧ (yX7_showsAll).cls ≠ "java/lang/invoke/VarHandle" ∧ (parseMethodDescriptor (yX7_showsAll).desc).map (fun d => d.parameters.length) = some 0 := by decide +kernel
abbrev pp_X7_showsAll_7 (l : Launch) (E : qm_E) : (Int32 × qm_M) → Option Value × qm_M → Prop := fun s r => qm_Wp l E kd_X7_showsAll "HungStreamsModel" cX7_showsAll 3 7 [(0, .ref (qm_a E 210)), (1, .int s.1)] [] s.2 r
abbrev pp_X7_showsAll_52 (l : Launch) (E : qm_E) : (Int32 × Int32 × qm_M) → Option Value × qm_M → Prop := fun s r => qm_Wp l E kd_X7_showsAll "HungStreamsModel" cX7_showsAll 3 52 [(0, .ref (qm_a E 210)), (1, .int s.1), (2, .int s.2.1)] [] s.2.2 r
def bb_X7_showsAll_52 (σ : qm_M) (v1 : Int32) (v2 : Int32) : Option ((Int32 × Int32 × qm_M) ⊕ ((Int32 × qm_M) ⊕ (qm_M))) :=
  if v2 = (-1) then if v1 = 0 then (some (.inl (v2, σ))).bind (fun y => some (.inr y)) else (fn_X7_parent σ v1).bind (fun r10 => (fn_X7_nextChild σ r10 v1).bind (fun r11 => (fn_X7_parent σ v1).bind (fun r12 => if r11 = (-1) then if r12 = 0 then some (.inl (r12, r11, σ)) else (fn_X7_shows σ 41).bind (fun r13 => some (.inl (r12, r11, r13))) else (fn_X7_shows σ 32).bind (fun r15 => some (.inl (r12, r11, r15)))))) else (some (.inl (v2, σ))).bind (fun y => some (.inr y))
set_option maxRecDepth 20000 in
theorem wb_X7_showsAll_52 {l : Launch} {E : qm_E} (σ : qm_M) (v1 : Int32) (v2 : Int32) {x : (Int32 × Int32 × qm_M) ⊕ ((Int32 × qm_M) ⊕ (qm_M))} (h : bb_X7_showsAll_52 σ v1 v2 = some x) {r : Option Value × qm_M} (hT : (qm_T (pp_X7_showsAll_52 l E) (qm_T (pp_X7_showsAll_7 l E) (fun x r => (none, x) = r))) x r) : qm_Wp l E kd_X7_showsAll "HungStreamsModel" cX7_showsAll 3 52 [(0, .ref (qm_a E 210)), (1, .int v1), (2, .int v2)] [] σ r := by
  unfold bb_X7_showsAll_52 at h
  refine qr_iload_n dX7_showsAll_52 rfl 2 rfl ?_
  refine qr_iconst (v := (-1)) dX7_showsAll_53 (by decide) ?_
  refine qr_icmp_ne (tgt := 105) dX7_showsAll_54 (by decide) (fun c18 => ?_) (fun c18 => ?_)
  · rw [if_neg c18] at h
    obtain ⟨y8, h1, hx⟩ := qm_bind h
    clear h
    cases hx
    have h := h1
    refine qr_iload_n dX7_showsAll_105 rfl 2 rfl ?_
    refine qr_istore_n (lv' := [(1, .int v2), (0, .ref (qm_a E 210)), (2, .int v2)]) dX7_showsAll_106 rfl (by decide) rfl ?_
    refine qr_goto (tgt := 7) dX7_showsAll_107 (by decide) ?_
    obtain rfl := Option.some.inj h
    exact qr_sub [1, 0] rfl hT
  · rw [if_pos c18] at h
    refine qr_iload_n dX7_showsAll_57 rfl 1 rfl ?_
    refine qr_if_eq (tgt := 105) dX7_showsAll_58 (by decide) (fun c17 => ?_) (fun c17 => ?_)
    · rw [if_pos c17] at h
      obtain ⟨y9, h1, hx⟩ := qm_bind h
      clear h
      cases hx
      have h := h1
      refine qr_iload_n dX7_showsAll_105 rfl 2 rfl ?_
      refine qr_istore_n (lv' := [(1, .int v2), (0, .ref (qm_a E 210)), (2, .int v2)]) dX7_showsAll_106 rfl (by decide) rfl ?_
      refine qr_goto (tgt := 7) dX7_showsAll_107 (by decide) ?_
      obtain rfl := Option.some.inj h
      exact qr_sub [1, 0] rfl hT
    · rw [if_neg c17] at h
      refine qr_aload_n dX7_showsAll_61 rfl 0 rfl ?_
      refine qr_aload_n dX7_showsAll_62 rfl 0 rfl ?_
      refine qr_iload_n dX7_showsAll_63 rfl 1 rfl ?_
      obtain ⟨r10, er10, h⟩ := qm_bind h
      refine qr_call1 (st1 := [.int r10, .ref (qm_a E 210)]) rfl (qr_callV (id := 210) (c := 5) (As := [.int v1]) (st := [.ref (qm_a E 210)]) rfl (by decide) rfl (ct_X7_parent (l := l) (E := E) σ v1 er10) qw_727 qw_6 qw_724 qw_726 qs_15 yd_X7_parent (by decide) (by decide) rfl (Nat.le_of_ble_eq_true rfl) dX7_showsAll_64) ?_
      refine qr_iload_n dX7_showsAll_67 rfl 1 rfl ?_
      obtain ⟨r11, er11, h⟩ := qm_bind h
      refine qr_call1 (st1 := [.int r11]) rfl (qr_callV (id := 210) (c := 5) (As := [.int r10, .int v1]) (st := []) rfl (by decide) rfl (ct_X7_nextChild (l := l) (E := E) σ r10 v1 er11) qw_950 qw_6 qw_947 qw_949 qs_47 yd_X7_nextChild (by decide) (by decide) rfl (Nat.le_of_ble_eq_true rfl) dX7_showsAll_68) ?_
      refine qr_istore_n (lv' := [(2, .int r11), (0, .ref (qm_a E 210)), (1, .int v1)]) dX7_showsAll_71 rfl (by decide) rfl ?_
      refine qr_aload_n dX7_showsAll_72 rfl 1 rfl ?_
      refine qr_iload_n dX7_showsAll_73 rfl 2 rfl ?_
      obtain ⟨r12, er12, h⟩ := qm_bind h
      refine qr_call1 (st1 := [.int r12]) rfl (qr_callV (id := 210) (c := 5) (As := [.int v1]) (st := []) rfl (by decide) rfl (ct_X7_parent (l := l) (E := E) σ v1 er12) qw_727 qw_6 qw_724 qw_726 qs_15 yd_X7_parent (by decide) (by decide) rfl (Nat.le_of_ble_eq_true rfl) dX7_showsAll_74) ?_
      refine qr_istore_n (lv' := [(1, .int r12), (2, .int r11), (0, .ref (qm_a E 210))]) dX7_showsAll_77 rfl (by decide) rfl ?_
      refine qr_iload_n dX7_showsAll_78 rfl 1 rfl ?_
      refine qr_iconst (v := (-1)) dX7_showsAll_79 (by decide) ?_
      refine qr_icmp_eq (tgt := 92) dX7_showsAll_80 (by decide) (fun c16 => ?_) (fun c16 => ?_)
      · rw [if_pos c16] at h
        refine qr_iload_n dX7_showsAll_92 rfl 0 rfl ?_
        refine qr_if_eq (tgt := 52) dX7_showsAll_93 (by decide) (fun c14 => ?_) (fun c14 => ?_)
        · rw [if_pos c14] at h
          obtain rfl := Option.some.inj h
          exact qr_sub [2, 0, 1] rfl hT
        · rw [if_neg c14] at h
          refine qr_aload_n dX7_showsAll_96 rfl 2 rfl ?_
          refine qr_bipush (v := 41) dX7_showsAll_97 (by decide) ?_
          obtain ⟨r13, er13, h⟩ := qm_bind h
          refine qr_call1 (st1 := []) rfl (qr_callV (id := 210) (c := 5) (As := [.int 41]) (st := []) rfl (by decide) rfl (ct_X7_shows (l := l) (E := E) σ 41 er13) qw_958 qw_6 qw_955 qw_957 qs_49 yd_X7_shows (by decide) (by decide) rfl (Nat.le_of_ble_eq_true rfl) dX7_showsAll_99) ?_
          refine qr_goto (tgt := 52) dX7_showsAll_102 (by decide) ?_
          obtain rfl := Option.some.inj h
          exact qr_sub [2, 0, 1] rfl hT
      · rw [if_neg c16] at h
        refine qr_aload_n dX7_showsAll_83 rfl 2 rfl ?_
        refine qr_bipush (v := 32) dX7_showsAll_84 (by decide) ?_
        obtain ⟨r15, er15, h⟩ := qm_bind h
        refine qr_call1 (st1 := []) rfl (qr_callV (id := 210) (c := 5) (As := [.int 32]) (st := []) rfl (by decide) rfl (ct_X7_shows (l := l) (E := E) σ 32 er15) qw_958 qw_6 qw_955 qw_957 qs_49 yd_X7_shows (by decide) (by decide) rfl (Nat.le_of_ble_eq_true rfl) dX7_showsAll_86) ?_
        refine qr_goto (tgt := 52) dX7_showsAll_89 (by decide) ?_
        obtain rfl := Option.some.inj h
        exact qr_sub [2, 0, 1] rfl hT
def lp_X7_showsAll_52 (σ : qm_M) (v1 : Int32) (v2 : Int32) : Option ((Int32 × qm_M) ⊕ (qm_M)) := qm_loop (fun s : Int32 × Int32 × qm_M => bb_X7_showsAll_52 s.2.2 s.1 s.2.1) 1000 (v1, v2, σ)
theorem wl_X7_showsAll_52 {l : Launch} {E : qm_E} (σ : qm_M) (v1 : Int32) (v2 : Int32) {x : (Int32 × qm_M) ⊕ (qm_M)} (h : lp_X7_showsAll_52 σ v1 v2 = some x) {r : Option Value × qm_M} (hT : (qm_T (pp_X7_showsAll_7 l E) (fun x r => (none, x) = r)) x r) : qm_Wp l E kd_X7_showsAll "HungStreamsModel" cX7_showsAll 3 52 [(0, .ref (qm_a E 210)), (1, .int v1), (2, .int v2)] [] σ r :=
  qm_loop_T (P := pp_X7_showsAll_52 l E) (T1 := (qm_T (pp_X7_showsAll_7 l E) (fun x r => (none, x) = r))) (fun s x h r hT => wb_X7_showsAll_52 (l := l) (E := E) s.2.2 s.1 s.2.1  h hT) h hT
def bb_X7_showsAll_7 (σ : qm_M) (v1 : Int32) : Option ((Int32 × qm_M) ⊕ (qm_M)) :=
  if v1 = (-1) then (some σ).bind (fun y => some (.inr y)) else (fn_X7_showsNumber σ v1).bind (fun r3 => (fn_X7_shows r3 58).bind (fun r4 => (fn_X7_its r4 v1 2).bind (fun r5 => (fn_X7_showsNumber r4 r5.toInt32).bind (fun r6 => (fn_X7_nextChild r6 v1 0).bind (fun r7 => if r7 = (-1) then lp_X7_showsAll_52 r6 v1 r7 else (fn_X7_shows r6 40).bind (fun r19 => lp_X7_showsAll_52 r19 v1 r7))))))
set_option maxRecDepth 20000 in
theorem wb_X7_showsAll_7 {l : Launch} {E : qm_E} (σ : qm_M) (v1 : Int32) {x : (Int32 × qm_M) ⊕ (qm_M)} (h : bb_X7_showsAll_7 σ v1 = some x) {r : Option Value × qm_M} (hT : (qm_T (pp_X7_showsAll_7 l E) (fun x r => (none, x) = r)) x r) : qm_Wp l E kd_X7_showsAll "HungStreamsModel" cX7_showsAll 3 7 [(0, .ref (qm_a E 210)), (1, .int v1)] [] σ r := by
  unfold bb_X7_showsAll_7 at h
  refine qr_iload_n dX7_showsAll_7 rfl 1 rfl ?_
  refine qr_iconst (v := (-1)) dX7_showsAll_8 (by decide) ?_
  refine qr_icmp_eq (tgt := 110) dX7_showsAll_9 (by decide) (fun c21 => ?_) (fun c21 => ?_)
  · rw [if_pos c21] at h
    obtain ⟨y2, h1, hx⟩ := qm_bind h
    clear h
    cases hx
    have h := h1
    obtain rfl := Option.some.inj h
    cases hT
    exact qr_vret dX7_showsAll_110
  · rw [if_neg c21] at h
    refine qr_aload_n dX7_showsAll_12 rfl 0 rfl ?_
    refine qr_iload_n dX7_showsAll_13 rfl 1 rfl ?_
    obtain ⟨r3, er3, h⟩ := qm_bind h
    refine qr_call1 (st1 := []) rfl (qr_callV (id := 210) (c := 5) (As := [.int v1]) (st := []) rfl (by decide) rfl (ct_X7_showsNumber (l := l) (E := E) σ v1 er3) qw_954 qw_6 qw_951 qw_953 qs_48 yd_X7_showsNumber (by decide) (by decide) rfl (Nat.le_of_ble_eq_true rfl) dX7_showsAll_14) ?_
    refine qr_aload_n dX7_showsAll_17 rfl 0 rfl ?_
    refine qr_bipush (v := 58) dX7_showsAll_18 (by decide) ?_
    obtain ⟨r4, er4, h⟩ := qm_bind h
    refine qr_call1 (st1 := []) rfl (qr_callV (id := 210) (c := 5) (As := [.int 58]) (st := []) rfl (by decide) rfl (ct_X7_shows (l := l) (E := E) r3 58 er4) qw_958 qw_6 qw_955 qw_957 qs_49 yd_X7_shows (by decide) (by decide) rfl (Nat.le_of_ble_eq_true rfl) dX7_showsAll_20) ?_
    refine qr_aload_n dX7_showsAll_23 rfl 0 rfl ?_
    refine qr_aload_n dX7_showsAll_24 rfl 0 rfl ?_
    refine qr_iload_n dX7_showsAll_25 rfl 1 rfl ?_
    refine qr_iconst (v := 2) dX7_showsAll_26 (by decide) ?_
    obtain ⟨r5, er5, h⟩ := qm_bind h
    refine qr_call1 (st1 := [.long r5, .ref (qm_a E 210)]) rfl (qr_callV (id := 210) (c := 5) (As := [.int v1, .int 2]) (st := [.ref (qm_a E 210)]) rfl (by decide) rfl (ct_X7_its (l := l) (E := E) r4 v1 2 er5) qw_696 qw_6 qw_693 qw_695 qs_8 yd_X7_its (by decide) (by decide) rfl (Nat.le_of_ble_eq_true rfl) dX7_showsAll_27) ?_
    refine qr_l2i dX7_showsAll_30 ?_
    obtain ⟨r6, er6, h⟩ := qm_bind h
    refine qr_call1 (st1 := []) rfl (qr_callV (id := 210) (c := 5) (As := [.int r5.toInt32]) (st := []) rfl (by decide) rfl (ct_X7_showsNumber (l := l) (E := E) r4 r5.toInt32 er6) qw_954 qw_6 qw_951 qw_953 qs_48 yd_X7_showsNumber (by decide) (by decide) rfl (Nat.le_of_ble_eq_true rfl) dX7_showsAll_31) ?_
    refine qr_aload_n dX7_showsAll_34 rfl 0 rfl ?_
    refine qr_iload_n dX7_showsAll_35 rfl 1 rfl ?_
    refine qr_iconst (v := 0) dX7_showsAll_36 (by decide) ?_
    obtain ⟨r7, er7, h⟩ := qm_bind h
    refine qr_call1 (st1 := [.int r7]) rfl (qr_callV (id := 210) (c := 5) (As := [.int v1, .int 0]) (st := []) rfl (by decide) rfl (ct_X7_nextChild (l := l) (E := E) r6 v1 0 er7) qw_950 qw_6 qw_947 qw_949 qs_47 yd_X7_nextChild (by decide) (by decide) rfl (Nat.le_of_ble_eq_true rfl) dX7_showsAll_37) ?_
    refine qr_istore_n (lv' := [(2, .int r7), (0, .ref (qm_a E 210)), (1, .int v1)]) dX7_showsAll_40 rfl (by decide) rfl ?_
    refine qr_iload_n dX7_showsAll_41 rfl 0 rfl ?_
    refine qr_iconst (v := (-1)) dX7_showsAll_42 (by decide) ?_
    refine qr_icmp_eq (tgt := 52) dX7_showsAll_43 (by decide) (fun c20 => ?_) (fun c20 => ?_)
    · rw [if_pos c20] at h
      exact qr_sub [1, 2, 0] rfl (wl_X7_showsAll_52 (l := l) (E := E) r6 v1 r7 h hT)
    · rw [if_neg c20] at h
      refine qr_aload_n dX7_showsAll_46 rfl 1 rfl ?_
      refine qr_bipush (v := 40) dX7_showsAll_47 (by decide) ?_
      obtain ⟨r19, er19, h⟩ := qm_bind h
      refine qr_call1 (st1 := []) rfl (qr_callV (id := 210) (c := 5) (As := [.int 40]) (st := []) rfl (by decide) rfl (ct_X7_shows (l := l) (E := E) r6 40 er19) qw_958 qw_6 qw_955 qw_957 qs_49 yd_X7_shows (by decide) (by decide) rfl (Nat.le_of_ble_eq_true rfl) dX7_showsAll_49) ?_
      exact qr_sub [1, 2, 0] rfl (wl_X7_showsAll_52 (l := l) (E := E) r19 v1 r7 h hT)
def lp_X7_showsAll_7 (σ : qm_M) (v1 : Int32) : Option (qm_M) := qm_loop (fun s : Int32 × qm_M => bb_X7_showsAll_7 s.2 s.1) 1000 (v1, σ)
theorem wl_X7_showsAll_7 {l : Launch} {E : qm_E} (σ : qm_M) (v1 : Int32) {x : qm_M} (h : lp_X7_showsAll_7 σ v1 = some x) {r : Option Value × qm_M} (hT : (fun x r => (none, x) = r) x r) : qm_Wp l E kd_X7_showsAll "HungStreamsModel" cX7_showsAll 3 7 [(0, .ref (qm_a E 210)), (1, .int v1)] [] σ r :=
  qm_loop_T (P := pp_X7_showsAll_7 l E) (T1 := (fun x r => (none, x) = r)) (fun s x h r hT => wb_X7_showsAll_7 (l := l) (E := E) s.2 s.1  h hT) h hT
def fn_X7_showsAll (σ : qm_M)  : Option (qm_M) :=
  (fn_X7_nextChild σ 0 0).bind (fun r1 => lp_X7_showsAll_7 σ r1)
set_option maxRecDepth 20000 in
theorem wf_X7_showsAll {l : Launch} {E : qm_E} (σ : qm_M)  {x : qm_M} (h : fn_X7_showsAll σ  = some x) {r : Option Value × qm_M} (hT : (fun x r => (none, x) = r) x r) : qm_Wp l E kd_X7_showsAll "HungStreamsModel" cX7_showsAll 3 0 [(0, .ref (qm_a E 210))] [] σ r := by
  unfold fn_X7_showsAll at h
  refine qr_aload_n dX7_showsAll_0 rfl 0 rfl ?_
  refine qr_iconst (v := 0) dX7_showsAll_1 (by decide) ?_
  refine qr_iconst (v := 0) dX7_showsAll_2 (by decide) ?_
  obtain ⟨r1, er1, h⟩ := qm_bind h
  refine qr_call1 (st1 := [.int r1]) rfl (qr_callV (id := 210) (c := 5) (As := [.int 0, .int 0]) (st := []) rfl (by decide) rfl (ct_X7_nextChild (l := l) (E := E) σ 0 0 er1) qw_950 qw_6 qw_947 qw_949 qs_47 yd_X7_nextChild (by decide) (by decide) rfl (Nat.le_of_ble_eq_true rfl) dX7_showsAll_3) ?_
  refine qr_istore_n (lv' := [(1, .int r1), (0, .ref (qm_a E 210))]) dX7_showsAll_6 rfl (by decide) rfl ?_
  exact qr_sub [1, 0] rfl (wl_X7_showsAll_7 (l := l) (E := E) σ r1 h hT)
theorem ct_X7_showsAll {l : Launch} {E : qm_E} (σ : qm_M)  {x : qm_M} (h : fn_X7_showsAll σ  = some x) : qm_Ct l E kd_X7_showsAll yX7_showsAll cX7_showsAll 3 none [.ref (qm_a E 210)] σ (none, x) := qm_ofWp rfl (Nat.le_of_ble_eq_true rfl) (rfl) (wf_X7_showsAll σ   h rfl)
-- HungStreamsModel.shown (I)I
abbrev kd_X7_shown : Nat := 6
theorem yd_X7_shown : (yX7_shown).cls ≠ "java/lang/invoke/MethodHandle" ∧ (yX7_shown).cls ≠ "java/lang/invoke/VarHandle" ∧ (parseMethodDescriptor (yX7_shown).desc).map (fun d => d.parameters.length) = some 1 := by decide +kernel
def fn_X7_shown (σ : qm_M) (v1 : Int32) : Option (Int32 × qm_M) :=
  if 0 ≤ v1 then (some (qm_si σ 210 14 0)).bind (fun σ1 => (some (qm_si σ1 210 15 (-1))).bind (fun σ2 => (some (qm_si σ2 210 16 v1)).bind (fun σ3 => (fn_X7_showsAll σ3 ).bind (fun r4 => some (r4.1 210 15, r4))))) else (fn_X7_refuses σ (-2)).bind (fun r5 => some (r5.1, r5.2))
set_option maxRecDepth 20000 in
theorem wf_X7_shown {l : Launch} {E : qm_E} (σ : qm_M) (v1 : Int32) {x : Int32 × qm_M} (h : fn_X7_shown σ v1 = some x) {r : Option Value × qm_M} (hT : (fun x r => (some (.int x.1), x.2) = r) x r) : qm_Wp l E kd_X7_shown "HungStreamsModel" cX7_shown 2 0 [(0, .ref (qm_a E 210)), (1, .int v1)] [] σ r := by
  unfold fn_X7_shown at h
  refine qr_iload_n dX7_shown_0 rfl 1 rfl ?_
  refine qr_if_ge (tgt := 11) dX7_shown_1 (by decide) (fun c6 => ?_) (fun c6 => ?_)
  · rw [if_pos c6] at h
    refine qr_aload_n dX7_shown_11 rfl 0 rfl ?_
    refine qr_iconst (v := 0) dX7_shown_12 (by decide) ?_
    obtain ⟨σ1, eσ1, h⟩ := qm_bind h
    refine qr_put5_14 rfl qw_638 dX7_shown_13 (qr_eqm (Option.some.inj eσ1) ?_)
    refine qr_aload_n dX7_shown_16 rfl 0 rfl ?_
    refine qr_iconst (v := (-1)) dX7_shown_17 (by decide) ?_
    obtain ⟨σ2, eσ2, h⟩ := qm_bind h
    refine qr_put5_15 rfl qw_639 dX7_shown_18 (qr_eqm (Option.some.inj eσ2) ?_)
    refine qr_aload_n dX7_shown_21 rfl 0 rfl ?_
    refine qr_iload_n dX7_shown_22 rfl 1 rfl ?_
    obtain ⟨σ3, eσ3, h⟩ := qm_bind h
    refine qr_put5_16 rfl qw_640 dX7_shown_23 (qr_eqm (Option.some.inj eσ3) ?_)
    refine qr_aload_n dX7_shown_26 rfl 0 rfl ?_
    obtain ⟨r4, er4, h⟩ := qm_bind h
    refine qr_call1 (st1 := []) rfl (qr_callV (id := 210) (c := 5) (As := []) (st := []) rfl (by decide) rfl (ct_X7_showsAll (l := l) (E := E) σ3  er4) qw_946 qw_6 qw_943 qw_945 qs_46 yd_X7_showsAll (by decide) (by decide) rfl (Nat.le_of_ble_eq_true rfl) dX7_shown_27) ?_
    refine qr_aload_n dX7_shown_30 rfl 0 rfl ?_
    refine qr_get5 (k := 15) (v := .int (r4.1 210 15)) rfl (by decide) rfl qw_639 dX7_shown_31 ?_
    obtain rfl := Option.some.inj h
    cases hT
    exact qr_iret dX7_shown_34
  · rw [if_neg c6] at h
    refine qr_aload_n dX7_shown_4 rfl 0 rfl ?_
    refine qr_bipush (v := (-2)) dX7_shown_5 (by decide) ?_
    obtain ⟨r5, er5, h⟩ := qm_bind h
    refine qr_call1 (st1 := [.int r5.1]) rfl (qr_callV (id := 210) (c := 5) (As := [.int (-2)]) (st := []) rfl (by decide) rfl (ct_X7_refuses (l := l) (E := E) σ (-2) er5) qw_701 qw_6 qw_698 qw_700 qs_9 yd_X7_refuses (by decide) (by decide) rfl (Nat.le_of_ble_eq_true rfl) dX7_shown_7) ?_
    obtain rfl := Option.some.inj h
    cases hT
    exact qr_iret dX7_shown_10
theorem ct_X7_shown {l : Launch} {E : qm_E} (σ : qm_M) (v1 : Int32) {x : Int32 × qm_M} (h : fn_X7_shown σ v1 = some x) : qm_Ct l E kd_X7_shown yX7_shown cX7_shown 2 (some .int) [.ref (qm_a E 210), .int v1] σ (some (.int x.1), x.2) := qm_ofWp rfl (Nat.le_of_ble_eq_true rfl) (Or.inl rfl) (wf_X7_shown σ v1  h rfl)
-- HungStreamsModel.back ()I
abbrev kd_X7_back : Nat := 2
theorem yd_X7_back : (yX7_back).cls ≠ "java/lang/invoke/MethodHandle" ∧ (yX7_back).cls ≠ "java/lang/invoke/VarHandle" ∧ (parseMethodDescriptor (yX7_back).desc).map (fun d => d.parameters.length) = some 0 := by decide +kernel
abbrev pp_X7_back_26 (l : Launch) (E : qm_E) : (Int32 × qm_M) → Option Value × qm_M → Prop := fun s r => qm_Wp l E kd_X7_back "HungStreamsModel" cX7_back 2 26 [(0, .ref (qm_a E 210)), (1, .int s.1)] [] s.2 r
def bb_X7_back_26 (σ : qm_M) (v1 : Int32) : Option ((Int32 × qm_M) ⊕ (Int32 × qm_M)) :=
  if 215 ≤ v1 then (some (σ.1 210 2, σ)).bind (fun y => some (.inr y)) else if ¬ (((215 * (σ.1 210 2)) + v1) < 0 ∨ 1075 ≤ ((215 * (σ.1 210 2)) + v1).toNatClampNeg) then if ¬ (v1 < 0 ∨ 215 ≤ v1.toNatClampNeg) then (some (qm_sl σ 211 v1.toNatClampNeg (σ.2 212 ((215 * (σ.1 210 2)) + v1).toNatClampNeg))).bind (fun σ5 => (some (v1 + 1)).bind (fun z6 => some (.inl (z6, σ5)))) else none else none
set_option maxRecDepth 20000 in
theorem wb_X7_back_26 {l : Launch} {E : qm_E} (σ : qm_M) (v1 : Int32) {x : (Int32 × qm_M) ⊕ (Int32 × qm_M)} (h : bb_X7_back_26 σ v1 = some x) {r : Option Value × qm_M} (hT : (qm_T (pp_X7_back_26 l E) (fun x r => (some (.int x.1), x.2) = r)) x r) : qm_Wp l E kd_X7_back "HungStreamsModel" cX7_back 2 26 [(0, .ref (qm_a E 210)), (1, .int v1)] [] σ r := by
  unfold bb_X7_back_26 at h
  refine qr_iload_n dX7_back_26 rfl 1 rfl ?_
  refine qr_sipush (v := 215) dX7_back_27 (by decide) ?_
  refine qr_icmp_ge (tgt := 60) dX7_back_30 (by decide) (fun c7 => ?_) (fun c7 => ?_)
  · rw [if_pos c7] at h
    obtain ⟨y2, h1, hx⟩ := qm_bind h
    clear h
    cases hx
    have h := h1
    refine qr_aload_n dX7_back_60 rfl 0 rfl ?_
    refine qr_get5 (k := 2) (v := .int (σ.1 210 2)) rfl (by decide) rfl qw_626 dX7_back_61 ?_
    obtain rfl := Option.some.inj h
    cases hT
    exact qr_iret dX7_back_64
  · rw [if_neg c7] at h
    refine qr_aload_n dX7_back_33 rfl 0 rfl ?_
    refine qr_get5 (k := 0) (v := .ref (qm_a E 211)) rfl (by decide) rfl qw_624 dX7_back_34 ?_
    refine qr_iload_n dX7_back_37 rfl 1 rfl ?_
    refine qr_aload_n dX7_back_38 rfl 0 rfl ?_
    refine qr_get5 (k := 1) (v := .ref (qm_a E 212)) rfl (by decide) rfl qw_625 dX7_back_39 ?_
    refine qr_sipush (v := 215) dX7_back_42 (by decide) ?_
    refine qr_aload_n dX7_back_45 rfl 0 rfl ?_
    refine qr_get5 (k := 2) (v := .int (σ.1 210 2)) rfl (by decide) rfl qw_626 dX7_back_46 ?_
    refine qr_imul dX7_back_49 ?_
    refine qr_iload_n dX7_back_50 rfl 1 rfl ?_
    refine qr_iadd dX7_back_51 ?_
    obtain ⟨c3, h⟩ := qm_chk h
    refine qr_lald rfl c3 dX7_back_52 ?_
    obtain ⟨c4, h⟩ := qm_chk h
    obtain ⟨σ5, eσ5, h⟩ := qm_bind h
    refine qr_last rfl c4 dX7_back_53 (qr_eqm (Option.some.inj eσ5) ?_)
    obtain ⟨z6, ez6, h⟩ := qm_bind h
    refine qr_iinc (q := 1) (v := z6) (lv' := [(1, .int z6), (0, .ref (qm_a E 210))]) dX7_back_54 rfl (Option.some.inj ez6) (by decide) rfl ?_
    refine qr_goto (tgt := 26) dX7_back_57 (by decide) ?_
    obtain rfl := Option.some.inj h
    exact qr_sub [1, 0] rfl hT
def lp_X7_back_26 (σ : qm_M) (v1 : Int32) : Option (Int32 × qm_M) := qm_loop (fun s : Int32 × qm_M => bb_X7_back_26 s.2 s.1) 1000 (v1, σ)
theorem wl_X7_back_26 {l : Launch} {E : qm_E} (σ : qm_M) (v1 : Int32) {x : Int32 × qm_M} (h : lp_X7_back_26 σ v1 = some x) {r : Option Value × qm_M} (hT : (fun x r => (some (.int x.1), x.2) = r) x r) : qm_Wp l E kd_X7_back "HungStreamsModel" cX7_back 2 26 [(0, .ref (qm_a E 210)), (1, .int v1)] [] σ r :=
  qm_loop_T (P := pp_X7_back_26 l E) (T1 := (fun x r => (some (.int x.1), x.2) = r)) (fun s x h r hT => wb_X7_back_26 (l := l) (E := E) s.2 s.1  h hT) h hT
def fn_X7_back (σ : qm_M)  : Option (Int32 × qm_M) :=
  if (σ.1 210 2) = 0 then (fn_X7_refuses σ (-3)).bind (fun r8 => some (r8.1, r8.2)) else (some (qm_si σ 210 2 ((σ.1 210 2) - 1))).bind (fun σ1 => lp_X7_back_26 σ1 0)
set_option maxRecDepth 20000 in
theorem wf_X7_back {l : Launch} {E : qm_E} (σ : qm_M)  {x : Int32 × qm_M} (h : fn_X7_back σ  = some x) {r : Option Value × qm_M} (hT : (fun x r => (some (.int x.1), x.2) = r) x r) : qm_Wp l E kd_X7_back "HungStreamsModel" cX7_back 2 0 [(0, .ref (qm_a E 210))] [] σ r := by
  unfold fn_X7_back at h
  refine qr_aload_n dX7_back_0 rfl 0 rfl ?_
  refine qr_get5 (k := 2) (v := .int (σ.1 210 2)) rfl (by decide) rfl qw_626 dX7_back_1 ?_
  refine qr_if_ne (tgt := 14) dX7_back_4 (by decide) (fun c9 => ?_) (fun c9 => ?_)
  · rw [if_neg c9] at h
    refine qr_aload_n dX7_back_14 rfl 0 rfl ?_
    refine qr_dup dX7_back_15 rfl ?_
    refine qr_get5 (k := 2) (v := .int (σ.1 210 2)) rfl (by decide) rfl qw_626 dX7_back_16 ?_
    refine qr_iconst (v := 1) dX7_back_19 (by decide) ?_
    refine qr_isub dX7_back_20 ?_
    obtain ⟨σ1, eσ1, h⟩ := qm_bind h
    refine qr_put5_2 rfl qw_626 dX7_back_21 (qr_eqm (Option.some.inj eσ1) ?_)
    refine qr_iconst (v := 0) dX7_back_24 (by decide) ?_
    refine qr_istore_n (lv' := [(1, .int 0), (0, .ref (qm_a E 210))]) dX7_back_25 rfl (by decide) rfl ?_
    exact qr_sub [1, 0] rfl (wl_X7_back_26 (l := l) (E := E) σ1 0 h hT)
  · rw [if_pos c9] at h
    refine qr_aload_n dX7_back_7 rfl 0 rfl ?_
    refine qr_bipush (v := (-3)) dX7_back_8 (by decide) ?_
    obtain ⟨r8, er8, h⟩ := qm_bind h
    refine qr_call1 (st1 := [.int r8.1]) rfl (qr_callV (id := 210) (c := 5) (As := [.int (-3)]) (st := []) rfl (by decide) rfl (ct_X7_refuses (l := l) (E := E) σ (-3) er8) qw_701 qw_6 qw_698 qw_700 qs_9 yd_X7_refuses (by decide) (by decide) rfl (Nat.le_of_ble_eq_true rfl) dX7_back_10) ?_
    obtain rfl := Option.some.inj h
    cases hT
    exact qr_iret dX7_back_13
theorem ct_X7_back {l : Launch} {E : qm_E} (σ : qm_M)  {x : Int32 × qm_M} (h : fn_X7_back σ  = some x) : qm_Ct l E kd_X7_back yX7_back cX7_back 2 (some .int) [.ref (qm_a E 210)] σ (some (.int x.1), x.2) := qm_ofWp rfl (Nat.le_of_ble_eq_true rfl) (Or.inl rfl) (wf_X7_back σ   h rfl)
