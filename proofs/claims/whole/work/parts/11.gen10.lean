-- HungStreamsModel.sends (I)I
abbrev kd_X7_sends : Nat := 9
theorem yd_X7_sends : (yX7_sends).cls ≠ "java/lang/invoke/MethodHandle" ∧ (yX7_sends).cls ≠ "java/lang/invoke/VarHandle" ∧ (parseMethodDescriptor (yX7_sends).desc).map (fun d => d.parameters.length) = some 1 := by decide +kernel
abbrev pp_X7_sends_25 (l : Launch) (E : qm_E) (v1 : Int32) : (Int32 × qm_M) → Option Value × qm_M → Prop := fun s r => qm_Wp l E kd_X7_sends "HungStreamsModel" cX7_sends 3 25 [(0, .ref (qm_a E 210)), (1, .int v1), (2, .int s.1)] [] s.2 r
def bb_X7_sends_25 (σ : qm_M) (v1 : Int32) (v2 : Int32) : Option ((Int32 × qm_M) ⊕ (Int32 × qm_M)) :=
  if v1 ≤ v2 then (some (v2, σ)).bind (fun y => some (.inr y)) else (fn_X7_isSent σ ).bind (fun r4 => if (qm_b r4.1) = 0 then (some (v2, r4.2)).bind (fun y => some (.inr y)) else (some (v2 + 1)).bind (fun z6 => some (.inl (z6, r4.2))))
set_option maxRecDepth 20000 in
theorem wb_X7_sends_25 {l : Launch} {E : qm_E} (σ : qm_M) (v1 : Int32) (v2 : Int32) {x : (Int32 × qm_M) ⊕ (Int32 × qm_M)} (h : bb_X7_sends_25 σ v1 v2 = some x) {r : Option Value × qm_M} (hT : (qm_T (pp_X7_sends_25 l E v1) (fun x r => (some (.int x.1), x.2) = r)) x r) : qm_Wp l E kd_X7_sends "HungStreamsModel" cX7_sends 3 25 [(0, .ref (qm_a E 210)), (1, .int v1), (2, .int v2)] [] σ r := by
  unfold bb_X7_sends_25 at h
  refine qr_iload_n dX7_sends_25 rfl 2 rfl ?_
  refine qr_iload_n dX7_sends_26 rfl 1 rfl ?_
  refine qr_icmp_ge (tgt := 43) dX7_sends_27 (by decide) (fun c8 => ?_) (fun c8 => ?_)
  · rw [if_pos c8] at h
    obtain ⟨y3, h1, hx⟩ := qm_bind h
    clear h
    cases hx
    have h := h1
    refine qr_iload_n dX7_sends_43 rfl 2 rfl ?_
    obtain rfl := Option.some.inj h
    cases hT
    exact qr_iret dX7_sends_44
  · rw [if_neg c8] at h
    refine qr_aload_n dX7_sends_30 rfl 0 rfl ?_
    obtain ⟨r4, er4, h⟩ := qm_bind h
    refine qr_call1 (st1 := [.int (qm_b r4.1)]) rfl (qr_callV (id := 210) (c := 5) (As := []) (st := []) rfl (by decide) rfl (ct_X7_isSent (l := l) (E := E) σ  er4) qw_862 qw_6 qw_859 qw_861 qs_33 yd_X7_isSent (by decide) (by decide) rfl (Nat.le_of_ble_eq_true rfl) dX7_sends_31) ?_
    refine qr_if_eq (tgt := 43) dX7_sends_34 (by decide) (fun c7 => ?_) (fun c7 => ?_)
    · rw [if_pos c7] at h
      obtain ⟨y5, h1, hx⟩ := qm_bind h
      clear h
      cases hx
      have h := h1
      refine qr_iload_n dX7_sends_43 rfl 2 rfl ?_
      obtain rfl := Option.some.inj h
      cases hT
      exact qr_iret dX7_sends_44
    · rw [if_neg c7] at h
      obtain ⟨z6, ez6, h⟩ := qm_bind h
      refine qr_iinc (q := 2) (v := z6) (lv' := [(2, .int z6), (0, .ref (qm_a E 210)), (1, .int v1)]) dX7_sends_37 rfl (Option.some.inj ez6) (by decide) rfl ?_
      refine qr_goto (tgt := 25) dX7_sends_40 (by decide) ?_
      obtain rfl := Option.some.inj h
      exact qr_sub [1, 2, 0] rfl hT
def lp_X7_sends_25 (σ : qm_M) (v1 : Int32) (v2 : Int32) : Option (Int32 × qm_M) := qm_loop (fun s : Int32 × qm_M => bb_X7_sends_25 s.2 v1 s.1) 1000 (v2, σ)
theorem wl_X7_sends_25 {l : Launch} {E : qm_E} (σ : qm_M) (v1 : Int32) (v2 : Int32) {x : Int32 × qm_M} (h : lp_X7_sends_25 σ v1 v2 = some x) {r : Option Value × qm_M} (hT : (fun x r => (some (.int x.1), x.2) = r) x r) : qm_Wp l E kd_X7_sends "HungStreamsModel" cX7_sends 3 25 [(0, .ref (qm_a E 210)), (1, .int v1), (2, .int v2)] [] σ r :=
  qm_loop_T (P := pp_X7_sends_25 l E v1) (T1 := (fun x r => (some (.int x.1), x.2) = r)) (fun s x h r hT => wb_X7_sends_25 (l := l) (E := E) s.2 v1 s.1  h hT) h hT
def fn_X7_sends (σ : qm_M) (v1 : Int32) : Option (Int32 × qm_M) :=
  (fn_X7_in σ v1.toInt64 1 100).bind (fun r1 => if (qm_b r1) = 0 then (fn_X7_refuses σ (-2)).bind (fun r9 => some (r9.1, r9.2)) else (fn_X7_keep σ ).bind (fun r2 => lp_X7_sends_25 r2 v1 0))
set_option maxRecDepth 20000 in
theorem wf_X7_sends {l : Launch} {E : qm_E} (σ : qm_M) (v1 : Int32) {x : Int32 × qm_M} (h : fn_X7_sends σ v1 = some x) {r : Option Value × qm_M} (hT : (fun x r => (some (.int x.1), x.2) = r) x r) : qm_Wp l E kd_X7_sends "HungStreamsModel" cX7_sends 3 0 [(0, .ref (qm_a E 210)), (1, .int v1)] [] σ r := by
  unfold fn_X7_sends at h
  refine qr_iload_n dX7_sends_0 rfl 1 rfl ?_
  refine qr_i2l dX7_sends_1 ?_
  refine qr_lconst (v := 1) dX7_sends_2 (by decide) ?_
  refine qr_ldc2 qw_621 dX7_sends_3 ?_
  obtain ⟨r1, er1, h⟩ := qm_bind h
  refine qr_call1 (st1 := [.int (qm_b r1)]) rfl (qr_callS (As := [.long v1.toInt64, .long 1, .long 100]) (st := []) (ct_X7_in (l := l) (E := E) σ v1.toInt64 1 100 er1) qw_684 qw_6 qw_682 qw_683 yd_X7_in (by decide) (by decide) rfl (Nat.le_of_ble_eq_true rfl) dX7_sends_6) ?_
  refine qr_if_ne (tgt := 19) dX7_sends_9 (by decide) (fun c10 => ?_) (fun c10 => ?_)
  · rw [if_neg c10] at h
    refine qr_aload_n dX7_sends_19 rfl 0 rfl ?_
    obtain ⟨r2, er2, h⟩ := qm_bind h
    refine qr_call1 (st1 := []) rfl (qr_callV (id := 210) (c := 5) (As := []) (st := []) rfl (by decide) rfl (ct_X7_keep (l := l) (E := E) σ  er2) qw_705 qw_6 qw_702 qw_704 qs_10 yd_X7_keep (by decide) (by decide) rfl (Nat.le_of_ble_eq_true rfl) dX7_sends_20) ?_
    refine qr_iconst (v := 0) dX7_sends_23 (by decide) ?_
    refine qr_istore_n (lv' := [(2, .int 0), (0, .ref (qm_a E 210)), (1, .int v1)]) dX7_sends_24 rfl (by decide) rfl ?_
    exact qr_sub [1, 2, 0] rfl (wl_X7_sends_25 (l := l) (E := E) r2 v1 0 h hT)
  · rw [if_pos c10] at h
    refine qr_aload_n dX7_sends_12 rfl 0 rfl ?_
    refine qr_bipush (v := (-2)) dX7_sends_13 (by decide) ?_
    obtain ⟨r9, er9, h⟩ := qm_bind h
    refine qr_call1 (st1 := [.int r9.1]) rfl (qr_callV (id := 210) (c := 5) (As := [.int (-2)]) (st := []) rfl (by decide) rfl (ct_X7_refuses (l := l) (E := E) σ (-2) er9) qw_701 qw_6 qw_698 qw_700 qs_9 yd_X7_refuses (by decide) (by decide) rfl (Nat.le_of_ble_eq_true rfl) dX7_sends_15) ?_
    obtain rfl := Option.some.inj h
    cases hT
    exact qr_iret dX7_sends_18
theorem ct_X7_sends {l : Launch} {E : qm_E} (σ : qm_M) (v1 : Int32) {x : Int32 × qm_M} (h : fn_X7_sends σ v1 = some x) : qm_Ct l E kd_X7_sends yX7_sends cX7_sends 3 (some .int) [.ref (qm_a E 210), .int v1] σ (some (.int x.1), x.2) := qm_ofWp rfl (Nat.le_of_ble_eq_true rfl) (Or.inl rfl) (wf_X7_sends σ v1  h rfl)
-- HungStreamsModel.divisor (JJ)J
abbrev kd_X7_divisor : Nat := 1
theorem yd_X7_divisor : (yX7_divisor).cls ≠ "java/lang/invoke/MethodHandle" ∧ (yX7_divisor).cls ≠ "java/lang/invoke/VarHandle" ∧ (parseMethodDescriptor (yX7_divisor).desc).map (fun d => d.parameters.length) = some 2 := by decide +kernel
abbrev pp_X7_divisor_6 (l : Launch) (E : qm_E) (σ : qm_M) : (Int64 × Int64) → Option Value × qm_M → Prop := fun s r => qm_Wp l E kd_X7_divisor "HungStreamsModel" cX7_divisor 10 6 [(4, .long s.1), (6, .long s.2)] [] σ r
def bb_X7_divisor_6 (σ : qm_M) (v4 : Int64) (v6 : Int64) : Option ((Int64 × Int64) ⊕ (Int64)) :=
  if (lg_cmp v6 0) = 0 then (some v4).bind (fun y => some (.inr y)) else if ¬ v6 = 0 then (some (v4 - v4 / v6 * v6)).bind (fun z3 => some (.inl (v6, z3))) else none
set_option maxRecDepth 20000 in
theorem wb_X7_divisor_6 {l : Launch} {E : qm_E} (σ : qm_M) (v4 : Int64) (v6 : Int64) {x : (Int64 × Int64) ⊕ (Int64)} (h : bb_X7_divisor_6 σ v4 v6 = some x) {r : Option Value × qm_M} (hT : (qm_T (pp_X7_divisor_6 l E σ) (fun x r => (some (.long x), σ) = r)) x r) : qm_Wp l E kd_X7_divisor "HungStreamsModel" cX7_divisor 10 6 [(4, .long v4), (6, .long v6)] [] σ r := by
  unfold bb_X7_divisor_6 at h
  refine qr_lload dX7_divisor_6 1 rfl ?_
  refine qr_lconst (v := 0) dX7_divisor_8 (by decide) ?_
  refine qr_lcmp dX7_divisor_9 ?_
  refine qr_if_eq (tgt := 31) dX7_divisor_10 (by decide) (fun c4 => ?_) (fun c4 => ?_)
  · rw [if_pos c4] at h
    obtain ⟨y1, h1, hx⟩ := qm_bind h
    clear h
    cases hx
    have h := h1
    refine qr_lload dX7_divisor_31 0 rfl ?_
    obtain rfl := Option.some.inj h
    cases hT
    exact qr_lret dX7_divisor_33
  · rw [if_neg c4] at h
    refine qr_lload dX7_divisor_13 0 rfl ?_
    refine qr_lload dX7_divisor_15 1 rfl ?_
    obtain ⟨c2, h⟩ := qm_chk h
    refine qr_lrem dX7_divisor_17 c2 ?_
    obtain ⟨z3, ez3, h⟩ := qm_bind h
    refine qr_eqj (Option.some.inj ez3) ?_
    refine qr_lstore (lv' := [(8, .long z3), (4, .long v4), (6, .long v6)]) dX7_divisor_18 (by decide) rfl ?_
    refine qr_lload dX7_divisor_20 2 rfl ?_
    refine qr_lstore (lv' := [(4, .long v6), (8, .long z3), (6, .long v6)]) dX7_divisor_22 (by decide) rfl ?_
    refine qr_lload dX7_divisor_24 1 rfl ?_
    refine qr_lstore (lv' := [(6, .long z3), (4, .long v6), (8, .long z3)]) dX7_divisor_26 (by decide) rfl ?_
    refine qr_goto (tgt := 6) dX7_divisor_28 (by decide) ?_
    obtain rfl := Option.some.inj h
    exact qr_sub [1, 0] rfl hT
def lp_X7_divisor_6 (σ : qm_M) (v4 : Int64) (v6 : Int64) : Option (Int64) := qm_loop (fun s : Int64 × Int64 => bb_X7_divisor_6 σ s.1 s.2) 1000 (v4, v6)
theorem wl_X7_divisor_6 {l : Launch} {E : qm_E} (σ : qm_M) (v4 : Int64) (v6 : Int64) {x : Int64} (h : lp_X7_divisor_6 σ v4 v6 = some x) {r : Option Value × qm_M} (hT : (fun x r => (some (.long x), σ) = r) x r) : qm_Wp l E kd_X7_divisor "HungStreamsModel" cX7_divisor 10 6 [(4, .long v4), (6, .long v6)] [] σ r :=
  qm_loop_T (P := pp_X7_divisor_6 l E σ) (T1 := (fun x r => (some (.long x), σ) = r)) (fun s x h r hT => wb_X7_divisor_6 (l := l) (E := E) σ s.1 s.2  h hT) h hT
def fn_X7_divisor (σ : qm_M) (v0 : Int64) (v2 : Int64) : Option (Int64) :=
  lp_X7_divisor_6 σ v0 v2
set_option maxRecDepth 20000 in
theorem wf_X7_divisor {l : Launch} {E : qm_E} (σ : qm_M) (v0 : Int64) (v2 : Int64) {x : Int64} (h : fn_X7_divisor σ v0 v2 = some x) {r : Option Value × qm_M} (hT : (fun x r => (some (.long x), σ) = r) x r) : qm_Wp l E kd_X7_divisor "HungStreamsModel" cX7_divisor 10 0 [(0, .long v0), (2, .long v2)] [] σ r := by
  unfold fn_X7_divisor at h
  refine qr_lload_n dX7_divisor_0 rfl 0 rfl ?_
  refine qr_lstore (lv' := [(4, .long v0), (0, .long v0), (2, .long v2)]) dX7_divisor_1 (by decide) rfl ?_
  refine qr_lload_n dX7_divisor_3 rfl 2 rfl ?_
  refine qr_lstore (lv' := [(6, .long v2), (4, .long v0), (0, .long v0), (2, .long v2)]) dX7_divisor_4 (by decide) rfl ?_
  exact qr_sub [1, 0] rfl (wl_X7_divisor_6 (l := l) (E := E) σ v0 v2 h hT)
theorem ct_X7_divisor {l : Launch} {E : qm_E} (σ : qm_M) (v0 : Int64) (v2 : Int64) {x : Int64} (h : fn_X7_divisor σ v0 v2 = some x) : qm_Ct l E kd_X7_divisor yX7_divisor cX7_divisor 10 (some .long) [.long v0, .long v2] σ (some (.long x), σ) := qm_ofWp rfl (Nat.le_of_ble_eq_true rfl) (rfl) (wf_X7_divisor σ v0 v2  h rfl)
-- HungStreamsModel.shares (I)V
abbrev kd_X7_shares : Nat := 6
theorem yd_X7_shares : (yX7_shares).cls ≠ "java/lang/invoke/MethodHandle" ∧ (yX7_shares).cls ≠ "java/lang/invoke/VarHandle" ∧ (parseMethodDescriptor (yX7_shares).desc).map (fun d => d.parameters.length) = some 1 := by decide +kernel
abbrev pp_X7_shares_22 (l : Launch) (E : qm_E) (v1 : Int32) (v2 : Int32) : (Int32 × qm_M) → Option Value × qm_M → Prop := fun s r => qm_Wp l E kd_X7_shares "HungStreamsModel" cX7_shares 8 22 [(0, .ref (qm_a E 210)), (1, .int v1), (2, .int v2), (3, .int s.1)] [] s.2 r
abbrev pp_X7_shares_32 (l : Launch) (E : qm_E) (σ : qm_M) (v1 : Int32) (v2 : Int32) (v3 : Int32) : (Int64 × Int32) → Option Value × qm_M → Prop := fun s r => qm_Wp l E kd_X7_shares "HungStreamsModel" cX7_shares 8 32 [(0, .ref (qm_a E 210)), (1, .int v1), (2, .int v2), (3, .int v3), (4, .long s.1), (6, .int s.2)] [] σ r
def bb_X7_shares_135 (σ : qm_M) (v1 : Int32) (v2 : Int32) (v3 : Int32) (k0 : Int64) (k1 : Int64) : Option ((Int32 × qm_M) ⊕ (qm_M)) :=
  (some (qm_sl σ 210 5 (k1 * k0))).bind (fun σ7 => (fn_X7_divisor σ7 (σ7.2 210 4) (σ7.2 210 5)).bind (fun r8 => if ¬ r8 = 0 then (some (qm_sl σ7 210 4 ((σ7.2 210 4) / r8))).bind (fun σ10 => if ¬ r8 = 0 then (some (qm_sl σ10 210 5 ((σ10.2 210 5) / r8))).bind (fun σ12 => (fn_X7_parent σ12 v3).bind (fun r13 => some (.inl (r13, σ12)))) else none) else none))
set_option maxRecDepth 20000 in
theorem wb_X7_shares_135 {l : Launch} {E : qm_E} (σ : qm_M) (v1 : Int32) (v2 : Int32) (v3 : Int32) (k0 : Int64) (k1 : Int64) {x : (Int32 × qm_M) ⊕ (qm_M)} (h : bb_X7_shares_135 σ v1 v2 v3 k0 k1 = some x) {r : Option Value × qm_M} (hT : (qm_T (pp_X7_shares_22 l E v1 v2) (fun x r => (none, x) = r)) x r) : qm_Wp l E kd_X7_shares "HungStreamsModel" cX7_shares 8 135 [(0, .ref (qm_a E 210)), (1, .int v1), (2, .int v2), (3, .int v3)] [.long k0, .long k1, .ref (qm_a E 210)] σ r := by
  unfold bb_X7_shares_135 at h
  refine qr_lmul dX7_shares_135 ?_
  obtain ⟨σ7, eσ7, h⟩ := qm_bind h
  refine qr_put5_5 rfl qw_629 dX7_shares_136 (qr_eqm (Option.some.inj eσ7) ?_)
  refine qr_aload_n dX7_shares_139 rfl 0 rfl ?_
  refine qr_get5 (k := 4) (v := .long (σ7.2 210 4)) rfl (by decide) rfl qw_628 dX7_shares_140 ?_
  refine qr_aload_n dX7_shares_143 rfl 0 rfl ?_
  refine qr_get5 (k := 5) (v := .long (σ7.2 210 5)) rfl (by decide) rfl qw_629 dX7_shares_144 ?_
  obtain ⟨r8, er8, h⟩ := qm_bind h
  refine qr_call1 (st1 := [.long r8]) rfl (qr_callS (As := [.long (σ7.2 210 4), .long (σ7.2 210 5)]) (st := []) (ct_X7_divisor (l := l) (E := E) σ7 (σ7.2 210 4) (σ7.2 210 5) er8) qw_890 qw_6 qw_888 qw_889 yd_X7_divisor (by decide) (by decide) rfl (Nat.le_of_ble_eq_true rfl) dX7_shares_147) ?_
  refine qr_lstore (lv' := [(6, .long r8), (0, .ref (qm_a E 210)), (1, .int v1), (2, .int v2), (3, .int v3)]) dX7_shares_150 (by decide) rfl ?_
  refine qr_aload_n dX7_shares_152 rfl 1 rfl ?_
  refine qr_dup dX7_shares_153 rfl ?_
  refine qr_get5 (k := 4) (v := .long (σ7.2 210 4)) rfl (by decide) rfl qw_628 dX7_shares_154 ?_
  refine qr_lload dX7_shares_157 0 rfl ?_
  obtain ⟨c9, h⟩ := qm_chk h
  refine qr_ldiv dX7_shares_159 c9 ?_
  obtain ⟨σ10, eσ10, h⟩ := qm_bind h
  refine qr_put5_4 rfl qw_628 dX7_shares_160 (qr_eqm (Option.some.inj eσ10) ?_)
  refine qr_aload_n dX7_shares_163 rfl 1 rfl ?_
  refine qr_dup dX7_shares_164 rfl ?_
  refine qr_get5 (k := 5) (v := .long (σ10.2 210 5)) rfl (by decide) rfl qw_629 dX7_shares_165 ?_
  refine qr_lload dX7_shares_168 0 rfl ?_
  obtain ⟨c11, h⟩ := qm_chk h
  refine qr_ldiv dX7_shares_170 c11 ?_
  obtain ⟨σ12, eσ12, h⟩ := qm_bind h
  refine qr_put5_5 rfl qw_629 dX7_shares_171 (qr_eqm (Option.some.inj eσ12) ?_)
  refine qr_aload_n dX7_shares_174 rfl 1 rfl ?_
  refine qr_iload_n dX7_shares_175 rfl 4 rfl ?_
  obtain ⟨r13, er13, h⟩ := qm_bind h
  refine qr_call1 (st1 := [.int r13]) rfl (qr_callV (id := 210) (c := 5) (As := [.int v3]) (st := []) rfl (by decide) rfl (ct_X7_parent (l := l) (E := E) σ12 v3 er13) qw_727 qw_6 qw_724 qw_726 qs_15 yd_X7_parent (by decide) (by decide) rfl (Nat.le_of_ble_eq_true rfl) dX7_shares_176) ?_
  refine qr_istore_n (lv' := [(3, .int r13), (6, .long r8), (0, .ref (qm_a E 210)), (1, .int v1), (2, .int v2)]) dX7_shares_179 rfl (by decide) rfl ?_
  refine qr_goto (tgt := 22) dX7_shares_180 (by decide) ?_
  obtain rfl := Option.some.inj h
  exact qr_sub [2, 3, 4, 0] rfl hT
def bb_X7_shares_114 (σ : qm_M) (v1 : Int32) (v2 : Int32) (v3 : Int32) (v4 : Int64) (k0 : Int64) : Option ((Int32 × qm_M) ⊕ (qm_M)) :=
  (some (qm_sl σ 210 4 k0)).bind (fun σ6 => if (lg_cmp v4 0) ≤ 0 then bb_X7_shares_135 σ6 v1 v2 v3 1 (σ6.2 210 5) else bb_X7_shares_135 σ6 v1 v2 v3 v4 (σ6.2 210 5))
set_option maxRecDepth 20000 in
theorem wb_X7_shares_114 {l : Launch} {E : qm_E} (σ : qm_M) (v1 : Int32) (v2 : Int32) (v3 : Int32) (v4 : Int64) (k0 : Int64) {x : (Int32 × qm_M) ⊕ (qm_M)} (h : bb_X7_shares_114 σ v1 v2 v3 v4 k0 = some x) {r : Option Value × qm_M} (hT : (qm_T (pp_X7_shares_22 l E v1 v2) (fun x r => (none, x) = r)) x r) : qm_Wp l E kd_X7_shares "HungStreamsModel" cX7_shares 8 114 [(0, .ref (qm_a E 210)), (1, .int v1), (2, .int v2), (3, .int v3), (4, .long v4)] [.long k0, .ref (qm_a E 210)] σ r := by
  unfold bb_X7_shares_114 at h
  obtain ⟨σ6, eσ6, h⟩ := qm_bind h
  refine qr_put5_4 rfl qw_628 dX7_shares_114 (qr_eqm (Option.some.inj eσ6) ?_)
  refine qr_aload_n dX7_shares_117 rfl 0 rfl ?_
  refine qr_dup dX7_shares_118 rfl ?_
  refine qr_get5 (k := 5) (v := .long (σ6.2 210 5)) rfl (by decide) rfl qw_629 dX7_shares_119 ?_
  refine qr_lload dX7_shares_122 4 rfl ?_
  refine qr_lconst (v := 0) dX7_shares_124 (by decide) ?_
  refine qr_lcmp dX7_shares_125 ?_
  refine qr_if_le (tgt := 134) dX7_shares_126 (by decide) (fun c14 => ?_) (fun c14 => ?_)
  · rw [if_pos c14] at h
    refine qr_lconst (v := 1) dX7_shares_134 (by decide) ?_
    exact qr_sub [0, 1, 2, 3] rfl (wb_X7_shares_135 (l := l) (E := E) σ6 v1 v2 v3 1 (σ6.2 210 5) h hT)
  · rw [if_neg c14] at h
    refine qr_lload dX7_shares_129 4 rfl ?_
    refine qr_goto (tgt := 135) dX7_shares_131 (by decide) ?_
    exact qr_sub [0, 1, 2, 3] rfl (wb_X7_shares_135 (l := l) (E := E) σ6 v1 v2 v3 v4 (σ6.2 210 5) h hT)
def bb_X7_shares_32 (σ : qm_M) (v1 : Int32) (v2 : Int32) (v3 : Int32) (v4 : Int64) (v6 : Int32) : Option ((Int64 × Int32) ⊕ ((Int32 × qm_M) ⊕ (qm_M))) :=
  if 12 < v6 then (if v3 = v1 then (fn_X7_its σ v3 2).bind (fun r5 => bb_X7_shares_114 σ v1 v2 v3 v4 ((σ.2 210 4) * r5)) else (fn_X7_can σ v3).bind (fun r15 => if (qm_b r15) = 0 then (fn_X7_its σ v3 2).bind (fun r16 => bb_X7_shares_114 σ v1 v2 v3 v4 ((σ.2 210 4) * r16)) else bb_X7_shares_114 σ v1 v2 v3 v4 0)).bind (fun y => some (.inr y)) else (fn_X7_parent σ v3).bind (fun r20 => (fn_X7_isChild σ v6 r20).bind (fun r21 => if (qm_b r21) = 0 then (some (v4 + 0)).bind (fun z22 => (some (v6 + 1)).bind (fun z23 => some (.inl (z22, z23)))) else if ((v2 >>> (v6 &&& 31)) &&& 1) = 1 then (fn_X7_its σ v6 2).bind (fun r26 => (some (v4 + r26)).bind (fun z27 => (some (v6 + 1)).bind (fun z28 => some (.inl (z27, z28))))) else (some (v4 + 0)).bind (fun z24 => (some (v6 + 1)).bind (fun z25 => some (.inl (z24, z25))))))
set_option maxRecDepth 20000 in
theorem wb_X7_shares_32 {l : Launch} {E : qm_E} (σ : qm_M) (v1 : Int32) (v2 : Int32) (v3 : Int32) (v4 : Int64) (v6 : Int32) {x : (Int64 × Int32) ⊕ ((Int32 × qm_M) ⊕ (qm_M))} (h : bb_X7_shares_32 σ v1 v2 v3 v4 v6 = some x) {r : Option Value × qm_M} (hT : (qm_T (pp_X7_shares_32 l E σ v1 v2 v3) (qm_T (pp_X7_shares_22 l E v1 v2) (fun x r => (none, x) = r))) x r) : qm_Wp l E kd_X7_shares "HungStreamsModel" cX7_shares 8 32 [(0, .ref (qm_a E 210)), (1, .int v1), (2, .int v2), (3, .int v3), (4, .long v4), (6, .int v6)] [] σ r := by
  unfold bb_X7_shares_32 at h
  refine qr_iload dX7_shares_32 5 rfl ?_
  refine qr_bipush (v := 12) dX7_shares_34 (by decide) ?_
  refine qr_icmp_gt (tgt := 85) dX7_shares_36 (by decide) (fun c31 => ?_) (fun c31 => ?_)
  · rw [if_pos c31] at h
    obtain ⟨y19, h1, hx⟩ := qm_bind h
    clear h
    cases hx
    have h := h1
    refine qr_aload_n dX7_shares_85 rfl 0 rfl ?_
    refine qr_iload_n dX7_shares_86 rfl 3 rfl ?_
    refine qr_iload_n dX7_shares_87 rfl 1 rfl ?_
    refine qr_icmp_eq (tgt := 103) dX7_shares_88 (by decide) (fun c18 => ?_) (fun c18 => ?_)
    · rw [if_pos c18] at h
      refine qr_aload_n dX7_shares_103 rfl 0 rfl ?_
      refine qr_get5 (k := 4) (v := .long (σ.2 210 4)) rfl (by decide) rfl qw_628 dX7_shares_104 ?_
      refine qr_aload_n dX7_shares_107 rfl 0 rfl ?_
      refine qr_iload_n dX7_shares_108 rfl 3 rfl ?_
      refine qr_iconst (v := 2) dX7_shares_109 (by decide) ?_
      obtain ⟨r5, er5, h⟩ := qm_bind h
      refine qr_call1 (st1 := [.long r5, .long (σ.2 210 4), .ref (qm_a E 210)]) rfl (qr_callV (id := 210) (c := 5) (As := [.int v3, .int 2]) (st := [.long (σ.2 210 4), .ref (qm_a E 210)]) rfl (by decide) rfl (ct_X7_its (l := l) (E := E) σ v3 2 er5) qw_696 qw_6 qw_693 qw_695 qs_8 yd_X7_its (by decide) (by decide) rfl (Nat.le_of_ble_eq_true rfl) dX7_shares_110) ?_
      refine qr_lmul dX7_shares_113 ?_
      exact qr_sub [0, 1, 2, 3, 4] rfl (wb_X7_shares_114 (l := l) (E := E) σ v1 v2 v3 v4 ((σ.2 210 4) * r5) h hT)
    · rw [if_neg c18] at h
      refine qr_aload_n dX7_shares_91 rfl 0 rfl ?_
      refine qr_iload_n dX7_shares_92 rfl 3 rfl ?_
      obtain ⟨r15, er15, h⟩ := qm_bind h
      refine qr_call1 (st1 := [.int (qm_b r15), .ref (qm_a E 210)]) rfl (qr_callV (id := 210) (c := 5) (As := [.int v3]) (st := [.ref (qm_a E 210)]) rfl (by decide) rfl (ct_X7_can (l := l) (E := E) σ v3 er15) qw_790 qw_6 qw_787 qw_789 qs_24 yd_X7_can (by decide) (by decide) rfl (Nat.le_of_ble_eq_true rfl) dX7_shares_93) ?_
      refine qr_if_eq (tgt := 103) dX7_shares_96 (by decide) (fun c17 => ?_) (fun c17 => ?_)
      · rw [if_pos c17] at h
        refine qr_aload_n dX7_shares_103 rfl 0 rfl ?_
        refine qr_get5 (k := 4) (v := .long (σ.2 210 4)) rfl (by decide) rfl qw_628 dX7_shares_104 ?_
        refine qr_aload_n dX7_shares_107 rfl 0 rfl ?_
        refine qr_iload_n dX7_shares_108 rfl 3 rfl ?_
        refine qr_iconst (v := 2) dX7_shares_109 (by decide) ?_
        obtain ⟨r16, er16, h⟩ := qm_bind h
        refine qr_call1 (st1 := [.long r16, .long (σ.2 210 4), .ref (qm_a E 210)]) rfl (qr_callV (id := 210) (c := 5) (As := [.int v3, .int 2]) (st := [.long (σ.2 210 4), .ref (qm_a E 210)]) rfl (by decide) rfl (ct_X7_its (l := l) (E := E) σ v3 2 er16) qw_696 qw_6 qw_693 qw_695 qs_8 yd_X7_its (by decide) (by decide) rfl (Nat.le_of_ble_eq_true rfl) dX7_shares_110) ?_
        refine qr_lmul dX7_shares_113 ?_
        exact qr_sub [0, 1, 2, 3, 4] rfl (wb_X7_shares_114 (l := l) (E := E) σ v1 v2 v3 v4 ((σ.2 210 4) * r16) h hT)
      · rw [if_neg c17] at h
        refine qr_lconst (v := 0) dX7_shares_99 (by decide) ?_
        refine qr_goto (tgt := 114) dX7_shares_100 (by decide) ?_
        exact qr_sub [0, 1, 2, 3, 4] rfl (wb_X7_shares_114 (l := l) (E := E) σ v1 v2 v3 v4 0 h hT)
  · rw [if_neg c31] at h
    refine qr_lload dX7_shares_39 4 rfl ?_
    refine qr_aload_n dX7_shares_41 rfl 0 rfl ?_
    refine qr_iload dX7_shares_42 5 rfl ?_
    refine qr_aload_n dX7_shares_44 rfl 0 rfl ?_
    refine qr_iload_n dX7_shares_45 rfl 3 rfl ?_
    obtain ⟨r20, er20, h⟩ := qm_bind h
    refine qr_call1 (st1 := [.int r20, .int v6, .ref (qm_a E 210), .long v4]) rfl (qr_callV (id := 210) (c := 5) (As := [.int v3]) (st := [.int v6, .ref (qm_a E 210), .long v4]) rfl (by decide) rfl (ct_X7_parent (l := l) (E := E) σ v3 er20) qw_727 qw_6 qw_724 qw_726 qs_15 yd_X7_parent (by decide) (by decide) rfl (Nat.le_of_ble_eq_true rfl) dX7_shares_46) ?_
    obtain ⟨r21, er21, h⟩ := qm_bind h
    refine qr_call1 (st1 := [.int (qm_b r21), .long v4]) rfl (qr_callV (id := 210) (c := 5) (As := [.int v6, .int r20]) (st := [.long v4]) rfl (by decide) rfl (ct_X7_isChild (l := l) (E := E) σ v6 r20 er21) qw_723 qw_6 qw_720 qw_722 qs_14 yd_X7_isChild (by decide) (by decide) rfl (Nat.le_of_ble_eq_true rfl) dX7_shares_49) ?_
    refine qr_if_eq (tgt := 75) dX7_shares_52 (by decide) (fun c30 => ?_) (fun c30 => ?_)
    · rw [if_pos c30] at h
      refine qr_lconst (v := 0) dX7_shares_75 (by decide) ?_
      refine qr_ladd dX7_shares_76 ?_
      obtain ⟨z22, ez22, h⟩ := qm_bind h
      refine qr_eqj (Option.some.inj ez22) ?_
      refine qr_lstore (lv' := [(4, .long z22), (0, .ref (qm_a E 210)), (1, .int v1), (2, .int v2), (3, .int v3), (6, .int v6)]) dX7_shares_77 (by decide) rfl ?_
      obtain ⟨z23, ez23, h⟩ := qm_bind h
      refine qr_iinc (q := 5) (v := z23) (lv' := [(6, .int z23), (4, .long z22), (0, .ref (qm_a E 210)), (1, .int v1), (2, .int v2), (3, .int v3)]) dX7_shares_79 rfl (Option.some.inj ez23) (by decide) rfl ?_
      refine qr_goto (tgt := 32) dX7_shares_82 (by decide) ?_
      obtain rfl := Option.some.inj h
      exact qr_sub [2, 3, 4, 5, 1, 0] rfl hT
    · rw [if_neg c30] at h
      refine qr_iload_n dX7_shares_55 rfl 2 rfl ?_
      refine qr_iload dX7_shares_56 5 rfl ?_
      refine qr_ishr dX7_shares_58 ?_
      refine qr_iconst (v := 1) dX7_shares_59 (by decide) ?_
      refine qr_iand dX7_shares_60 ?_
      refine qr_iconst (v := 1) dX7_shares_61 (by decide) ?_
      refine qr_icmp_ne (tgt := 75) dX7_shares_62 (by decide) (fun c29 => ?_) (fun c29 => ?_)
      · rw [if_neg c29] at h
        refine qr_lconst (v := 0) dX7_shares_75 (by decide) ?_
        refine qr_ladd dX7_shares_76 ?_
        obtain ⟨z24, ez24, h⟩ := qm_bind h
        refine qr_eqj (Option.some.inj ez24) ?_
        refine qr_lstore (lv' := [(4, .long z24), (0, .ref (qm_a E 210)), (1, .int v1), (2, .int v2), (3, .int v3), (6, .int v6)]) dX7_shares_77 (by decide) rfl ?_
        obtain ⟨z25, ez25, h⟩ := qm_bind h
        refine qr_iinc (q := 5) (v := z25) (lv' := [(6, .int z25), (4, .long z24), (0, .ref (qm_a E 210)), (1, .int v1), (2, .int v2), (3, .int v3)]) dX7_shares_79 rfl (Option.some.inj ez25) (by decide) rfl ?_
        refine qr_goto (tgt := 32) dX7_shares_82 (by decide) ?_
        obtain rfl := Option.some.inj h
        exact qr_sub [2, 3, 4, 5, 1, 0] rfl hT
      · rw [if_pos c29] at h
        refine qr_aload_n dX7_shares_65 rfl 0 rfl ?_
        refine qr_iload dX7_shares_66 5 rfl ?_
        refine qr_iconst (v := 2) dX7_shares_68 (by decide) ?_
        obtain ⟨r26, er26, h⟩ := qm_bind h
        refine qr_call1 (st1 := [.long r26, .long v4]) rfl (qr_callV (id := 210) (c := 5) (As := [.int v6, .int 2]) (st := [.long v4]) rfl (by decide) rfl (ct_X7_its (l := l) (E := E) σ v6 2 er26) qw_696 qw_6 qw_693 qw_695 qs_8 yd_X7_its (by decide) (by decide) rfl (Nat.le_of_ble_eq_true rfl) dX7_shares_69) ?_
        refine qr_goto (tgt := 76) dX7_shares_72 (by decide) ?_
        refine qr_ladd dX7_shares_76 ?_
        obtain ⟨z27, ez27, h⟩ := qm_bind h
        refine qr_eqj (Option.some.inj ez27) ?_
        refine qr_lstore (lv' := [(4, .long z27), (0, .ref (qm_a E 210)), (1, .int v1), (2, .int v2), (3, .int v3), (6, .int v6)]) dX7_shares_77 (by decide) rfl ?_
        obtain ⟨z28, ez28, h⟩ := qm_bind h
        refine qr_iinc (q := 5) (v := z28) (lv' := [(6, .int z28), (4, .long z27), (0, .ref (qm_a E 210)), (1, .int v1), (2, .int v2), (3, .int v3)]) dX7_shares_79 rfl (Option.some.inj ez28) (by decide) rfl ?_
        refine qr_goto (tgt := 32) dX7_shares_82 (by decide) ?_
        obtain rfl := Option.some.inj h
        exact qr_sub [2, 3, 4, 5, 1, 0] rfl hT
def lp_X7_shares_32 (σ : qm_M) (v1 : Int32) (v2 : Int32) (v3 : Int32) (v4 : Int64) (v6 : Int32) : Option ((Int32 × qm_M) ⊕ (qm_M)) := qm_loop (fun s : Int64 × Int32 => bb_X7_shares_32 σ v1 v2 v3 s.1 s.2) 1000 (v4, v6)
theorem wl_X7_shares_32 {l : Launch} {E : qm_E} (σ : qm_M) (v1 : Int32) (v2 : Int32) (v3 : Int32) (v4 : Int64) (v6 : Int32) {x : (Int32 × qm_M) ⊕ (qm_M)} (h : lp_X7_shares_32 σ v1 v2 v3 v4 v6 = some x) {r : Option Value × qm_M} (hT : (qm_T (pp_X7_shares_22 l E v1 v2) (fun x r => (none, x) = r)) x r) : qm_Wp l E kd_X7_shares "HungStreamsModel" cX7_shares 8 32 [(0, .ref (qm_a E 210)), (1, .int v1), (2, .int v2), (3, .int v3), (4, .long v4), (6, .int v6)] [] σ r :=
  qm_loop_T (P := pp_X7_shares_32 l E σ v1 v2 v3) (T1 := (qm_T (pp_X7_shares_22 l E v1 v2) (fun x r => (none, x) = r))) (fun s x h r hT => wb_X7_shares_32 (l := l) (E := E) σ v1 v2 v3 s.1 s.2  h hT) h hT
def bb_X7_shares_22 (σ : qm_M) (v1 : Int32) (v2 : Int32) (v3 : Int32) : Option ((Int32 × qm_M) ⊕ (qm_M)) :=
  if v3 = 0 then (some σ).bind (fun y => some (.inr y)) else lp_X7_shares_32 σ v1 v2 v3 0 1
set_option maxRecDepth 20000 in
theorem wb_X7_shares_22 {l : Launch} {E : qm_E} (σ : qm_M) (v1 : Int32) (v2 : Int32) (v3 : Int32) {x : (Int32 × qm_M) ⊕ (qm_M)} (h : bb_X7_shares_22 σ v1 v2 v3 = some x) {r : Option Value × qm_M} (hT : (qm_T (pp_X7_shares_22 l E v1 v2) (fun x r => (none, x) = r)) x r) : qm_Wp l E kd_X7_shares "HungStreamsModel" cX7_shares 8 22 [(0, .ref (qm_a E 210)), (1, .int v1), (2, .int v2), (3, .int v3)] [] σ r := by
  unfold bb_X7_shares_22 at h
  refine qr_iload_n dX7_shares_22 rfl 3 rfl ?_
  refine qr_if_eq (tgt := 183) dX7_shares_23 (by decide) (fun c32 => ?_) (fun c32 => ?_)
  · rw [if_pos c32] at h
    obtain ⟨y4, h1, hx⟩ := qm_bind h
    clear h
    cases hx
    have h := h1
    obtain rfl := Option.some.inj h
    cases hT
    exact qr_vret dX7_shares_183
  · rw [if_neg c32] at h
    refine qr_lconst (v := 0) dX7_shares_26 (by decide) ?_
    refine qr_lstore (lv' := [(4, .long 0), (0, .ref (qm_a E 210)), (1, .int v1), (2, .int v2), (3, .int v3)]) dX7_shares_27 (by decide) rfl ?_
    refine qr_iconst (v := 1) dX7_shares_29 (by decide) ?_
    refine qr_istore (lv' := [(6, .int 1), (4, .long 0), (0, .ref (qm_a E 210)), (1, .int v1), (2, .int v2), (3, .int v3)]) dX7_shares_30 (by decide) rfl ?_
    exact qr_sub [2, 3, 4, 5, 1, 0] rfl (wl_X7_shares_32 (l := l) (E := E) σ v1 v2 v3 0 1 h hT)
def lp_X7_shares_22 (σ : qm_M) (v1 : Int32) (v2 : Int32) (v3 : Int32) : Option (qm_M) := qm_loop (fun s : Int32 × qm_M => bb_X7_shares_22 s.2 v1 v2 s.1) 1000 (v3, σ)
theorem wl_X7_shares_22 {l : Launch} {E : qm_E} (σ : qm_M) (v1 : Int32) (v2 : Int32) (v3 : Int32) {x : qm_M} (h : lp_X7_shares_22 σ v1 v2 v3 = some x) {r : Option Value × qm_M} (hT : (fun x r => (none, x) = r) x r) : qm_Wp l E kd_X7_shares "HungStreamsModel" cX7_shares 8 22 [(0, .ref (qm_a E 210)), (1, .int v1), (2, .int v2), (3, .int v3)] [] σ r :=
  qm_loop_T (P := pp_X7_shares_22 l E v1 v2) (T1 := (fun x r => (none, x) = r)) (fun s x h r hT => wb_X7_shares_22 (l := l) (E := E) s.2 v1 v2 s.1  h hT) h hT
def fn_X7_shares (σ : qm_M) (v1 : Int32) : Option (qm_M) :=
  (fn_X7_liveSet σ ).bind (fun r1 => (some (qm_sl σ 210 4 (((r1 >>> (v1 &&& 31)) &&& 1).toInt64))).bind (fun σ2 => (some (qm_sl σ2 210 5 1)).bind (fun σ3 => lp_X7_shares_22 σ3 v1 r1 v1)))
set_option maxRecDepth 20000 in
theorem wf_X7_shares {l : Launch} {E : qm_E} (σ : qm_M) (v1 : Int32) {x : qm_M} (h : fn_X7_shares σ v1 = some x) {r : Option Value × qm_M} (hT : (fun x r => (none, x) = r) x r) : qm_Wp l E kd_X7_shares "HungStreamsModel" cX7_shares 8 0 [(0, .ref (qm_a E 210)), (1, .int v1)] [] σ r := by
  unfold fn_X7_shares at h
  refine qr_aload_n dX7_shares_0 rfl 0 rfl ?_
  obtain ⟨r1, er1, h⟩ := qm_bind h
  refine qr_call1 (st1 := [.int r1]) rfl (qr_callV (id := 210) (c := 5) (As := []) (st := []) rfl (by decide) rfl (ct_X7_liveSet (l := l) (E := E) σ  er1) qw_838 qw_6 qw_835 qw_837 qs_28 yd_X7_liveSet (by decide) (by decide) rfl (Nat.le_of_ble_eq_true rfl) dX7_shares_1) ?_
  refine qr_istore_n (lv' := [(2, .int r1), (0, .ref (qm_a E 210)), (1, .int v1)]) dX7_shares_4 rfl (by decide) rfl ?_
  refine qr_aload_n dX7_shares_5 rfl 1 rfl ?_
  refine qr_iload_n dX7_shares_6 rfl 0 rfl ?_
  refine qr_iload_n dX7_shares_7 rfl 2 rfl ?_
  refine qr_ishr dX7_shares_8 ?_
  refine qr_iconst (v := 1) dX7_shares_9 (by decide) ?_
  refine qr_iand dX7_shares_10 ?_
  refine qr_i2l dX7_shares_11 ?_
  obtain ⟨σ2, eσ2, h⟩ := qm_bind h
  refine qr_put5_4 rfl qw_628 dX7_shares_12 (qr_eqm (Option.some.inj eσ2) ?_)
  refine qr_aload_n dX7_shares_15 rfl 1 rfl ?_
  refine qr_lconst (v := 1) dX7_shares_16 (by decide) ?_
  obtain ⟨σ3, eσ3, h⟩ := qm_bind h
  refine qr_put5_5 rfl qw_629 dX7_shares_17 (qr_eqm (Option.some.inj eσ3) ?_)
  refine qr_iload_n dX7_shares_20 rfl 2 rfl ?_
  refine qr_istore_n (lv' := [(3, .int v1), (2, .int r1), (0, .ref (qm_a E 210)), (1, .int v1)]) dX7_shares_21 rfl (by decide) rfl ?_
  exact qr_sub [2, 3, 1, 0] rfl (wl_X7_shares_22 (l := l) (E := E) σ3 v1 r1 v1 h hT)
theorem ct_X7_shares {l : Launch} {E : qm_E} (σ : qm_M) (v1 : Int32) {x : qm_M} (h : fn_X7_shares σ v1 = some x) : qm_Ct l E kd_X7_shares yX7_shares cX7_shares 8 none [.ref (qm_a E 210), .int v1] σ (none, x) := qm_ofWp rfl (Nat.le_of_ble_eq_true rfl) (rfl) (wf_X7_shares σ v1  h rfl)
-- HungStreamsModel.share (II)J
abbrev kd_X7_share : Nat := 7
theorem yd_X7_share : (yX7_share).cls ≠ "java/lang/invoke/MethodHandle" ∧ (yX7_share).cls ≠ "java/lang/invoke/VarHandle" ∧ (parseMethodDescriptor (yX7_share).desc).map (fun d => d.parameters.length) = some 2 := by decide +kernel
def fn_X7_share (σ : qm_M) (v1 : Int32) (v2 : Int32) : Option (Int64 × qm_M) :=
  (fn_X7_isStream σ v1).bind (fun r1 => if (qm_b r1) = 0 then (fn_X7_refuses σ (-2)).bind (fun r2 => some (r2.1.toInt64, r2.2)) else (fn_X7_in σ v2.toInt64 0 1).bind (fun r3 => if (qm_b r3) = 0 then (fn_X7_refuses σ (-2)).bind (fun r6 => some (r6.1.toInt64, r6.2)) else (fn_X7_shares σ v1).bind (fun r4 => if v2 = 0 then some (r4.2 210 4, r4) else some (r4.2 210 5, r4))))
set_option maxRecDepth 20000 in
theorem wf_X7_share {l : Launch} {E : qm_E} (σ : qm_M) (v1 : Int32) (v2 : Int32) {x : Int64 × qm_M} (h : fn_X7_share σ v1 v2 = some x) {r : Option Value × qm_M} (hT : (fun x r => (some (.long x.1), x.2) = r) x r) : qm_Wp l E kd_X7_share "HungStreamsModel" cX7_share 3 0 [(0, .ref (qm_a E 210)), (1, .int v1), (2, .int v2)] [] σ r := by
  unfold fn_X7_share at h
  refine qr_aload_n dX7_share_0 rfl 0 rfl ?_
  refine qr_iload_n dX7_share_1 rfl 1 rfl ?_
  obtain ⟨r1, er1, h⟩ := qm_bind h
  refine qr_call1 (st1 := [.int (qm_b r1)]) rfl (qr_callV (id := 210) (c := 5) (As := [.int v1]) (st := []) rfl (by decide) rfl (ct_X7_isStream (l := l) (E := E) σ v1 er1) qw_692 qw_6 qw_689 qw_691 qs_7 yd_X7_isStream (by decide) (by decide) rfl (Nat.le_of_ble_eq_true rfl) dX7_share_2) ?_
  refine qr_if_eq (tgt := 18) dX7_share_5 (by decide) (fun c8 => ?_) (fun c8 => ?_)
  · rw [if_pos c8] at h
    refine qr_aload_n dX7_share_18 rfl 0 rfl ?_
    refine qr_bipush (v := (-2)) dX7_share_19 (by decide) ?_
    obtain ⟨r2, er2, h⟩ := qm_bind h
    refine qr_call1 (st1 := [.int r2.1]) rfl (qr_callV (id := 210) (c := 5) (As := [.int (-2)]) (st := []) rfl (by decide) rfl (ct_X7_refuses (l := l) (E := E) σ (-2) er2) qw_701 qw_6 qw_698 qw_700 qs_9 yd_X7_refuses (by decide) (by decide) rfl (Nat.le_of_ble_eq_true rfl) dX7_share_21) ?_
    refine qr_i2l dX7_share_24 ?_
    obtain rfl := Option.some.inj h
    cases hT
    exact qr_lret dX7_share_25
  · rw [if_neg c8] at h
    refine qr_iload_n dX7_share_8 rfl 2 rfl ?_
    refine qr_i2l dX7_share_9 ?_
    refine qr_lconst (v := 0) dX7_share_10 (by decide) ?_
    refine qr_lconst (v := 1) dX7_share_11 (by decide) ?_
    obtain ⟨r3, er3, h⟩ := qm_bind h
    refine qr_call1 (st1 := [.int (qm_b r3)]) rfl (qr_callS (As := [.long v2.toInt64, .long 0, .long 1]) (st := []) (ct_X7_in (l := l) (E := E) σ v2.toInt64 0 1 er3) qw_684 qw_6 qw_682 qw_683 yd_X7_in (by decide) (by decide) rfl (Nat.le_of_ble_eq_true rfl) dX7_share_12) ?_
    refine qr_if_ne (tgt := 26) dX7_share_15 (by decide) (fun c7 => ?_) (fun c7 => ?_)
    · rw [if_neg c7] at h
      refine qr_aload_n dX7_share_26 rfl 0 rfl ?_
      refine qr_iload_n dX7_share_27 rfl 1 rfl ?_
      obtain ⟨r4, er4, h⟩ := qm_bind h
      refine qr_call1 (st1 := []) rfl (qr_callV (id := 210) (c := 5) (As := [.int v1]) (st := []) rfl (by decide) rfl (ct_X7_shares (l := l) (E := E) σ v1 er4) qw_887 qw_6 qw_884 qw_886 qs_38 yd_X7_shares (by decide) (by decide) rfl (Nat.le_of_ble_eq_true rfl) dX7_share_28) ?_
      refine qr_iload_n dX7_share_31 rfl 2 rfl ?_
      refine qr_if_ne (tgt := 42) dX7_share_32 (by decide) (fun c5 => ?_) (fun c5 => ?_)
      · rw [if_neg c5] at h
        refine qr_aload_n dX7_share_42 rfl 0 rfl ?_
        refine qr_get5 (k := 5) (v := .long (r4.2 210 5)) rfl (by decide) rfl qw_629 dX7_share_43 ?_
        obtain rfl := Option.some.inj h
        cases hT
        exact qr_lret dX7_share_46
      · rw [if_pos c5] at h
        refine qr_aload_n dX7_share_35 rfl 0 rfl ?_
        refine qr_get5 (k := 4) (v := .long (r4.2 210 4)) rfl (by decide) rfl qw_628 dX7_share_36 ?_
        refine qr_goto (tgt := 46) dX7_share_39 (by decide) ?_
        obtain rfl := Option.some.inj h
        cases hT
        exact qr_lret dX7_share_46
    · rw [if_pos c7] at h
      refine qr_aload_n dX7_share_18 rfl 0 rfl ?_
      refine qr_bipush (v := (-2)) dX7_share_19 (by decide) ?_
      obtain ⟨r6, er6, h⟩ := qm_bind h
      refine qr_call1 (st1 := [.int r6.1]) rfl (qr_callV (id := 210) (c := 5) (As := [.int (-2)]) (st := []) rfl (by decide) rfl (ct_X7_refuses (l := l) (E := E) σ (-2) er6) qw_701 qw_6 qw_698 qw_700 qs_9 yd_X7_refuses (by decide) (by decide) rfl (Nat.le_of_ble_eq_true rfl) dX7_share_21) ?_
      refine qr_i2l dX7_share_24 ?_
      obtain rfl := Option.some.inj h
      cases hT
      exact qr_lret dX7_share_25
theorem ct_X7_share {l : Launch} {E : qm_E} (σ : qm_M) (v1 : Int32) (v2 : Int32) {x : Int64 × qm_M} (h : fn_X7_share σ v1 v2 = some x) : qm_Ct l E kd_X7_share yX7_share cX7_share 3 (some .long) [.ref (qm_a E 210), .int v1, .int v2] σ (some (.long x.1), x.2) := qm_ofWp rfl (Nat.le_of_ble_eq_true rfl) (rfl) (wf_X7_share σ v1 v2  h rfl)
-- HungStreamsModel.allNow (I)I
abbrev kd_X7_allNow : Nat := 6
theorem yd_X7_allNow : (yX7_allNow).cls ≠ "java/lang/invoke/MethodHandle" ∧ (yX7_allNow).cls ≠ "java/lang/invoke/VarHandle" ∧ (parseMethodDescriptor (yX7_allNow).desc).map (fun d => d.parameters.length) = some 1 := by decide +kernel
abbrev pp_X7_allNow_8 (l : Launch) (E : qm_E) (σ : qm_M) (v1 : Int32) : (Int64 × Int64 × Int32) → Option Value × qm_M → Prop := fun s r => qm_Wp l E kd_X7_allNow "HungStreamsModel" cX7_allNow 7 8 [(0, .ref (qm_a E 210)), (1, .int v1), (2, .long s.1), (4, .long s.2.1), (6, .int s.2.2)] [] σ r
def bb_X7_allNow_37 (σ : qm_M) (v1 : Int32) (v4 : Int64) (v6 : Int32) (k0 : Int64) (k1 : Int64) : Option ((Int64 × Int64 × Int32) ⊕ (Int32)) :=
  (some (k1 + k0)).bind (fun z14 => (fn_X7_isStream σ v6).bind (fun r15 => if (qm_b r15) = 0 then (some (v6 + 1)).bind (fun z16 => some (.inl (z14, v4, z16))) else (fn_X7_its σ v6 13).bind (fun r17 => if (lg_cmp r17 v4) ≤ 0 then (some (v6 + 1)).bind (fun z18 => some (.inl (z14, v4, z18))) else (fn_X7_its σ v6 13).bind (fun r19 => (some (v6 + 1)).bind (fun z20 => some (.inl (z14, r19, z20)))))))
set_option maxRecDepth 20000 in
theorem wb_X7_allNow_37 {l : Launch} {E : qm_E} (σ : qm_M) (v1 : Int32) (v4 : Int64) (v6 : Int32) (k0 : Int64) (k1 : Int64) {x : (Int64 × Int64 × Int32) ⊕ (Int32)} (h : bb_X7_allNow_37 σ v1 v4 v6 k0 k1 = some x) {r : Option Value × qm_M} (hT : (qm_T (pp_X7_allNow_8 l E σ v1) (fun x r => (some (.int x), σ) = r)) x r) : qm_Wp l E kd_X7_allNow "HungStreamsModel" cX7_allNow 7 37 [(0, .ref (qm_a E 210)), (1, .int v1), (4, .long v4), (6, .int v6)] [.long k0, .long k1] σ r := by
  unfold bb_X7_allNow_37 at h
  refine qr_ladd dX7_allNow_37 ?_
  obtain ⟨z14, ez14, h⟩ := qm_bind h
  refine qr_eqj (Option.some.inj ez14) ?_
  refine qr_lstore_n (lv' := [(2, .long z14), (0, .ref (qm_a E 210)), (1, .int v1), (4, .long v4), (6, .int v6)]) dX7_allNow_38 rfl (by decide) rfl ?_
  refine qr_aload_n dX7_allNow_39 rfl 1 rfl ?_
  refine qr_iload dX7_allNow_40 4 rfl ?_
  obtain ⟨r15, er15, h⟩ := qm_bind h
  refine qr_call1 (st1 := [.int (qm_b r15)]) rfl (qr_callV (id := 210) (c := 5) (As := [.int v6]) (st := []) rfl (by decide) rfl (ct_X7_isStream (l := l) (E := E) σ v6 er15) qw_692 qw_6 qw_689 qw_691 qs_7 yd_X7_isStream (by decide) (by decide) rfl (Nat.le_of_ble_eq_true rfl) dX7_allNow_42) ?_
  refine qr_if_eq (tgt := 73) dX7_allNow_45 (by decide) (fun c22 => ?_) (fun c22 => ?_)
  · rw [if_pos c22] at h
    refine qr_lload dX7_allNow_73 3 rfl ?_
    refine qr_lstore (lv' := [(4, .long v4), (2, .long z14), (0, .ref (qm_a E 210)), (1, .int v1), (6, .int v6)]) dX7_allNow_75 (by decide) rfl ?_
    obtain ⟨z16, ez16, h⟩ := qm_bind h
    refine qr_iinc (q := 4) (v := z16) (lv' := [(6, .int z16), (4, .long v4), (2, .long z14), (0, .ref (qm_a E 210)), (1, .int v1)]) dX7_allNow_77 rfl (Option.some.inj ez16) (by decide) rfl ?_
    refine qr_goto (tgt := 8) dX7_allNow_80 (by decide) ?_
    obtain rfl := Option.some.inj h
    exact qr_sub [3, 4, 2, 1, 0] rfl hT
  · rw [if_neg c22] at h
    refine qr_aload_n dX7_allNow_48 rfl 1 rfl ?_
    refine qr_iload dX7_allNow_49 4 rfl ?_
    refine qr_bipush (v := 13) dX7_allNow_51 (by decide) ?_
    obtain ⟨r17, er17, h⟩ := qm_bind h
    refine qr_call1 (st1 := [.long r17]) rfl (qr_callV (id := 210) (c := 5) (As := [.int v6, .int 13]) (st := []) rfl (by decide) rfl (ct_X7_its (l := l) (E := E) σ v6 13 er17) qw_696 qw_6 qw_693 qw_695 qs_8 yd_X7_its (by decide) (by decide) rfl (Nat.le_of_ble_eq_true rfl) dX7_allNow_53) ?_
    refine qr_lload dX7_allNow_56 3 rfl ?_
    refine qr_lcmp dX7_allNow_58 ?_
    refine qr_if_le (tgt := 73) dX7_allNow_59 (by decide) (fun c21 => ?_) (fun c21 => ?_)
    · rw [if_pos c21] at h
      refine qr_lload dX7_allNow_73 3 rfl ?_
      refine qr_lstore (lv' := [(4, .long v4), (2, .long z14), (0, .ref (qm_a E 210)), (1, .int v1), (6, .int v6)]) dX7_allNow_75 (by decide) rfl ?_
      obtain ⟨z18, ez18, h⟩ := qm_bind h
      refine qr_iinc (q := 4) (v := z18) (lv' := [(6, .int z18), (4, .long v4), (2, .long z14), (0, .ref (qm_a E 210)), (1, .int v1)]) dX7_allNow_77 rfl (Option.some.inj ez18) (by decide) rfl ?_
      refine qr_goto (tgt := 8) dX7_allNow_80 (by decide) ?_
      obtain rfl := Option.some.inj h
      exact qr_sub [3, 4, 2, 1, 0] rfl hT
    · rw [if_neg c21] at h
      refine qr_aload_n dX7_allNow_62 rfl 1 rfl ?_
      refine qr_iload dX7_allNow_63 4 rfl ?_
      refine qr_bipush (v := 13) dX7_allNow_65 (by decide) ?_
      obtain ⟨r19, er19, h⟩ := qm_bind h
      refine qr_call1 (st1 := [.long r19]) rfl (qr_callV (id := 210) (c := 5) (As := [.int v6, .int 13]) (st := []) rfl (by decide) rfl (ct_X7_its (l := l) (E := E) σ v6 13 er19) qw_696 qw_6 qw_693 qw_695 qs_8 yd_X7_its (by decide) (by decide) rfl (Nat.le_of_ble_eq_true rfl) dX7_allNow_67) ?_
      refine qr_goto (tgt := 75) dX7_allNow_70 (by decide) ?_
      refine qr_lstore (lv' := [(4, .long r19), (2, .long z14), (0, .ref (qm_a E 210)), (1, .int v1), (6, .int v6)]) dX7_allNow_75 (by decide) rfl ?_
      obtain ⟨z20, ez20, h⟩ := qm_bind h
      refine qr_iinc (q := 4) (v := z20) (lv' := [(6, .int z20), (4, .long r19), (2, .long z14), (0, .ref (qm_a E 210)), (1, .int v1)]) dX7_allNow_77 rfl (Option.some.inj ez20) (by decide) rfl ?_
      refine qr_goto (tgt := 8) dX7_allNow_80 (by decide) ?_
      obtain rfl := Option.some.inj h
      exact qr_sub [3, 4, 2, 1, 0] rfl hT
def bb_X7_allNow_8 (σ : qm_M) (v1 : Int32) (v2 : Int64) (v4 : Int64) (v6 : Int32) : Option ((Int64 × Int64 × Int32) ⊕ (Int32)) :=
  if 12 < v6 then (if v1 = 0 then (fn_X7_there σ ).bind (fun r1 => some r1) else if v1 = 1 then (fn_X7_canSet σ ).bind (fun r3 => some r3) else if v1 = 2 then (fn_X7_liveSet σ ).bind (fun r5 => some r5) else if v1 = 3 then some v2.toInt32 else if v1 = 4 then some v4.toInt32 else if v1 = 5 then some ((σ.2 211 (213 : Int32).toNatClampNeg).toInt32) else some ((σ.2 211 (214 : Int32).toNatClampNeg).toInt32)).bind (fun y => some (.inr y)) else (fn_X7_isStream σ v6).bind (fun r13 => if (qm_b r13) = 0 then bb_X7_allNow_37 σ v1 v4 v6 0 v2 else (fn_X7_its σ v6 11).bind (fun r23 => bb_X7_allNow_37 σ v1 v4 v6 r23 v2))
set_option maxRecDepth 20000 in
theorem wb_X7_allNow_8 {l : Launch} {E : qm_E} (σ : qm_M) (v1 : Int32) (v2 : Int64) (v4 : Int64) (v6 : Int32) {x : (Int64 × Int64 × Int32) ⊕ (Int32)} (h : bb_X7_allNow_8 σ v1 v2 v4 v6 = some x) {r : Option Value × qm_M} (hT : (qm_T (pp_X7_allNow_8 l E σ v1) (fun x r => (some (.int x), σ) = r)) x r) : qm_Wp l E kd_X7_allNow "HungStreamsModel" cX7_allNow 7 8 [(0, .ref (qm_a E 210)), (1, .int v1), (2, .long v2), (4, .long v4), (6, .int v6)] [] σ r := by
  unfold bb_X7_allNow_8 at h
  refine qr_iload dX7_allNow_8 4 rfl ?_
  refine qr_bipush (v := 12) dX7_allNow_10 (by decide) ?_
  refine qr_icmp_gt (tgt := 83) dX7_allNow_12 (by decide) (fun c25 => ?_) (fun c25 => ?_)
  · rw [if_pos c25] at h
    obtain ⟨y12, h1, hx⟩ := qm_bind h
    clear h
    cases hx
    have h := h1
    refine qr_iload_n dX7_allNow_83 rfl 1 rfl ?_
    by_cases c2 : v1 = 0
    · rw [if_pos c2] at h
      have tc2 : (v1).toInt = 0 := by rw [c2]; rfl
      refine qr_tableIn (tgt := 120) dX7_allNow_84 (by omega) (by omega) (by rw [tc2]; rfl) (by decide) ?_
      refine qr_aload_n dX7_allNow_120 rfl 0 rfl ?_
      obtain ⟨r1, er1, h⟩ := qm_bind h
      refine qr_call1 (st1 := [.int r1]) rfl (qr_callV (id := 210) (c := 5) (As := []) (st := []) rfl (by decide) rfl (ct_X7_there (l := l) (E := E) σ  er1) qw_770 qw_6 qw_767 qw_769 qs_21 yd_X7_there (by decide) (by decide) rfl (Nat.le_of_ble_eq_true rfl) dX7_allNow_121) ?_
      obtain rfl := Option.some.inj h
      cases hT
      exact qr_iret dX7_allNow_124
    rw [if_neg c2] at h
    by_cases c4 : v1 = 1
    · rw [if_pos c4] at h
      have tc4 : (v1).toInt = 1 := by rw [c4]; rfl
      refine qr_tableIn (tgt := 125) dX7_allNow_84 (by omega) (by omega) (by rw [tc4]; rfl) (by decide) ?_
      refine qr_aload_n dX7_allNow_125 rfl 0 rfl ?_
      obtain ⟨r3, er3, h⟩ := qm_bind h
      refine qr_call1 (st1 := [.int r3]) rfl (qr_callV (id := 210) (c := 5) (As := []) (st := []) rfl (by decide) rfl (ct_X7_canSet (l := l) (E := E) σ  er3) qw_870 qw_6 qw_867 qw_869 qs_35 yd_X7_canSet (by decide) (by decide) rfl (Nat.le_of_ble_eq_true rfl) dX7_allNow_126) ?_
      obtain rfl := Option.some.inj h
      cases hT
      exact qr_iret dX7_allNow_129
    rw [if_neg c4] at h
    by_cases c6 : v1 = 2
    · rw [if_pos c6] at h
      have tc6 : (v1).toInt = 2 := by rw [c6]; rfl
      refine qr_tableIn (tgt := 130) dX7_allNow_84 (by omega) (by omega) (by rw [tc6]; rfl) (by decide) ?_
      refine qr_aload_n dX7_allNow_130 rfl 0 rfl ?_
      obtain ⟨r5, er5, h⟩ := qm_bind h
      refine qr_call1 (st1 := [.int r5]) rfl (qr_callV (id := 210) (c := 5) (As := []) (st := []) rfl (by decide) rfl (ct_X7_liveSet (l := l) (E := E) σ  er5) qw_838 qw_6 qw_835 qw_837 qs_28 yd_X7_liveSet (by decide) (by decide) rfl (Nat.le_of_ble_eq_true rfl) dX7_allNow_131) ?_
      obtain rfl := Option.some.inj h
      cases hT
      exact qr_iret dX7_allNow_134
    rw [if_neg c6] at h
    by_cases c7 : v1 = 3
    · rw [if_pos c7] at h
      have tc7 : (v1).toInt = 3 := by rw [c7]; rfl
      refine qr_tableIn (tgt := 135) dX7_allNow_84 (by omega) (by omega) (by rw [tc7]; rfl) (by decide) ?_
      refine qr_lload_n dX7_allNow_135 rfl 2 rfl ?_
      refine qr_l2i dX7_allNow_136 ?_
      obtain rfl := Option.some.inj h
      cases hT
      exact qr_iret dX7_allNow_137
    rw [if_neg c7] at h
    by_cases c8 : v1 = 4
    · rw [if_pos c8] at h
      have tc8 : (v1).toInt = 4 := by rw [c8]; rfl
      refine qr_tableIn (tgt := 138) dX7_allNow_84 (by omega) (by omega) (by rw [tc8]; rfl) (by decide) ?_
      refine qr_lload dX7_allNow_138 3 rfl ?_
      refine qr_l2i dX7_allNow_140 ?_
      obtain rfl := Option.some.inj h
      cases hT
      exact qr_iret dX7_allNow_141
    rw [if_neg c8] at h
    have nc2 := lv_neT c2 (show (0 : Int32).toInt = 0 from rfl)
    have nc4 := lv_neT c4 (show (1 : Int32).toInt = 1 from rfl)
    have nc6 := lv_neT c6 (show (2 : Int32).toInt = 2 from rfl)
    have nc7 := lv_neT c7 (show (3 : Int32).toInt = 3 from rfl)
    have nc8 := lv_neT c8 (show (4 : Int32).toInt = 4 from rfl)
    refine qr_tableOut (tgt := 142) dX7_allNow_84 (by omega) (by decide) ?_
    refine qr_aload_n dX7_allNow_142 rfl 0 rfl ?_
    refine qr_get5 (k := 0) (v := .ref (qm_a E 211)) rfl (by decide) rfl qw_624 dX7_allNow_143 ?_
    refine qr_iload_n dX7_allNow_146 rfl 1 rfl ?_
    refine qr_iconst (v := 5) dX7_allNow_147 (by decide) ?_
    refine qr_icmp_ne (tgt := 157) dX7_allNow_148 (by decide) (fun c11 => ?_) (fun c11 => ?_)
    · rw [if_neg c11] at h
      refine qr_sipush (v := 214) dX7_allNow_157 (by decide) ?_
      refine qr_lald rfl (by unfold vp_in; decide) dX7_allNow_160 ?_
      refine qr_l2i dX7_allNow_161 ?_
      obtain rfl := Option.some.inj h
      cases hT
      exact qr_iret dX7_allNow_162
    · rw [if_pos c11] at h
      refine qr_sipush (v := 213) dX7_allNow_151 (by decide) ?_
      refine qr_goto (tgt := 160) dX7_allNow_154 (by decide) ?_
      refine qr_lald rfl (by unfold vp_in; decide) dX7_allNow_160 ?_
      refine qr_l2i dX7_allNow_161 ?_
      obtain rfl := Option.some.inj h
      cases hT
      exact qr_iret dX7_allNow_162
  · rw [if_neg c25] at h
    refine qr_lload_n dX7_allNow_15 rfl 2 rfl ?_
    refine qr_aload_n dX7_allNow_16 rfl 0 rfl ?_
    refine qr_iload dX7_allNow_17 4 rfl ?_
    obtain ⟨r13, er13, h⟩ := qm_bind h
    refine qr_call1 (st1 := [.int (qm_b r13), .long v2]) rfl (qr_callV (id := 210) (c := 5) (As := [.int v6]) (st := [.long v2]) rfl (by decide) rfl (ct_X7_isStream (l := l) (E := E) σ v6 er13) qw_692 qw_6 qw_689 qw_691 qs_7 yd_X7_isStream (by decide) (by decide) rfl (Nat.le_of_ble_eq_true rfl) dX7_allNow_19) ?_
    refine qr_if_eq (tgt := 36) dX7_allNow_22 (by decide) (fun c24 => ?_) (fun c24 => ?_)
    · rw [if_pos c24] at h
      refine qr_lconst (v := 0) dX7_allNow_36 (by decide) ?_
      exact qr_sub [0, 1, 3, 4] rfl (wb_X7_allNow_37 (l := l) (E := E) σ v1 v4 v6 0 v2 h hT)
    · rw [if_neg c24] at h
      refine qr_aload_n dX7_allNow_25 rfl 0 rfl ?_
      refine qr_iload dX7_allNow_26 4 rfl ?_
      refine qr_bipush (v := 11) dX7_allNow_28 (by decide) ?_
      obtain ⟨r23, er23, h⟩ := qm_bind h
      refine qr_call1 (st1 := [.long r23, .long v2]) rfl (qr_callV (id := 210) (c := 5) (As := [.int v6, .int 11]) (st := [.long v2]) rfl (by decide) rfl (ct_X7_its (l := l) (E := E) σ v6 11 er23) qw_696 qw_6 qw_693 qw_695 qs_8 yd_X7_its (by decide) (by decide) rfl (Nat.le_of_ble_eq_true rfl) dX7_allNow_30) ?_
      refine qr_goto (tgt := 37) dX7_allNow_33 (by decide) ?_
      exact qr_sub [0, 1, 3, 4] rfl (wb_X7_allNow_37 (l := l) (E := E) σ v1 v4 v6 r23 v2 h hT)
def lp_X7_allNow_8 (σ : qm_M) (v1 : Int32) (v2 : Int64) (v4 : Int64) (v6 : Int32) : Option (Int32) := qm_loop (fun s : Int64 × Int64 × Int32 => bb_X7_allNow_8 σ v1 s.1 s.2.1 s.2.2) 1000 (v2, v4, v6)
theorem wl_X7_allNow_8 {l : Launch} {E : qm_E} (σ : qm_M) (v1 : Int32) (v2 : Int64) (v4 : Int64) (v6 : Int32) {x : Int32} (h : lp_X7_allNow_8 σ v1 v2 v4 v6 = some x) {r : Option Value × qm_M} (hT : (fun x r => (some (.int x), σ) = r) x r) : qm_Wp l E kd_X7_allNow "HungStreamsModel" cX7_allNow 7 8 [(0, .ref (qm_a E 210)), (1, .int v1), (2, .long v2), (4, .long v4), (6, .int v6)] [] σ r :=
  qm_loop_T (P := pp_X7_allNow_8 l E σ v1) (T1 := (fun x r => (some (.int x), σ) = r)) (fun s x h r hT => wb_X7_allNow_8 (l := l) (E := E) σ v1 s.1 s.2.1 s.2.2  h hT) h hT
def fn_X7_allNow (σ : qm_M) (v1 : Int32) : Option (Int32) :=
  lp_X7_allNow_8 σ v1 0 0 1
set_option maxRecDepth 20000 in
theorem wf_X7_allNow {l : Launch} {E : qm_E} (σ : qm_M) (v1 : Int32) {x : Int32} (h : fn_X7_allNow σ v1 = some x) {r : Option Value × qm_M} (hT : (fun x r => (some (.int x), σ) = r) x r) : qm_Wp l E kd_X7_allNow "HungStreamsModel" cX7_allNow 7 0 [(0, .ref (qm_a E 210)), (1, .int v1)] [] σ r := by
  unfold fn_X7_allNow at h
  refine qr_lconst (v := 0) dX7_allNow_0 (by decide) ?_
  refine qr_lstore_n (lv' := [(2, .long 0), (0, .ref (qm_a E 210)), (1, .int v1)]) dX7_allNow_1 rfl (by decide) rfl ?_
  refine qr_lconst (v := 0) dX7_allNow_2 (by decide) ?_
  refine qr_lstore (lv' := [(4, .long 0), (2, .long 0), (0, .ref (qm_a E 210)), (1, .int v1)]) dX7_allNow_3 (by decide) rfl ?_
  refine qr_iconst (v := 1) dX7_allNow_5 (by decide) ?_
  refine qr_istore (lv' := [(6, .int 1), (4, .long 0), (2, .long 0), (0, .ref (qm_a E 210)), (1, .int v1)]) dX7_allNow_6 (by decide) rfl ?_
  exact qr_sub [3, 4, 2, 1, 0] rfl (wl_X7_allNow_8 (l := l) (E := E) σ v1 0 0 1 h hT)
theorem ct_X7_allNow {l : Launch} {E : qm_E} (σ : qm_M) (v1 : Int32) {x : Int32} (h : fn_X7_allNow σ v1 = some x) : qm_Ct l E kd_X7_allNow yX7_allNow cX7_allNow 7 (some .int) [.ref (qm_a E 210), .int v1] σ (some (.int x), σ) := qm_ofWp rfl (Nat.le_of_ble_eq_true rfl) (Or.inl rfl) (wf_X7_allNow σ v1  h rfl)
-- HungStreamsModel.all (I)I
abbrev kd_X7_all : Nat := 7
theorem yd_X7_all : (yX7_all).cls ≠ "java/lang/invoke/MethodHandle" ∧ (yX7_all).cls ≠ "java/lang/invoke/VarHandle" ∧ (parseMethodDescriptor (yX7_all).desc).map (fun d => d.parameters.length) = some 1 := by decide +kernel
def fn_X7_all (σ : qm_M) (v1 : Int32) : Option (Int32 × qm_M) :=
  (fn_X7_in σ v1.toInt64 0 6).bind (fun r1 => if (qm_b r1) = 0 then (fn_X7_refuses σ (-2)).bind (fun r2 => some (r2.1, r2.2)) else (fn_X7_allNow σ v1).bind (fun r3 => some (r3, σ)))
set_option maxRecDepth 20000 in
theorem wf_X7_all {l : Launch} {E : qm_E} (σ : qm_M) (v1 : Int32) {x : Int32 × qm_M} (h : fn_X7_all σ v1 = some x) {r : Option Value × qm_M} (hT : (fun x r => (some (.int x.1), x.2) = r) x r) : qm_Wp l E kd_X7_all "HungStreamsModel" cX7_all 2 0 [(0, .ref (qm_a E 210)), (1, .int v1)] [] σ r := by
  unfold fn_X7_all at h
  refine qr_iload_n dX7_all_0 rfl 1 rfl ?_
  refine qr_i2l dX7_all_1 ?_
  refine qr_lconst (v := 0) dX7_all_2 (by decide) ?_
  refine qr_ldc2 qw_895 dX7_all_3 ?_
  obtain ⟨r1, er1, h⟩ := qm_bind h
  refine qr_call1 (st1 := [.int (qm_b r1)]) rfl (qr_callS (As := [.long v1.toInt64, .long 0, .long 6]) (st := []) (ct_X7_in (l := l) (E := E) σ v1.toInt64 0 6 er1) qw_684 qw_6 qw_682 qw_683 yd_X7_in (by decide) (by decide) rfl (Nat.le_of_ble_eq_true rfl) dX7_all_6) ?_
  refine qr_if_eq (tgt := 20) dX7_all_9 (by decide) (fun c4 => ?_) (fun c4 => ?_)
  · rw [if_pos c4] at h
    refine qr_aload_n dX7_all_20 rfl 0 rfl ?_
    refine qr_bipush (v := (-2)) dX7_all_21 (by decide) ?_
    obtain ⟨r2, er2, h⟩ := qm_bind h
    refine qr_call1 (st1 := [.int r2.1]) rfl (qr_callV (id := 210) (c := 5) (As := [.int (-2)]) (st := []) rfl (by decide) rfl (ct_X7_refuses (l := l) (E := E) σ (-2) er2) qw_701 qw_6 qw_698 qw_700 qs_9 yd_X7_refuses (by decide) (by decide) rfl (Nat.le_of_ble_eq_true rfl) dX7_all_23) ?_
    obtain rfl := Option.some.inj h
    cases hT
    exact qr_iret dX7_all_26
  · rw [if_neg c4] at h
    refine qr_aload_n dX7_all_12 rfl 0 rfl ?_
    refine qr_iload_n dX7_all_13 rfl 1 rfl ?_
    obtain ⟨r3, er3, h⟩ := qm_bind h
    refine qr_call1 (st1 := [.int r3]) rfl (qr_callV (id := 210) (c := 5) (As := [.int v1]) (st := []) rfl (by decide) rfl (ct_X7_allNow (l := l) (E := E) σ v1 er3) qw_899 qw_6 qw_896 qw_898 qs_39 yd_X7_allNow (by decide) (by decide) rfl (Nat.le_of_ble_eq_true rfl) dX7_all_14) ?_
    refine qr_goto (tgt := 26) dX7_all_17 (by decide) ?_
    obtain rfl := Option.some.inj h
    cases hT
    exact qr_iret dX7_all_26
theorem ct_X7_all {l : Launch} {E : qm_E} (σ : qm_M) (v1 : Int32) {x : Int32 × qm_M} (h : fn_X7_all σ v1 = some x) : qm_Ct l E kd_X7_all yX7_all cX7_all 2 (some .int) [.ref (qm_a E 210), .int v1] σ (some (.int x.1), x.2) := qm_ofWp rfl (Nat.le_of_ble_eq_true rfl) (Or.inl rfl) (wf_X7_all σ v1  h rfl)
-- HungStreamsModel.type (I)I
abbrev kd_X7_type : Nat := 2
theorem yd_X7_type : (yX7_type).cls ≠ "java/lang/invoke/MethodHandle" ∧ (yX7_type).cls ≠ "java/lang/invoke/VarHandle" ∧ (parseMethodDescriptor (yX7_type).desc).map (fun d => d.parameters.length) = some 1 := by decide +kernel
def fn_X7_type (σ : qm_M) (v1 : Int32) : Option (Int32 × qm_M) :=
  (fn_X7_in σ v1.toInt64 0 127).bind (fun r1 => if (qm_b r1) = 0 then (fn_X7_refuses σ (-2)).bind (fun r7 => some (r7.1, r7.2)) else if (σ.1 210 7) = 120 then (fn_X7_refuses σ (-4)).bind (fun r5 => some (r5.1, r5.2)) else if ¬ ((σ.1 210 7) < 0 ∨ 120 ≤ (σ.1 210 7).toNatClampNeg) then (some (qm_si σ 214 (σ.1 210 7).toNatClampNeg v1)).bind (fun σ3 => (some (qm_si σ3 210 7 ((σ3.1 210 7) + 1))).bind (fun σ4 => some (σ4.1 210 7, σ4))) else none)
set_option maxRecDepth 20000 in
theorem wf_X7_type {l : Launch} {E : qm_E} (σ : qm_M) (v1 : Int32) {x : Int32 × qm_M} (h : fn_X7_type σ v1 = some x) {r : Option Value × qm_M} (hT : (fun x r => (some (.int x.1), x.2) = r) x r) : qm_Wp l E kd_X7_type "HungStreamsModel" cX7_type 2 0 [(0, .ref (qm_a E 210)), (1, .int v1)] [] σ r := by
  unfold fn_X7_type at h
  refine qr_iload_n dX7_type_0 rfl 1 rfl ?_
  refine qr_i2l dX7_type_1 ?_
  refine qr_lconst (v := 0) dX7_type_2 (by decide) ?_
  refine qr_ldc2 qw_904 dX7_type_3 ?_
  obtain ⟨r1, er1, h⟩ := qm_bind h
  refine qr_call1 (st1 := [.int (qm_b r1)]) rfl (qr_callS (As := [.long v1.toInt64, .long 0, .long 127]) (st := []) (ct_X7_in (l := l) (E := E) σ v1.toInt64 0 127 er1) qw_684 qw_6 qw_682 qw_683 yd_X7_in (by decide) (by decide) rfl (Nat.le_of_ble_eq_true rfl) dX7_type_6) ?_
  refine qr_if_ne (tgt := 19) dX7_type_9 (by decide) (fun c8 => ?_) (fun c8 => ?_)
  · rw [if_neg c8] at h
    refine qr_aload_n dX7_type_19 rfl 0 rfl ?_
    refine qr_get5 (k := 7) (v := .int (σ.1 210 7)) rfl (by decide) rfl qw_631 dX7_type_20 ?_
    refine qr_bipush (v := 120) dX7_type_23 (by decide) ?_
    refine qr_icmp_ne (tgt := 35) dX7_type_25 (by decide) (fun c6 => ?_) (fun c6 => ?_)
    · rw [if_neg c6] at h
      refine qr_aload_n dX7_type_35 rfl 0 rfl ?_
      refine qr_get5 (k := 6) (v := .ref (qm_a E 214)) rfl (by decide) rfl qw_630 dX7_type_36 ?_
      refine qr_aload_n dX7_type_39 rfl 0 rfl ?_
      refine qr_get5 (k := 7) (v := .int (σ.1 210 7)) rfl (by decide) rfl qw_631 dX7_type_40 ?_
      refine qr_iload_n dX7_type_43 rfl 1 rfl ?_
      obtain ⟨c2, h⟩ := qm_chk h
      obtain ⟨σ3, eσ3, h⟩ := qm_bind h
      refine qr_iast rfl c2 dX7_type_44 (qr_eqm (Option.some.inj eσ3) ?_)
      refine qr_aload_n dX7_type_45 rfl 0 rfl ?_
      refine qr_dup dX7_type_46 rfl ?_
      refine qr_get5 (k := 7) (v := .int (σ3.1 210 7)) rfl (by decide) rfl qw_631 dX7_type_47 ?_
      refine qr_iconst (v := 1) dX7_type_50 (by decide) ?_
      refine qr_iadd dX7_type_51 ?_
      obtain ⟨σ4, eσ4, h⟩ := qm_bind h
      refine qr_put5_7 rfl qw_631 dX7_type_52 (qr_eqm (Option.some.inj eσ4) ?_)
      refine qr_aload_n dX7_type_55 rfl 0 rfl ?_
      refine qr_get5 (k := 7) (v := .int (σ4.1 210 7)) rfl (by decide) rfl qw_631 dX7_type_56 ?_
      obtain rfl := Option.some.inj h
      cases hT
      exact qr_iret dX7_type_59
    · rw [if_pos c6] at h
      refine qr_aload_n dX7_type_28 rfl 0 rfl ?_
      refine qr_bipush (v := (-4)) dX7_type_29 (by decide) ?_
      obtain ⟨r5, er5, h⟩ := qm_bind h
      refine qr_call1 (st1 := [.int r5.1]) rfl (qr_callV (id := 210) (c := 5) (As := [.int (-4)]) (st := []) rfl (by decide) rfl (ct_X7_refuses (l := l) (E := E) σ (-4) er5) qw_701 qw_6 qw_698 qw_700 qs_9 yd_X7_refuses (by decide) (by decide) rfl (Nat.le_of_ble_eq_true rfl) dX7_type_31) ?_
      obtain rfl := Option.some.inj h
      cases hT
      exact qr_iret dX7_type_34
  · rw [if_pos c8] at h
    refine qr_aload_n dX7_type_12 rfl 0 rfl ?_
    refine qr_bipush (v := (-2)) dX7_type_13 (by decide) ?_
    obtain ⟨r7, er7, h⟩ := qm_bind h
    refine qr_call1 (st1 := [.int r7.1]) rfl (qr_callV (id := 210) (c := 5) (As := [.int (-2)]) (st := []) rfl (by decide) rfl (ct_X7_refuses (l := l) (E := E) σ (-2) er7) qw_701 qw_6 qw_698 qw_700 qs_9 yd_X7_refuses (by decide) (by decide) rfl (Nat.le_of_ble_eq_true rfl) dX7_type_15) ?_
    obtain rfl := Option.some.inj h
    cases hT
    exact qr_iret dX7_type_18
theorem ct_X7_type {l : Launch} {E : qm_E} (σ : qm_M) (v1 : Int32) {x : Int32 × qm_M} (h : fn_X7_type σ v1 = some x) : qm_Ct l E kd_X7_type yX7_type cX7_type 2 (some .int) [.ref (qm_a E 210), .int v1] σ (some (.int x.1), x.2) := qm_ofWp rfl (Nat.le_of_ble_eq_true rfl) (Or.inl rfl) (wf_X7_type σ v1  h rfl)
-- HungStreamsModel.clear ()I
abbrev kd_X7_clear : Nat := 1
theorem yd_X7_clear : (yX7_clear).cls ≠ "java/lang/invoke/MethodHandle" ∧ (yX7_clear).cls ≠ "java/lang/invoke/VarHandle" ∧ (parseMethodDescriptor (yX7_clear).desc).map (fun d => d.parameters.length) = some 0 := by decide +kernel
def fn_X7_clear (σ : qm_M)  : Option (Int32 × qm_M) :=
  (some (σ.1 210 7)).bind (fun z1 => (some (qm_si σ 210 7 0)).bind (fun σ2 => some (z1, σ2)))
set_option maxRecDepth 20000 in
theorem wf_X7_clear {l : Launch} {E : qm_E} (σ : qm_M)  {x : Int32 × qm_M} (h : fn_X7_clear σ  = some x) {r : Option Value × qm_M} (hT : (fun x r => (some (.int x.1), x.2) = r) x r) : qm_Wp l E kd_X7_clear "HungStreamsModel" cX7_clear 2 0 [(0, .ref (qm_a E 210))] [] σ r := by
  unfold fn_X7_clear at h
  refine qr_aload_n dX7_clear_0 rfl 0 rfl ?_
  refine qr_get5 (k := 7) (v := .int (σ.1 210 7)) rfl (by decide) rfl qw_631 dX7_clear_1 ?_
  obtain ⟨z1, ez1, h⟩ := qm_bind h
  refine qr_eqi (Option.some.inj ez1) ?_
  refine qr_istore_n (lv' := [(1, .int z1), (0, .ref (qm_a E 210))]) dX7_clear_4 rfl (by decide) rfl ?_
  refine qr_aload_n dX7_clear_5 rfl 1 rfl ?_
  refine qr_iconst (v := 0) dX7_clear_6 (by decide) ?_
  obtain ⟨σ2, eσ2, h⟩ := qm_bind h
  refine qr_put5_7 rfl qw_631 dX7_clear_7 (qr_eqm (Option.some.inj eσ2) ?_)
  refine qr_iload_n dX7_clear_10 rfl 0 rfl ?_
  obtain rfl := Option.some.inj h
  cases hT
  exact qr_iret dX7_clear_11
theorem ct_X7_clear {l : Launch} {E : qm_E} (σ : qm_M)  {x : Int32 × qm_M} (h : fn_X7_clear σ  = some x) : qm_Ct l E kd_X7_clear yX7_clear cX7_clear 2 (some .int) [.ref (qm_a E 210)] σ (some (.int x.1), x.2) := qm_ofWp rfl (Nat.le_of_ble_eq_true rfl) (Or.inl rfl) (wf_X7_clear σ   h rfl)
-- HungStreamsModel.here ()I
abbrev kd_X7_here : Nat := 1
theorem yd_X7_here : (yX7_here).cls ≠ "java/lang/invoke/MethodHandle" ∧ (yX7_here).cls ≠ "java/lang/invoke/VarHandle" ∧ (parseMethodDescriptor (yX7_here).desc).map (fun d => d.parameters.length) = some 0 := by decide +kernel
abbrev pp_X7_here_0 (l : Launch) (E : qm_E) : qm_M → Option Value × qm_M → Prop := fun s r => qm_Wp l E kd_X7_here "HungStreamsModel" cX7_here 1 0 [(0, .ref (qm_a E 210))] [] s r
def bb_X7_here_38 (σ : qm_M)  : Option (Int32 × qm_M) :=
  if (σ.1 210 7) ≤ (σ.1 210 8) then some ((-1), σ) else if ¬ ((σ.1 210 8) < 0 ∨ 120 ≤ (σ.1 210 8).toNatClampNeg) then some (σ.1 214 (σ.1 210 8).toNatClampNeg, σ) else none
set_option maxRecDepth 20000 in
theorem wb_X7_here_38 {l : Launch} {E : qm_E} (σ : qm_M)  {x : Int32 × qm_M} (h : bb_X7_here_38 σ  = some x) {r : Option Value × qm_M} (hT : (fun x r => (some (.int x.1), x.2) = r) x r) : qm_Wp l E kd_X7_here "HungStreamsModel" cX7_here 1 38 [(0, .ref (qm_a E 210))] [] σ r := by
  unfold bb_X7_here_38 at h
  refine qr_aload_n dX7_here_38 rfl 0 rfl ?_
  refine qr_get5 (k := 8) (v := .int (σ.1 210 8)) rfl (by decide) rfl qw_632 dX7_here_39 ?_
  refine qr_aload_n dX7_here_42 rfl 0 rfl ?_
  refine qr_get5 (k := 7) (v := .int (σ.1 210 7)) rfl (by decide) rfl qw_631 dX7_here_43 ?_
  refine qr_icmp_ge (tgt := 61) dX7_here_46 (by decide) (fun c2 => ?_) (fun c2 => ?_)
  · rw [if_pos c2] at h
    refine qr_iconst (v := (-1)) dX7_here_61 (by decide) ?_
    obtain rfl := Option.some.inj h
    cases hT
    exact qr_iret dX7_here_62
  · rw [if_neg c2] at h
    refine qr_aload_n dX7_here_49 rfl 0 rfl ?_
    refine qr_get5 (k := 6) (v := .ref (qm_a E 214)) rfl (by decide) rfl qw_630 dX7_here_50 ?_
    refine qr_aload_n dX7_here_53 rfl 0 rfl ?_
    refine qr_get5 (k := 8) (v := .int (σ.1 210 8)) rfl (by decide) rfl qw_632 dX7_here_54 ?_
    obtain ⟨c1, h⟩ := qm_chk h
    refine qr_iald rfl c1 dX7_here_57 ?_
    refine qr_goto (tgt := 62) dX7_here_58 (by decide) ?_
    obtain rfl := Option.some.inj h
    cases hT
    exact qr_iret dX7_here_62
def bb_X7_here_0 (σ : qm_M)  : Option ((qm_M) ⊕ (Int32 × qm_M)) :=
  if (σ.1 210 7) ≤ (σ.1 210 8) then (bb_X7_here_38 σ ).bind (fun y => some (.inr y)) else if ¬ ((σ.1 210 8) < 0 ∨ 120 ≤ (σ.1 210 8).toNatClampNeg) then if (σ.1 214 (σ.1 210 8).toNatClampNeg) = 32 then (some (qm_si σ 210 8 ((σ.1 210 8) + 1))).bind (fun σ6 => some (.inl σ6)) else (bb_X7_here_38 σ ).bind (fun y => some (.inr y)) else none
set_option maxRecDepth 20000 in
theorem wb_X7_here_0 {l : Launch} {E : qm_E} (σ : qm_M)  {x : (qm_M) ⊕ (Int32 × qm_M)} (h : bb_X7_here_0 σ  = some x) {r : Option Value × qm_M} (hT : (qm_T (pp_X7_here_0 l E) (fun x r => (some (.int x.1), x.2) = r)) x r) : qm_Wp l E kd_X7_here "HungStreamsModel" cX7_here 1 0 [(0, .ref (qm_a E 210))] [] σ r := by
  unfold bb_X7_here_0 at h
  refine qr_aload_n dX7_here_0 rfl 0 rfl ?_
  refine qr_get5 (k := 8) (v := .int (σ.1 210 8)) rfl (by decide) rfl qw_632 dX7_here_1 ?_
  refine qr_aload_n dX7_here_4 rfl 0 rfl ?_
  refine qr_get5 (k := 7) (v := .int (σ.1 210 7)) rfl (by decide) rfl qw_631 dX7_here_5 ?_
  refine qr_icmp_ge (tgt := 38) dX7_here_8 (by decide) (fun c8 => ?_) (fun c8 => ?_)
  · rw [if_pos c8] at h
    obtain ⟨y3, h1, hx⟩ := qm_bind h
    clear h
    cases hx
    have h := h1
    exact qr_sub [0] rfl (wb_X7_here_38 (l := l) (E := E) σ  h hT)
  · rw [if_neg c8] at h
    refine qr_aload_n dX7_here_11 rfl 0 rfl ?_
    refine qr_get5 (k := 6) (v := .ref (qm_a E 214)) rfl (by decide) rfl qw_630 dX7_here_12 ?_
    refine qr_aload_n dX7_here_15 rfl 0 rfl ?_
    refine qr_get5 (k := 8) (v := .int (σ.1 210 8)) rfl (by decide) rfl qw_632 dX7_here_16 ?_
    obtain ⟨c4, h⟩ := qm_chk h
    refine qr_iald rfl c4 dX7_here_19 ?_
    refine qr_bipush (v := 32) dX7_here_20 (by decide) ?_
    refine qr_icmp_ne (tgt := 38) dX7_here_22 (by decide) (fun c7 => ?_) (fun c7 => ?_)
    · rw [if_neg c7] at h
      obtain ⟨y5, h1, hx⟩ := qm_bind h
      clear h
      cases hx
      have h := h1
      exact qr_sub [0] rfl (wb_X7_here_38 (l := l) (E := E) σ  h hT)
    · rw [if_pos c7] at h
      refine qr_aload_n dX7_here_25 rfl 0 rfl ?_
      refine qr_dup dX7_here_26 rfl ?_
      refine qr_get5 (k := 8) (v := .int (σ.1 210 8)) rfl (by decide) rfl qw_632 dX7_here_27 ?_
      refine qr_iconst (v := 1) dX7_here_30 (by decide) ?_
      refine qr_iadd dX7_here_31 ?_
      obtain ⟨σ6, eσ6, h⟩ := qm_bind h
      refine qr_put5_8 rfl qw_632 dX7_here_32 (qr_eqm (Option.some.inj eσ6) ?_)
      refine qr_goto (tgt := 0) dX7_here_35 (by decide) ?_
      obtain rfl := Option.some.inj h
      exact qr_sub [0] rfl hT
def lp_X7_here_0 (σ : qm_M)  : Option (Int32 × qm_M) := qm_loop (fun s : qm_M => bb_X7_here_0 s ) 1000 σ
theorem wl_X7_here_0 {l : Launch} {E : qm_E} (σ : qm_M)  {x : Int32 × qm_M} (h : lp_X7_here_0 σ  = some x) {r : Option Value × qm_M} (hT : (fun x r => (some (.int x.1), x.2) = r) x r) : qm_Wp l E kd_X7_here "HungStreamsModel" cX7_here 1 0 [(0, .ref (qm_a E 210))] [] σ r :=
  qm_loop_T (P := pp_X7_here_0 l E) (T1 := (fun x r => (some (.int x.1), x.2) = r)) (fun s x h r hT => wb_X7_here_0 (l := l) (E := E) s   h hT) h hT
def fn_X7_here (σ : qm_M)  : Option (Int32 × qm_M) :=
  lp_X7_here_0 σ 
set_option maxRecDepth 20000 in
theorem wf_X7_here {l : Launch} {E : qm_E} (σ : qm_M)  {x : Int32 × qm_M} (h : fn_X7_here σ  = some x) {r : Option Value × qm_M} (hT : (fun x r => (some (.int x.1), x.2) = r) x r) : qm_Wp l E kd_X7_here "HungStreamsModel" cX7_here 1 0 [(0, .ref (qm_a E 210))] [] σ r := by
  unfold fn_X7_here at h
  exact qr_sub [0] rfl (wl_X7_here_0 (l := l) (E := E) σ  h hT)
theorem ct_X7_here {l : Launch} {E : qm_E} (σ : qm_M)  {x : Int32 × qm_M} (h : fn_X7_here σ  = some x) : qm_Ct l E kd_X7_here yX7_here cX7_here 1 (some .int) [.ref (qm_a E 210)] σ (some (.int x.1), x.2) := qm_ofWp rfl (Nat.le_of_ble_eq_true rfl) (Or.inl rfl) (wf_X7_here σ   h rfl)
-- HungStreamsModel.isFigure (I)Z
abbrev kd_X7_isFigure : Nat := 2
theorem yd_X7_isFigure : (yX7_isFigure).cls ≠ "java/lang/invoke/MethodHandle" ∧ (yX7_isFigure).cls ≠ "java/lang/invoke/VarHandle" ∧ (parseMethodDescriptor (yX7_isFigure).desc).map (fun d => d.parameters.length) = some 1 := by decide +kernel
def fn_X7_isFigure (σ : qm_M) (v1 : Int32) : Option (Bool) :=
  if (σ.1 210 7) ≤ v1 then some false else if ¬ (v1 < 0 ∨ 120 ≤ v1.toNatClampNeg) then (fn_X7_in σ ((σ.1 214 v1.toNatClampNeg).toInt64) 48 57).bind (fun r2 => if (qm_b r2) = 0 then some false else some true) else none
set_option maxRecDepth 20000 in
theorem wf_X7_isFigure {l : Launch} {E : qm_E} (σ : qm_M) (v1 : Int32) {x : Bool} (h : fn_X7_isFigure σ v1 = some x) {r : Option Value × qm_M} (hT : (fun x r => (some (.int (qm_b x)), σ) = r) x r) : qm_Wp l E kd_X7_isFigure "HungStreamsModel" cX7_isFigure 2 0 [(0, .ref (qm_a E 210)), (1, .int v1)] [] σ r := by
  unfold fn_X7_isFigure at h
  refine qr_iload_n dX7_isFigure_0 rfl 1 rfl ?_
  refine qr_aload_n dX7_isFigure_1 rfl 0 rfl ?_
  refine qr_get5 (k := 7) (v := .int (σ.1 210 7)) rfl (by decide) rfl qw_631 dX7_isFigure_2 ?_
  refine qr_icmp_ge (tgt := 31) dX7_isFigure_5 (by decide) (fun c4 => ?_) (fun c4 => ?_)
  · rw [if_pos c4] at h
    refine qr_iconst (v := 0) dX7_isFigure_31 (by decide) ?_
    obtain rfl := Option.some.inj h
    cases hT
    exact qr_iret dX7_isFigure_32
  · rw [if_neg c4] at h
    refine qr_aload_n dX7_isFigure_8 rfl 0 rfl ?_
    refine qr_get5 (k := 6) (v := .ref (qm_a E 214)) rfl (by decide) rfl qw_630 dX7_isFigure_9 ?_
    refine qr_iload_n dX7_isFigure_12 rfl 1 rfl ?_
    obtain ⟨c1, h⟩ := qm_chk h
    refine qr_iald rfl c1 dX7_isFigure_13 ?_
    refine qr_i2l dX7_isFigure_14 ?_
    refine qr_ldc2 qw_937 dX7_isFigure_15 ?_
    refine qr_ldc2 qw_938 dX7_isFigure_18 ?_
    obtain ⟨r2, er2, h⟩ := qm_bind h
    refine qr_call1 (st1 := [.int (qm_b r2)]) rfl (qr_callS (As := [.long ((σ.1 214 v1.toNatClampNeg).toInt64), .long 48, .long 57]) (st := []) (ct_X7_in (l := l) (E := E) σ ((σ.1 214 v1.toNatClampNeg).toInt64) 48 57 er2) qw_684 qw_6 qw_682 qw_683 yd_X7_in (by decide) (by decide) rfl (Nat.le_of_ble_eq_true rfl) dX7_isFigure_21) ?_
    refine qr_if_eq (tgt := 31) dX7_isFigure_24 (by decide) (fun c3 => ?_) (fun c3 => ?_)
    · rw [if_pos c3] at h
      refine qr_iconst (v := 0) dX7_isFigure_31 (by decide) ?_
      obtain rfl := Option.some.inj h
      cases hT
      exact qr_iret dX7_isFigure_32
    · rw [if_neg c3] at h
      refine qr_iconst (v := 1) dX7_isFigure_27 (by decide) ?_
      refine qr_goto (tgt := 32) dX7_isFigure_28 (by decide) ?_
      obtain rfl := Option.some.inj h
      cases hT
      exact qr_iret dX7_isFigure_32
theorem ct_X7_isFigure {l : Launch} {E : qm_E} (σ : qm_M) (v1 : Int32) {x : Bool} (h : fn_X7_isFigure σ v1 = some x) : qm_Ct l E kd_X7_isFigure yX7_isFigure cX7_isFigure 2 (some .boolean) [.ref (qm_a E 210), .int v1] σ (some (.int (qm_b x)), σ) := qm_ofWp rfl (Nat.le_of_ble_eq_true rfl) (qm_rtz _) (wf_X7_isFigure σ v1  h rfl)
-- HungStreamsModel.takes (I)Z
abbrev kd_X7_takes : Nat := 3
theorem yd_X7_takes : (yX7_takes).cls ≠ "java/lang/invoke/MethodHandle" ∧ (yX7_takes).cls ≠ "java/lang/invoke/VarHandle" ∧ (parseMethodDescriptor (yX7_takes).desc).map (fun d => d.parameters.length) = some 1 := by decide +kernel
abbrev pp_X7_takes_18 (l : Launch) (E : qm_E) (v1 : Int32) (v2 : Int32) (v3 : Int32) : (Int32 × qm_M) → Option Value × qm_M → Prop := fun s r => qm_Wp l E kd_X7_takes "HungStreamsModel" cX7_takes 5 18 [(0, .ref (qm_a E 210)), (1, .int v1), (2, .int v2), (3, .int v3), (4, .int s.1)] [] s.2 r
def bb_X7_takes_75 (σ : qm_M) (v1 : Int32) (v2 : Int32) (v3 : Int32) (v4 : Int32) : Option (Bool × qm_M) :=
  if v2 = (-1) then some (false, σ) else if v4 = 0 then some (false, σ) else (fn_X7_isFigure σ (σ.1 210 8)).bind (fun r5 => if (qm_b r5) = 0 then (fn_X7_in σ ((σ.1 210 9).toInt64) 1 v1.toInt64).bind (fun r6 => if (qm_b r6) = 0 then (some (qm_si σ 210 8 v3)).bind (fun σ7 => some (false, σ7)) else some (true, σ)) else some (false, σ))
set_option maxRecDepth 20000 in
theorem wb_X7_takes_75 {l : Launch} {E : qm_E} (σ : qm_M) (v1 : Int32) (v2 : Int32) (v3 : Int32) (v4 : Int32) {x : Bool × qm_M} (h : bb_X7_takes_75 σ v1 v2 v3 v4 = some x) {r : Option Value × qm_M} (hT : (fun x r => (some (.int (qm_b x.1)), x.2) = r) x r) : qm_Wp l E kd_X7_takes "HungStreamsModel" cX7_takes 5 75 [(0, .ref (qm_a E 210)), (1, .int v1), (2, .int v2), (3, .int v3), (4, .int v4)] [] σ r := by
  unfold bb_X7_takes_75 at h
  refine qr_iload_n dX7_takes_75 rfl 2 rfl ?_
  refine qr_iconst (v := (-1)) dX7_takes_76 (by decide) ?_
  refine qr_icmp_eq (tgt := 96) dX7_takes_77 (by decide) (fun c11 => ?_) (fun c11 => ?_)
  · rw [if_pos c11] at h
    refine qr_iconst (v := 0) dX7_takes_96 (by decide) ?_
    obtain rfl := Option.some.inj h
    cases hT
    exact qr_iret dX7_takes_97
  · rw [if_neg c11] at h
    refine qr_iload dX7_takes_80 4 rfl ?_
    refine qr_if_eq (tgt := 96) dX7_takes_82 (by decide) (fun c10 => ?_) (fun c10 => ?_)
    · rw [if_pos c10] at h
      refine qr_iconst (v := 0) dX7_takes_96 (by decide) ?_
      obtain rfl := Option.some.inj h
      cases hT
      exact qr_iret dX7_takes_97
    · rw [if_neg c10] at h
      refine qr_aload_n dX7_takes_85 rfl 0 rfl ?_
      refine qr_aload_n dX7_takes_86 rfl 0 rfl ?_
      refine qr_get5 (k := 8) (v := .int (σ.1 210 8)) rfl (by decide) rfl qw_632 dX7_takes_87 ?_
      obtain ⟨r5, er5, h⟩ := qm_bind h
      refine qr_call1 (st1 := [.int (qm_b r5)]) rfl (qr_callV (id := 210) (c := 5) (As := [.int (σ.1 210 8)]) (st := []) rfl (by decide) rfl (ct_X7_isFigure (l := l) (E := E) σ (σ.1 210 8) er5) qw_936 qw_6 qw_933 qw_935 qs_45 yd_X7_isFigure (by decide) (by decide) rfl (Nat.le_of_ble_eq_true rfl) dX7_takes_90) ?_
      refine qr_if_eq (tgt := 98) dX7_takes_93 (by decide) (fun c9 => ?_) (fun c9 => ?_)
      · rw [if_pos c9] at h
        refine qr_aload_n dX7_takes_98 rfl 0 rfl ?_
        refine qr_get5 (k := 9) (v := .int (σ.1 210 9)) rfl (by decide) rfl qw_633 dX7_takes_99 ?_
        refine qr_i2l dX7_takes_102 ?_
        refine qr_lconst (v := 1) dX7_takes_103 (by decide) ?_
        refine qr_iload_n dX7_takes_104 rfl 1 rfl ?_
        refine qr_i2l dX7_takes_105 ?_
        obtain ⟨r6, er6, h⟩ := qm_bind h
        refine qr_call1 (st1 := [.int (qm_b r6)]) rfl (qr_callS (As := [.long ((σ.1 210 9).toInt64), .long 1, .long v1.toInt64]) (st := []) (ct_X7_in (l := l) (E := E) σ ((σ.1 210 9).toInt64) 1 v1.toInt64 er6) qw_684 qw_6 qw_682 qw_683 yd_X7_in (by decide) (by decide) rfl (Nat.le_of_ble_eq_true rfl) dX7_takes_106) ?_
        refine qr_if_ne (tgt := 119) dX7_takes_109 (by decide) (fun c8 => ?_) (fun c8 => ?_)
        · rw [if_neg c8] at h
          refine qr_iconst (v := 1) dX7_takes_119 (by decide) ?_
          obtain rfl := Option.some.inj h
          cases hT
          exact qr_iret dX7_takes_120
        · rw [if_pos c8] at h
          refine qr_aload_n dX7_takes_112 rfl 0 rfl ?_
          refine qr_iload_n dX7_takes_113 rfl 3 rfl ?_
          obtain ⟨σ7, eσ7, h⟩ := qm_bind h
          refine qr_put5_8 rfl qw_632 dX7_takes_114 (qr_eqm (Option.some.inj eσ7) ?_)
          refine qr_iconst (v := 0) dX7_takes_117 (by decide) ?_
          obtain rfl := Option.some.inj h
          cases hT
          exact qr_iret dX7_takes_118
      · rw [if_neg c9] at h
        refine qr_iconst (v := 0) dX7_takes_96 (by decide) ?_
        obtain rfl := Option.some.inj h
        cases hT
        exact qr_iret dX7_takes_97
def bb_X7_takes_18 (σ : qm_M) (v1 : Int32) (v2 : Int32) (v3 : Int32) (v4 : Int32) : Option ((Int32 × qm_M) ⊕ (Bool × qm_M)) :=
  (fn_X7_isFigure σ (σ.1 210 8)).bind (fun r4 => if (qm_b r4) = 0 then (bb_X7_takes_75 σ v1 v2 v3 v4).bind (fun y => some (.inr y)) else if 2 ≤ v4 then (bb_X7_takes_75 σ v1 v2 v3 v4).bind (fun y => some (.inr y)) else if ¬ ((σ.1 210 8) < 0 ∨ 120 ≤ (σ.1 210 8).toNatClampNeg) then (some (qm_si σ 210 9 (((10 * (σ.1 210 9)) + (σ.1 214 (σ.1 210 8).toNatClampNeg)) - 48))).bind (fun σ15 => (some (qm_si σ15 210 8 ((σ15.1 210 8) + 1))).bind (fun σ16 => (some (v4 + 1)).bind (fun z17 => some (.inl (z17, σ16))))) else none)
set_option maxRecDepth 20000 in
theorem wb_X7_takes_18 {l : Launch} {E : qm_E} (σ : qm_M) (v1 : Int32) (v2 : Int32) (v3 : Int32) (v4 : Int32) {x : (Int32 × qm_M) ⊕ (Bool × qm_M)} (h : bb_X7_takes_18 σ v1 v2 v3 v4 = some x) {r : Option Value × qm_M} (hT : (qm_T (pp_X7_takes_18 l E v1 v2 v3) (fun x r => (some (.int (qm_b x.1)), x.2) = r)) x r) : qm_Wp l E kd_X7_takes "HungStreamsModel" cX7_takes 5 18 [(0, .ref (qm_a E 210)), (1, .int v1), (2, .int v2), (3, .int v3), (4, .int v4)] [] σ r := by
  unfold bb_X7_takes_18 at h
  refine qr_aload_n dX7_takes_18 rfl 0 rfl ?_
  refine qr_aload_n dX7_takes_19 rfl 0 rfl ?_
  refine qr_get5 (k := 8) (v := .int (σ.1 210 8)) rfl (by decide) rfl qw_632 dX7_takes_20 ?_
  obtain ⟨r4, er4, h⟩ := qm_bind h
  refine qr_call1 (st1 := [.int (qm_b r4)]) rfl (qr_callV (id := 210) (c := 5) (As := [.int (σ.1 210 8)]) (st := []) rfl (by decide) rfl (ct_X7_isFigure (l := l) (E := E) σ (σ.1 210 8) er4) qw_936 qw_6 qw_933 qw_935 qs_45 yd_X7_isFigure (by decide) (by decide) rfl (Nat.le_of_ble_eq_true rfl) dX7_takes_23) ?_
  refine qr_if_eq (tgt := 75) dX7_takes_26 (by decide) (fun c19 => ?_) (fun c19 => ?_)
  · rw [if_pos c19] at h
    obtain ⟨y12, h1, hx⟩ := qm_bind h
    clear h
    cases hx
    have h := h1
    exact qr_sub [0, 1, 2, 3, 4] rfl (wb_X7_takes_75 (l := l) (E := E) σ v1 v2 v3 v4 h hT)
  · rw [if_neg c19] at h
    refine qr_iload dX7_takes_29 4 rfl ?_
    refine qr_iconst (v := 2) dX7_takes_31 (by decide) ?_
    refine qr_icmp_ge (tgt := 75) dX7_takes_32 (by decide) (fun c18 => ?_) (fun c18 => ?_)
    · rw [if_pos c18] at h
      obtain ⟨y13, h1, hx⟩ := qm_bind h
      clear h
      cases hx
      have h := h1
      exact qr_sub [0, 1, 2, 3, 4] rfl (wb_X7_takes_75 (l := l) (E := E) σ v1 v2 v3 v4 h hT)
    · rw [if_neg c18] at h
      refine qr_aload_n dX7_takes_35 rfl 0 rfl ?_
      refine qr_bipush (v := 10) dX7_takes_36 (by decide) ?_
      refine qr_aload_n dX7_takes_38 rfl 0 rfl ?_
      refine qr_get5 (k := 9) (v := .int (σ.1 210 9)) rfl (by decide) rfl qw_633 dX7_takes_39 ?_
      refine qr_imul dX7_takes_42 ?_
      refine qr_aload_n dX7_takes_43 rfl 0 rfl ?_
      refine qr_get5 (k := 6) (v := .ref (qm_a E 214)) rfl (by decide) rfl qw_630 dX7_takes_44 ?_
      refine qr_aload_n dX7_takes_47 rfl 0 rfl ?_
      refine qr_get5 (k := 8) (v := .int (σ.1 210 8)) rfl (by decide) rfl qw_632 dX7_takes_48 ?_
      obtain ⟨c14, h⟩ := qm_chk h
      refine qr_iald rfl c14 dX7_takes_51 ?_
      refine qr_iadd dX7_takes_52 ?_
      refine qr_bipush (v := 48) dX7_takes_53 (by decide) ?_
      refine qr_isub dX7_takes_55 ?_
      obtain ⟨σ15, eσ15, h⟩ := qm_bind h
      refine qr_put5_9 rfl qw_633 dX7_takes_56 (qr_eqm (Option.some.inj eσ15) ?_)
      refine qr_aload_n dX7_takes_59 rfl 0 rfl ?_
      refine qr_dup dX7_takes_60 rfl ?_
      refine qr_get5 (k := 8) (v := .int (σ15.1 210 8)) rfl (by decide) rfl qw_632 dX7_takes_61 ?_
      refine qr_iconst (v := 1) dX7_takes_64 (by decide) ?_
      refine qr_iadd dX7_takes_65 ?_
      obtain ⟨σ16, eσ16, h⟩ := qm_bind h
      refine qr_put5_8 rfl qw_632 dX7_takes_66 (qr_eqm (Option.some.inj eσ16) ?_)
      obtain ⟨z17, ez17, h⟩ := qm_bind h
      refine qr_iinc (q := 4) (v := z17) (lv' := [(4, .int z17), (0, .ref (qm_a E 210)), (1, .int v1), (2, .int v2), (3, .int v3)]) dX7_takes_69 rfl (Option.some.inj ez17) (by decide) rfl ?_
      refine qr_goto (tgt := 18) dX7_takes_72 (by decide) ?_
      obtain rfl := Option.some.inj h
      exact qr_sub [1, 2, 3, 4, 0] rfl hT
def lp_X7_takes_18 (σ : qm_M) (v1 : Int32) (v2 : Int32) (v3 : Int32) (v4 : Int32) : Option (Bool × qm_M) := qm_loop (fun s : Int32 × qm_M => bb_X7_takes_18 s.2 v1 v2 v3 s.1) 1000 (v4, σ)
theorem wl_X7_takes_18 {l : Launch} {E : qm_E} (σ : qm_M) (v1 : Int32) (v2 : Int32) (v3 : Int32) (v4 : Int32) {x : Bool × qm_M} (h : lp_X7_takes_18 σ v1 v2 v3 v4 = some x) {r : Option Value × qm_M} (hT : (fun x r => (some (.int (qm_b x.1)), x.2) = r) x r) : qm_Wp l E kd_X7_takes "HungStreamsModel" cX7_takes 5 18 [(0, .ref (qm_a E 210)), (1, .int v1), (2, .int v2), (3, .int v3), (4, .int v4)] [] σ r :=
  qm_loop_T (P := pp_X7_takes_18 l E v1 v2 v3) (T1 := (fun x r => (some (.int (qm_b x.1)), x.2) = r)) (fun s x h r hT => wb_X7_takes_18 (l := l) (E := E) s.2 v1 v2 v3 s.1  h hT) h hT
def fn_X7_takes (σ : qm_M) (v1 : Int32) : Option (Bool × qm_M) :=
  (fn_X7_here σ ).bind (fun r1 => (some (r1.2.1 210 8)).bind (fun z2 => (some (qm_si r1.2 210 9 0)).bind (fun σ3 => lp_X7_takes_18 σ3 v1 r1.1 z2 0)))
set_option maxRecDepth 20000 in
theorem wf_X7_takes {l : Launch} {E : qm_E} (σ : qm_M) (v1 : Int32) {x : Bool × qm_M} (h : fn_X7_takes σ v1 = some x) {r : Option Value × qm_M} (hT : (fun x r => (some (.int (qm_b x.1)), x.2) = r) x r) : qm_Wp l E kd_X7_takes "HungStreamsModel" cX7_takes 5 0 [(0, .ref (qm_a E 210)), (1, .int v1)] [] σ r := by
  unfold fn_X7_takes at h
  refine qr_aload_n dX7_takes_0 rfl 0 rfl ?_
  obtain ⟨r1, er1, h⟩ := qm_bind h
  refine qr_call1 (st1 := [.int r1.1]) rfl (qr_callV (id := 210) (c := 5) (As := []) (st := []) rfl (by decide) rfl (ct_X7_here (l := l) (E := E) σ  er1) qw_920 qw_6 qw_917 qw_919 qs_41 yd_X7_here (by decide) (by decide) rfl (Nat.le_of_ble_eq_true rfl) dX7_takes_1) ?_
  refine qr_istore_n (lv' := [(2, .int r1.1), (0, .ref (qm_a E 210)), (1, .int v1)]) dX7_takes_4 rfl (by decide) rfl ?_
  refine qr_aload_n dX7_takes_5 rfl 1 rfl ?_
  refine qr_get5 (k := 8) (v := .int (r1.2.1 210 8)) rfl (by decide) rfl qw_632 dX7_takes_6 ?_
  obtain ⟨z2, ez2, h⟩ := qm_bind h
  refine qr_eqi (Option.some.inj ez2) ?_
  refine qr_istore_n (lv' := [(3, .int z2), (2, .int r1.1), (0, .ref (qm_a E 210)), (1, .int v1)]) dX7_takes_9 rfl (by decide) rfl ?_
  refine qr_iconst (v := 0) dX7_takes_10 (by decide) ?_
  refine qr_istore (lv' := [(4, .int 0), (3, .int z2), (2, .int r1.1), (0, .ref (qm_a E 210)), (1, .int v1)]) dX7_takes_11 (by decide) rfl ?_
  refine qr_aload_n dX7_takes_13 rfl 3 rfl ?_
  refine qr_iconst (v := 0) dX7_takes_14 (by decide) ?_
  obtain ⟨σ3, eσ3, h⟩ := qm_bind h
  refine qr_put5_9 rfl qw_633 dX7_takes_15 (qr_eqm (Option.some.inj eσ3) ?_)
  exact qr_sub [3, 4, 2, 1, 0] rfl (wl_X7_takes_18 (l := l) (E := E) σ3 v1 r1.1 z2 0 h hT)
theorem ct_X7_takes {l : Launch} {E : qm_E} (σ : qm_M) (v1 : Int32) {x : Bool × qm_M} (h : fn_X7_takes σ v1 = some x) : qm_Ct l E kd_X7_takes yX7_takes cX7_takes 5 (some .boolean) [.ref (qm_a E 210), .int v1] σ (some (.int (qm_b x.1)), x.2) := qm_ofWp rfl (Nat.le_of_ble_eq_true rfl) (qm_rtz _) (wf_X7_takes σ v1  h rfl)
