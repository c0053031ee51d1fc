-- HungStreams.has (II)Z
abbrev kd_X6_has : Nat := 1
theorem yd_X6_has : (yX6_has).cls ≠ "java/lang/invoke/MethodHandle" ∧ (yX6_has).cls ≠ "java/lang/invoke/VarHandle" ∧ (parseMethodDescriptor (yX6_has).desc).map (fun d => d.parameters.length) = some 2 := by decide +kernel
def fn_X6_has (σ : qm_M) (v0 : Int32) (v1 : Int32) : Option (Bool) :=
  if ((v0 >>> (v1 &&& 31)) &&& 1) = 1 then some true else some false
set_option maxRecDepth 20000 in
theorem wf_X6_has {l : Launch} {E : qm_E} (σ : qm_M) (v0 : Int32) (v1 : Int32) {x : Bool} (h : fn_X6_has σ v0 v1 = some x) {r : Option Value × qm_M} (hT : (fun x r => (some (.int (qm_b x)), σ) = r) x r) : qm_Wp l E kd_X6_has "HungStreams" cX6_has 2 0 [(0, .int v0), (1, .int v1)] [] σ r := by
  unfold fn_X6_has at h
  refine qr_iload_n dX6_has_0 rfl 0 rfl ?_
  refine qr_iload_n dX6_has_1 rfl 1 rfl ?_
  refine qr_ishr dX6_has_2 ?_
  refine qr_iconst (v := 1) dX6_has_3 (by decide) ?_
  refine qr_iand dX6_has_4 ?_
  refine qr_iconst (v := 1) dX6_has_5 (by decide) ?_
  refine qr_icmp_ne (tgt := 13) dX6_has_6 (by decide) (fun c1 => ?_) (fun c1 => ?_)
  · rw [if_neg c1] at h
    refine qr_iconst (v := 0) dX6_has_13 (by decide) ?_
    obtain rfl := Option.some.inj h
    cases hT
    exact qr_iret dX6_has_14
  · rw [if_pos c1] at h
    refine qr_iconst (v := 1) dX6_has_9 (by decide) ?_
    refine qr_goto (tgt := 14) dX6_has_10 (by decide) ?_
    obtain rfl := Option.some.inj h
    cases hT
    exact qr_iret dX6_has_14
theorem ct_X6_has {l : Launch} {E : qm_E} (σ : qm_M) (v0 : Int32) (v1 : Int32) {x : Bool} (h : fn_X6_has σ v0 v1 = some x) : qm_Ct l E kd_X6_has yX6_has cX6_has 2 (some .boolean) [.int v0, .int v1] σ (some (.int (qm_b x)), σ) := qm_ofWp rfl (Nat.le_of_ble_eq_true rfl) (qm_rtz _) (wf_X6_has σ v0 v1  h rfl)
-- HungStreams$Stream.can ()Z
abbrev kd_X2_can : Nat := 1
theorem yd_X2_can : (yX2_can).cls ≠ "java/lang/invoke/MethodHandle" ∧ (yX2_can).cls ≠ "java/lang/invoke/VarHandle" ∧ (parseMethodDescriptor (yX2_can).desc).map (fun d => d.parameters.length) = some 0 := by decide +kernel
def fn_X2_can (σ : qm_M) (v0 : Nat) : Option (Bool) :=
  if (σ.1 v0 6) = 0 then some false else if (σ.1 v0 2) ≤ 0 then some false else if (σ.1 v0 3) ≤ 0 then some false else some true
set_option maxRecDepth 20000 in
theorem wf_X2_can {l : Launch} {E : qm_E} (σ : qm_M) (v0 : Nat) (hk0 : qm_kind v0 = 1) {x : Bool} (h : fn_X2_can σ v0 = some x) {r : Option Value × qm_M} (hT : (fun x r => (some (.int (qm_b x)), σ) = r) x r) : qm_Wp l E kd_X2_can "HungStreams$Stream" cX2_can 1 0 [(0, .ref (qm_a E v0))] [] σ r := by
  unfold fn_X2_can at h
  refine qr_aload_n dX2_can_0 rfl 0 rfl ?_
  refine qr_get0 (k := 6) (v := .int (σ.1 v0 6)) hk0 (by decide) rfl qw_53 dX2_can_1 ?_
  refine qr_if_eq (tgt := 25) dX2_can_4 (by decide) (fun c3 => ?_) (fun c3 => ?_)
  · rw [if_pos c3] at h
    refine qr_iconst (v := 0) dX2_can_25 (by decide) ?_
    obtain rfl := Option.some.inj h
    cases hT
    exact qr_iret dX2_can_26
  · rw [if_neg c3] at h
    refine qr_aload_n dX2_can_7 rfl 0 rfl ?_
    refine qr_get0 (k := 2) (v := .int (σ.1 v0 2)) hk0 (by decide) rfl qw_43 dX2_can_8 ?_
    refine qr_if_le (tgt := 25) dX2_can_11 (by decide) (fun c2 => ?_) (fun c2 => ?_)
    · rw [if_pos c2] at h
      refine qr_iconst (v := 0) dX2_can_25 (by decide) ?_
      obtain rfl := Option.some.inj h
      cases hT
      exact qr_iret dX2_can_26
    · rw [if_neg c2] at h
      refine qr_aload_n dX2_can_14 rfl 0 rfl ?_
      refine qr_get0 (k := 3) (v := .int (σ.1 v0 3)) hk0 (by decide) rfl qw_46 dX2_can_15 ?_
      refine qr_if_le (tgt := 25) dX2_can_18 (by decide) (fun c1 => ?_) (fun c1 => ?_)
      · rw [if_pos c1] at h
        refine qr_iconst (v := 0) dX2_can_25 (by decide) ?_
        obtain rfl := Option.some.inj h
        cases hT
        exact qr_iret dX2_can_26
      · rw [if_neg c1] at h
        refine qr_iconst (v := 1) dX2_can_21 (by decide) ?_
        refine qr_goto (tgt := 26) dX2_can_22 (by decide) ?_
        obtain rfl := Option.some.inj h
        cases hT
        exact qr_iret dX2_can_26
theorem ct_X2_can {l : Launch} {E : qm_E} (σ : qm_M) (v0 : Nat) (hk0 : qm_kind v0 = 1) {x : Bool} (h : fn_X2_can σ v0 = some x) : qm_Ct l E kd_X2_can yX2_can cX2_can 1 (some .boolean) [.ref (qm_a E v0)] σ (some (.int (qm_b x)), σ) := qm_ofWp rfl (Nat.le_of_ble_eq_true rfl) (qm_rtz _) (wf_X2_can σ v0 hk0 h rfl)
-- HungStreams$Tree.canBits ()I
abbrev kd_X3_canBits : Nat := 2
theorem yd_X3_canBits : (yX3_canBits).cls ≠ "java/lang/invoke/MethodHandle" ∧ (yX3_canBits).cls ≠ "java/lang/invoke/VarHandle" ∧ (parseMethodDescriptor (yX3_canBits).desc).map (fun d => d.parameters.length) = some 0 := by decide +kernel
abbrev pp_X3_canBits_4 (l : Launch) (E : qm_E) (σ : qm_M) (v0 : Nat) : (Int32 × Int32) → Option Value × qm_M → Prop := fun s r => qm_Wp l E kd_X3_canBits "HungStreams$Tree" cX3_canBits 3 4 [(0, .ref (qm_a E v0)), (1, .int s.1), (2, .int s.2)] [] σ r
def bb_X3_canBits_4 (σ : qm_M) (v0 : Nat) (v1 : Int32) (v2 : Int32) : Option ((Int32 × Int32) ⊕ (Int32)) :=
  if 12 < v2 then (some v1).bind (fun y => some (.inr y)) else (fn_X6_has σ (σ.1 v0 1) v2).bind (fun r2 => if (qm_b r2) = 0 then (some (v2 + 1)).bind (fun z3 => some (.inl (v1, z3))) else if ¬ (v2 < 0 ∨ 13 ≤ v2.toNatClampNeg) then (fn_X2_can σ (v0 + 1 + 1 + v2.toNatClampNeg)).bind (fun r5 => if (qm_b r5) = 0 then (some (v2 + 1)).bind (fun z6 => some (.inl (v1, z6))) else (some (v1 ||| (1 <<< (v2 &&& 31)))).bind (fun z7 => (some (v2 + 1)).bind (fun z8 => some (.inl (z7, z8))))) else none)
set_option maxRecDepth 20000 in
theorem wb_X3_canBits_4 {l : Launch} {E : qm_E} (σ : qm_M) (v0 : Nat) (v1 : Int32) (v2 : Int32) (hk0 : qm_kind v0 = 2) {x : (Int32 × Int32) ⊕ (Int32)} (h : bb_X3_canBits_4 σ v0 v1 v2 = some x) {r : Option Value × qm_M} (hT : (qm_T (pp_X3_canBits_4 l E σ v0) (fun x r => (some (.int x), σ) = r)) x r) : qm_Wp l E kd_X3_canBits "HungStreams$Tree" cX3_canBits 3 4 [(0, .ref (qm_a E v0)), (1, .int v1), (2, .int v2)] [] σ r := by
  unfold bb_X3_canBits_4 at h
  refine qr_iload_n dX3_canBits_4 rfl 2 rfl ?_
  refine qr_bipush (v := 12) dX3_canBits_5 (by decide) ?_
  refine qr_icmp_gt (tgt := 45) dX3_canBits_7 (by decide) (fun c11 => ?_) (fun c11 => ?_)
  · rw [if_pos c11] at h
    obtain ⟨y1, h1, hx⟩ := qm_bind h
    clear h
    cases hx
    have h := h1
    refine qr_iload_n dX3_canBits_45 rfl 1 rfl ?_
    obtain rfl := Option.some.inj h
    cases hT
    exact qr_iret dX3_canBits_46
  · rw [if_neg c11] at h
    refine qr_aload_n dX3_canBits_10 rfl 0 rfl ?_
    refine qr_get1 (k := 1) (v := .int (σ.1 v0 1)) hk0 (by decide) rfl qw_111 dX3_canBits_11 ?_
    refine qr_iload_n dX3_canBits_14 rfl 2 rfl ?_
    obtain ⟨r2, er2, h⟩ := qm_bind h
    refine qr_call1 (st1 := [.int (qm_b r2)]) rfl (qr_callN (host := "HungStreams") (As := [.int (σ.1 v0 1), .int v2]) (st := []) (ct_X6_has (l := l) (E := E) σ (σ.1 v0 1) v2 er2) qw_262 qw_1 (List.mem_of_getElem? (i := 2) rfl) qw_261 yd_X6_has (by decide) (by decide) rfl (Nat.le_of_ble_eq_true rfl) dX3_canBits_15) ?_
    refine qr_if_eq (tgt := 39) dX3_canBits_18 (by decide) (fun c10 => ?_) (fun c10 => ?_)
    · rw [if_pos c10] at h
      obtain ⟨z3, ez3, h⟩ := qm_bind h
      refine qr_iinc (q := 2) (v := z3) (lv' := [(2, .int z3), (0, .ref (qm_a E v0)), (1, .int v1)]) dX3_canBits_39 rfl (Option.some.inj ez3) (by decide) rfl ?_
      refine qr_goto (tgt := 4) dX3_canBits_42 (by decide) ?_
      obtain rfl := Option.some.inj h
      exact qr_sub [1, 2, 0] rfl hT
    · rw [if_neg c10] at h
      refine qr_aload_n dX3_canBits_21 rfl 0 rfl ?_
      refine qr_get1 (k := 0) (v := .ref (qm_a E (v0 + 1))) hk0 (by decide) rfl qw_106 dX3_canBits_22 ?_
      refine qr_iload_n dX3_canBits_25 rfl 2 rfl ?_
      obtain ⟨c4, h⟩ := qm_chk h
      refine qr_aalds (qm_k_arr hk0) c4 dX3_canBits_26 ?_
      obtain ⟨r5, er5, h⟩ := qm_bind h
      refine qr_call1 (st1 := [.int (qm_b r5)]) rfl (qr_callV (id := v0 + 1 + 1 + v2.toNatClampNeg) (c := 0) (As := []) (st := []) (qm_k_str (qm_k_arr hk0) c4) (by decide) rfl (ct_X2_can (l := l) (E := E) σ (v0 + 1 + 1 + v2.toNatClampNeg) (qm_k_str (qm_k_arr hk0) c4) er5) qw_373 qw_3 qw_378 qw_371 qw_372 yd_X2_can (by decide) (by decide) rfl (Nat.le_of_ble_eq_true rfl) dX3_canBits_27) ?_
      refine qr_if_eq (tgt := 39) dX3_canBits_30 (by decide) (fun c9 => ?_) (fun c9 => ?_)
      · rw [if_pos c9] at h
        obtain ⟨z6, ez6, h⟩ := qm_bind h
        refine qr_iinc (q := 2) (v := z6) (lv' := [(2, .int z6), (0, .ref (qm_a E v0)), (1, .int v1)]) dX3_canBits_39 rfl (Option.some.inj ez6) (by decide) rfl ?_
        refine qr_goto (tgt := 4) dX3_canBits_42 (by decide) ?_
        obtain rfl := Option.some.inj h
        exact qr_sub [1, 2, 0] rfl hT
      · rw [if_neg c9] at h
        refine qr_iload_n dX3_canBits_33 rfl 1 rfl ?_
        refine qr_iconst (v := 1) dX3_canBits_34 (by decide) ?_
        refine qr_iload_n dX3_canBits_35 rfl 2 rfl ?_
        refine qr_ishl dX3_canBits_36 ?_
        refine qr_ior dX3_canBits_37 ?_
        obtain ⟨z7, ez7, h⟩ := qm_bind h
        refine qr_eqi (Option.some.inj ez7) ?_
        refine qr_istore_n (lv' := [(1, .int z7), (0, .ref (qm_a E v0)), (2, .int v2)]) dX3_canBits_38 rfl (by decide) rfl ?_
        obtain ⟨z8, ez8, h⟩ := qm_bind h
        refine qr_iinc (q := 2) (v := z8) (lv' := [(2, .int z8), (1, .int z7), (0, .ref (qm_a E v0))]) dX3_canBits_39 rfl (Option.some.inj ez8) (by decide) rfl ?_
        refine qr_goto (tgt := 4) dX3_canBits_42 (by decide) ?_
        obtain rfl := Option.some.inj h
        exact qr_sub [2, 1, 0] rfl hT
def lp_X3_canBits_4 (σ : qm_M) (v0 : Nat) (v1 : Int32) (v2 : Int32) : Option (Int32) := qm_loop (fun s : Int32 × Int32 => bb_X3_canBits_4 σ v0 s.1 s.2) 1000 (v1, v2)
theorem wl_X3_canBits_4 {l : Launch} {E : qm_E} (σ : qm_M) (v0 : Nat) (v1 : Int32) (v2 : Int32) (hk0 : qm_kind v0 = 2) {x : Int32} (h : lp_X3_canBits_4 σ v0 v1 v2 = some x) {r : Option Value × qm_M} (hT : (fun x r => (some (.int x), σ) = r) x r) : qm_Wp l E kd_X3_canBits "HungStreams$Tree" cX3_canBits 3 4 [(0, .ref (qm_a E v0)), (1, .int v1), (2, .int v2)] [] σ r :=
  qm_loop_T (P := pp_X3_canBits_4 l E σ v0) (T1 := (fun x r => (some (.int x), σ) = r)) (fun s x h r hT => wb_X3_canBits_4 (l := l) (E := E) σ v0 s.1 s.2 hk0 h hT) h hT
def fn_X3_canBits (σ : qm_M) (v0 : Nat) : Option (Int32) :=
  lp_X3_canBits_4 σ v0 0 1
set_option maxRecDepth 20000 in
theorem wf_X3_canBits {l : Launch} {E : qm_E} (σ : qm_M) (v0 : Nat) (hk0 : qm_kind v0 = 2) {x : Int32} (h : fn_X3_canBits σ v0 = some x) {r : Option Value × qm_M} (hT : (fun x r => (some (.int x), σ) = r) x r) : qm_Wp l E kd_X3_canBits "HungStreams$Tree" cX3_canBits 3 0 [(0, .ref (qm_a E v0))] [] σ r := by
  unfold fn_X3_canBits at h
  refine qr_iconst (v := 0) dX3_canBits_0 (by decide) ?_
  refine qr_istore_n (lv' := [(1, .int 0), (0, .ref (qm_a E v0))]) dX3_canBits_1 rfl (by decide) rfl ?_
  refine qr_iconst (v := 1) dX3_canBits_2 (by decide) ?_
  refine qr_istore_n (lv' := [(2, .int 1), (1, .int 0), (0, .ref (qm_a E v0))]) dX3_canBits_3 rfl (by decide) rfl ?_
  exact qr_sub [2, 1, 0] rfl (wl_X3_canBits_4 (l := l) (E := E) σ v0 0 1 hk0 h hT)
theorem ct_X3_canBits {l : Launch} {E : qm_E} (σ : qm_M) (v0 : Nat) (hk0 : qm_kind v0 = 2) {x : Int32} (h : fn_X3_canBits σ v0 = some x) : qm_Ct l E kd_X3_canBits yX3_canBits cX3_canBits 3 (some .int) [.ref (qm_a E v0)] σ (some (.int x), σ) := qm_ofWp rfl (Nat.le_of_ble_eq_true rfl) (Or.inl rfl) (wf_X3_canBits σ v0 hk0 h rfl)
-- HungStreams$Tree.lineBits (I)I
abbrev kd_X3_lineBits : Nat := 1
theorem yd_X3_lineBits : (yX3_lineBits).cls ≠ "java/lang/invoke/MethodHandle" ∧ (yX3_lineBits).cls ≠ "java/lang/invoke/VarHandle" ∧ (parseMethodDescriptor (yX3_lineBits).desc).map (fun d => d.parameters.length) = some 1 := by decide +kernel
abbrev pp_X3_lineBits_7 (l : Launch) (E : qm_E) (σ : qm_M) (v0 : Nat) : (Int32 × Int32 × Int32) → Option Value × qm_M → Prop := fun s r => qm_Wp l E kd_X3_lineBits "HungStreams$Tree" cX3_lineBits 5 7 [(0, .ref (qm_a E v0)), (2, .int s.1), (3, .int s.2.1), (4, .int s.2.2)] [] σ r
def bb_X3_lineBits_7 (σ : qm_M) (v0 : Nat) (v2 : Int32) (v3 : Int32) (v4 : Int32) : Option ((Int32 × Int32 × Int32) ⊕ (Int32)) :=
  if 12 ≤ v4 then (some v2).bind (fun y => some (.inr y)) else if v3 = 0 then (some v2).bind (fun y => some (.inr y)) else (some (v2 ||| (1 <<< (v3 &&& 31)))).bind (fun z3 => if ¬ (v3 < 0 ∨ 13 ≤ v3.toNatClampNeg) then (some (σ.1 (v0 + 1 + 1 + v3.toNatClampNeg) 0)).bind (fun z5 => (some (v4 + 1)).bind (fun z6 => some (.inl (z3, z5, z6)))) else none)
set_option maxRecDepth 20000 in
theorem wb_X3_lineBits_7 {l : Launch} {E : qm_E} (σ : qm_M) (v0 : Nat) (v2 : Int32) (v3 : Int32) (v4 : Int32) (hk0 : qm_kind v0 = 2) {x : (Int32 × Int32 × Int32) ⊕ (Int32)} (h : bb_X3_lineBits_7 σ v0 v2 v3 v4 = some x) {r : Option Value × qm_M} (hT : (qm_T (pp_X3_lineBits_7 l E σ v0) (fun x r => (some (.int x), σ) = r)) x r) : qm_Wp l E kd_X3_lineBits "HungStreams$Tree" cX3_lineBits 5 7 [(0, .ref (qm_a E v0)), (2, .int v2), (3, .int v3), (4, .int v4)] [] σ r := by
  unfold bb_X3_lineBits_7 at h
  refine qr_iload dX3_lineBits_7 3 rfl ?_
  refine qr_bipush (v := 12) dX3_lineBits_9 (by decide) ?_
  refine qr_icmp_ge (tgt := 40) dX3_lineBits_11 (by decide) (fun c8 => ?_) (fun c8 => ?_)
  · rw [if_pos c8] at h
    obtain ⟨y1, h1, hx⟩ := qm_bind h
    clear h
    cases hx
    have h := h1
    refine qr_iload_n dX3_lineBits_40 rfl 1 rfl ?_
    obtain rfl := Option.some.inj h
    cases hT
    exact qr_iret dX3_lineBits_41
  · rw [if_neg c8] at h
    refine qr_iload_n dX3_lineBits_14 rfl 2 rfl ?_
    refine qr_if_eq (tgt := 40) dX3_lineBits_15 (by decide) (fun c7 => ?_) (fun c7 => ?_)
    · rw [if_pos c7] at h
      obtain ⟨y2, h1, hx⟩ := qm_bind h
      clear h
      cases hx
      have h := h1
      refine qr_iload_n dX3_lineBits_40 rfl 1 rfl ?_
      obtain rfl := Option.some.inj h
      cases hT
      exact qr_iret dX3_lineBits_41
    · rw [if_neg c7] at h
      refine qr_iload_n dX3_lineBits_18 rfl 1 rfl ?_
      refine qr_iconst (v := 1) dX3_lineBits_19 (by decide) ?_
      refine qr_iload_n dX3_lineBits_20 rfl 2 rfl ?_
      refine qr_ishl dX3_lineBits_21 ?_
      refine qr_ior dX3_lineBits_22 ?_
      obtain ⟨z3, ez3, h⟩ := qm_bind h
      refine qr_eqi (Option.some.inj ez3) ?_
      refine qr_istore_n (lv' := [(2, .int z3), (0, .ref (qm_a E v0)), (3, .int v3), (4, .int v4)]) dX3_lineBits_23 rfl (by decide) rfl ?_
      refine qr_aload_n dX3_lineBits_24 rfl 1 rfl ?_
      refine qr_get1 (k := 0) (v := .ref (qm_a E (v0 + 1))) hk0 (by decide) rfl qw_106 dX3_lineBits_25 ?_
      refine qr_iload_n dX3_lineBits_28 rfl 2 rfl ?_
      obtain ⟨c4, h⟩ := qm_chk h
      refine qr_aalds (qm_k_arr hk0) c4 dX3_lineBits_29 ?_
      refine qr_get0 (k := 0) (v := .int (σ.1 (v0 + 1 + 1 + v3.toNatClampNeg) 0)) (qm_k_str (qm_k_arr hk0) c4) (by decide) rfl qw_36 dX3_lineBits_30 ?_
      obtain ⟨z5, ez5, h⟩ := qm_bind h
      refine qr_eqi (Option.some.inj ez5) ?_
      refine qr_istore_n (lv' := [(3, .int z5), (2, .int z3), (0, .ref (qm_a E v0)), (4, .int v4)]) dX3_lineBits_33 rfl (by decide) rfl ?_
      obtain ⟨z6, ez6, h⟩ := qm_bind h
      refine qr_iinc (q := 3) (v := z6) (lv' := [(4, .int z6), (3, .int z5), (2, .int z3), (0, .ref (qm_a E v0))]) dX3_lineBits_34 rfl (Option.some.inj ez6) (by decide) rfl ?_
      refine qr_goto (tgt := 7) dX3_lineBits_37 (by decide) ?_
      obtain rfl := Option.some.inj h
      exact qr_sub [3, 2, 1, 0] rfl hT
def lp_X3_lineBits_7 (σ : qm_M) (v0 : Nat) (v2 : Int32) (v3 : Int32) (v4 : Int32) : Option (Int32) := qm_loop (fun s : Int32 × Int32 × Int32 => bb_X3_lineBits_7 σ v0 s.1 s.2.1 s.2.2) 1000 (v2, v3, v4)
theorem wl_X3_lineBits_7 {l : Launch} {E : qm_E} (σ : qm_M) (v0 : Nat) (v2 : Int32) (v3 : Int32) (v4 : Int32) (hk0 : qm_kind v0 = 2) {x : Int32} (h : lp_X3_lineBits_7 σ v0 v2 v3 v4 = some x) {r : Option Value × qm_M} (hT : (fun x r => (some (.int x), σ) = r) x r) : qm_Wp l E kd_X3_lineBits "HungStreams$Tree" cX3_lineBits 5 7 [(0, .ref (qm_a E v0)), (2, .int v2), (3, .int v3), (4, .int v4)] [] σ r :=
  qm_loop_T (P := pp_X3_lineBits_7 l E σ v0) (T1 := (fun x r => (some (.int x), σ) = r)) (fun s x h r hT => wb_X3_lineBits_7 (l := l) (E := E) σ v0 s.1 s.2.1 s.2.2 hk0 h hT) h hT
def fn_X3_lineBits (σ : qm_M) (v0 : Nat) (v1 : Int32) : Option (Int32) :=
  lp_X3_lineBits_7 σ v0 0 v1 0
set_option maxRecDepth 20000 in
theorem wf_X3_lineBits {l : Launch} {E : qm_E} (σ : qm_M) (v0 : Nat) (v1 : Int32) (hk0 : qm_kind v0 = 2) {x : Int32} (h : fn_X3_lineBits σ v0 v1 = some x) {r : Option Value × qm_M} (hT : (fun x r => (some (.int x), σ) = r) x r) : qm_Wp l E kd_X3_lineBits "HungStreams$Tree" cX3_lineBits 5 0 [(0, .ref (qm_a E v0)), (1, .int v1)] [] σ r := by
  unfold fn_X3_lineBits at h
  refine qr_iconst (v := 0) dX3_lineBits_0 (by decide) ?_
  refine qr_istore_n (lv' := [(2, .int 0), (0, .ref (qm_a E v0)), (1, .int v1)]) dX3_lineBits_1 rfl (by decide) rfl ?_
  refine qr_iload_n dX3_lineBits_2 rfl 2 rfl ?_
  refine qr_istore_n (lv' := [(3, .int v1), (2, .int 0), (0, .ref (qm_a E v0)), (1, .int v1)]) dX3_lineBits_3 rfl (by decide) rfl ?_
  refine qr_iconst (v := 0) dX3_lineBits_4 (by decide) ?_
  refine qr_istore (lv' := [(4, .int 0), (3, .int v1), (2, .int 0), (0, .ref (qm_a E v0)), (1, .int v1)]) dX3_lineBits_5 (by decide) rfl ?_
  exact qr_sub [3, 2, 1, 0] rfl (wl_X3_lineBits_7 (l := l) (E := E) σ v0 0 v1 0 hk0 h hT)
theorem ct_X3_lineBits {l : Launch} {E : qm_E} (σ : qm_M) (v0 : Nat) (v1 : Int32) (hk0 : qm_kind v0 = 2) {x : Int32} (h : fn_X3_lineBits σ v0 v1 = some x) : qm_Ct l E kd_X3_lineBits yX3_lineBits cX3_lineBits 5 (some .int) [.ref (qm_a E v0), .int v1] σ (some (.int x), σ) := qm_ofWp rfl (Nat.le_of_ble_eq_true rfl) (Or.inl rfl) (wf_X3_lineBits σ v0 v1 hk0 h rfl)
-- HungStreams$Tree.liveBits (I)I
abbrev kd_X3_liveBits : Nat := 2
theorem yd_X3_liveBits : (yX3_liveBits).cls ≠ "java/lang/invoke/MethodHandle" ∧ (yX3_liveBits).cls ≠ "java/lang/invoke/VarHandle" ∧ (parseMethodDescriptor (yX3_liveBits).desc).map (fun d => d.parameters.length) = some 1 := by decide +kernel
abbrev pp_X3_liveBits_4 (l : Launch) (E : qm_E) (σ : qm_M) (v0 : Nat) (v1 : Int32) : (Int32 × Int32) → Option Value × qm_M → Prop := fun s r => qm_Wp l E kd_X3_liveBits "HungStreams$Tree" cX3_liveBits 4 4 [(0, .ref (qm_a E v0)), (1, .int v1), (2, .int s.1), (3, .int s.2)] [] σ r
def bb_X3_liveBits_4 (σ : qm_M) (v0 : Nat) (v1 : Int32) (v2 : Int32) (v3 : Int32) : Option ((Int32 × Int32) ⊕ (Int32)) :=
  if 12 < v3 then (some v2).bind (fun y => some (.inr y)) else (fn_X6_has σ v1 v3).bind (fun r2 => if (qm_b r2) = 0 then (some (v3 + 1)).bind (fun z3 => some (.inl (v2, z3))) else (fn_X6_has σ v2 v3).bind (fun r4 => if (qm_b r4) = 0 then (fn_X3_lineBits σ v0 v3).bind (fun r6 => (some (v2 ||| r6)).bind (fun z7 => (some (v3 + 1)).bind (fun z8 => some (.inl (z7, z8))))) else (some (v3 + 1)).bind (fun z5 => some (.inl (v2, z5)))))
set_option maxRecDepth 20000 in
theorem wb_X3_liveBits_4 {l : Launch} {E : qm_E} (σ : qm_M) (v0 : Nat) (v1 : Int32) (v2 : Int32) (v3 : Int32) (hk0 : qm_kind v0 = 2) {x : (Int32 × Int32) ⊕ (Int32)} (h : bb_X3_liveBits_4 σ v0 v1 v2 v3 = some x) {r : Option Value × qm_M} (hT : (qm_T (pp_X3_liveBits_4 l E σ v0 v1) (fun x r => (some (.int x), σ) = r)) x r) : qm_Wp l E kd_X3_liveBits "HungStreams$Tree" cX3_liveBits 4 4 [(0, .ref (qm_a E v0)), (1, .int v1), (2, .int v2), (3, .int v3)] [] σ r := by
  unfold bb_X3_liveBits_4 at h
  refine qr_iload_n dX3_liveBits_4 rfl 3 rfl ?_
  refine qr_bipush (v := 12) dX3_liveBits_5 (by decide) ?_
  refine qr_icmp_gt (tgt := 40) dX3_liveBits_7 (by decide) (fun c11 => ?_) (fun c11 => ?_)
  · rw [if_pos c11] at h
    obtain ⟨y1, h1, hx⟩ := qm_bind h
    clear h
    cases hx
    have h := h1
    refine qr_iload_n dX3_liveBits_40 rfl 2 rfl ?_
    obtain rfl := Option.some.inj h
    cases hT
    exact qr_iret dX3_liveBits_41
  · rw [if_neg c11] at h
    refine qr_iload_n dX3_liveBits_10 rfl 1 rfl ?_
    refine qr_iload_n dX3_liveBits_11 rfl 3 rfl ?_
    obtain ⟨r2, er2, h⟩ := qm_bind h
    refine qr_call1 (st1 := [.int (qm_b r2)]) rfl (qr_callN (host := "HungStreams") (As := [.int v1, .int v3]) (st := []) (ct_X6_has (l := l) (E := E) σ v1 v3 er2) qw_262 qw_1 (List.mem_of_getElem? (i := 2) rfl) qw_261 yd_X6_has (by decide) (by decide) rfl (Nat.le_of_ble_eq_true rfl) dX3_liveBits_12) ?_
    refine qr_if_eq (tgt := 34) dX3_liveBits_15 (by decide) (fun c10 => ?_) (fun c10 => ?_)
    · rw [if_pos c10] at h
      obtain ⟨z3, ez3, h⟩ := qm_bind h
      refine qr_iinc (q := 3) (v := z3) (lv' := [(3, .int z3), (0, .ref (qm_a E v0)), (1, .int v1), (2, .int v2)]) dX3_liveBits_34 rfl (Option.some.inj ez3) (by decide) rfl ?_
      refine qr_goto (tgt := 4) dX3_liveBits_37 (by decide) ?_
      obtain rfl := Option.some.inj h
      exact qr_sub [1, 2, 3, 0] rfl hT
    · rw [if_neg c10] at h
      refine qr_iload_n dX3_liveBits_18 rfl 2 rfl ?_
      refine qr_iload_n dX3_liveBits_19 rfl 3 rfl ?_
      obtain ⟨r4, er4, h⟩ := qm_bind h
      refine qr_call1 (st1 := [.int (qm_b r4)]) rfl (qr_callN (host := "HungStreams") (As := [.int v2, .int v3]) (st := []) (ct_X6_has (l := l) (E := E) σ v2 v3 er4) qw_262 qw_1 (List.mem_of_getElem? (i := 2) rfl) qw_261 yd_X6_has (by decide) (by decide) rfl (Nat.le_of_ble_eq_true rfl) dX3_liveBits_20) ?_
      refine qr_if_ne (tgt := 34) dX3_liveBits_23 (by decide) (fun c9 => ?_) (fun c9 => ?_)
      · rw [if_neg c9] at h
        obtain ⟨z5, ez5, h⟩ := qm_bind h
        refine qr_iinc (q := 3) (v := z5) (lv' := [(3, .int z5), (0, .ref (qm_a E v0)), (1, .int v1), (2, .int v2)]) dX3_liveBits_34 rfl (Option.some.inj ez5) (by decide) rfl ?_
        refine qr_goto (tgt := 4) dX3_liveBits_37 (by decide) ?_
        obtain rfl := Option.some.inj h
        exact qr_sub [1, 2, 3, 0] rfl hT
      · rw [if_pos c9] at h
        refine qr_iload_n dX3_liveBits_26 rfl 2 rfl ?_
        refine qr_aload_n dX3_liveBits_27 rfl 0 rfl ?_
        refine qr_iload_n dX3_liveBits_28 rfl 3 rfl ?_
        obtain ⟨r6, er6, h⟩ := qm_bind h
        refine qr_call1 (st1 := [.int r6, .int v2]) rfl (qr_callV (id := v0) (c := 1) (As := [.int v3]) (st := [.int v2]) hk0 (by decide) rfl (ct_X3_lineBits (l := l) (E := E) σ v0 v3 hk0 er6) qw_319 qw_2 qw_316 qw_317 qw_318 yd_X3_lineBits (by decide) (by decide) rfl (Nat.le_of_ble_eq_true rfl) dX3_liveBits_29) ?_
        refine qr_ior dX3_liveBits_32 ?_
        obtain ⟨z7, ez7, h⟩ := qm_bind h
        refine qr_eqi (Option.some.inj ez7) ?_
        refine qr_istore_n (lv' := [(2, .int z7), (0, .ref (qm_a E v0)), (1, .int v1), (3, .int v3)]) dX3_liveBits_33 rfl (by decide) rfl ?_
        obtain ⟨z8, ez8, h⟩ := qm_bind h
        refine qr_iinc (q := 3) (v := z8) (lv' := [(3, .int z8), (2, .int z7), (0, .ref (qm_a E v0)), (1, .int v1)]) dX3_liveBits_34 rfl (Option.some.inj ez8) (by decide) rfl ?_
        refine qr_goto (tgt := 4) dX3_liveBits_37 (by decide) ?_
        obtain rfl := Option.some.inj h
        exact qr_sub [2, 3, 1, 0] rfl hT
def lp_X3_liveBits_4 (σ : qm_M) (v0 : Nat) (v1 : Int32) (v2 : Int32) (v3 : Int32) : Option (Int32) := qm_loop (fun s : Int32 × Int32 => bb_X3_liveBits_4 σ v0 v1 s.1 s.2) 1000 (v2, v3)
theorem wl_X3_liveBits_4 {l : Launch} {E : qm_E} (σ : qm_M) (v0 : Nat) (v1 : Int32) (v2 : Int32) (v3 : Int32) (hk0 : qm_kind v0 = 2) {x : Int32} (h : lp_X3_liveBits_4 σ v0 v1 v2 v3 = some x) {r : Option Value × qm_M} (hT : (fun x r => (some (.int x), σ) = r) x r) : qm_Wp l E kd_X3_liveBits "HungStreams$Tree" cX3_liveBits 4 4 [(0, .ref (qm_a E v0)), (1, .int v1), (2, .int v2), (3, .int v3)] [] σ r :=
  qm_loop_T (P := pp_X3_liveBits_4 l E σ v0 v1) (T1 := (fun x r => (some (.int x), σ) = r)) (fun s x h r hT => wb_X3_liveBits_4 (l := l) (E := E) σ v0 v1 s.1 s.2 hk0 h hT) h hT
def fn_X3_liveBits (σ : qm_M) (v0 : Nat) (v1 : Int32) : Option (Int32) :=
  lp_X3_liveBits_4 σ v0 v1 0 1
set_option maxRecDepth 20000 in
theorem wf_X3_liveBits {l : Launch} {E : qm_E} (σ : qm_M) (v0 : Nat) (v1 : Int32) (hk0 : qm_kind v0 = 2) {x : Int32} (h : fn_X3_liveBits σ v0 v1 = some x) {r : Option Value × qm_M} (hT : (fun x r => (some (.int x), σ) = r) x r) : qm_Wp l E kd_X3_liveBits "HungStreams$Tree" cX3_liveBits 4 0 [(0, .ref (qm_a E v0)), (1, .int v1)] [] σ r := by
  unfold fn_X3_liveBits at h
  refine qr_iconst (v := 0) dX3_liveBits_0 (by decide) ?_
  refine qr_istore_n (lv' := [(2, .int 0), (0, .ref (qm_a E v0)), (1, .int v1)]) dX3_liveBits_1 rfl (by decide) rfl ?_
  refine qr_iconst (v := 1) dX3_liveBits_2 (by decide) ?_
  refine qr_istore_n (lv' := [(3, .int 1), (2, .int 0), (0, .ref (qm_a E v0)), (1, .int v1)]) dX3_liveBits_3 rfl (by decide) rfl ?_
  exact qr_sub [2, 3, 1, 0] rfl (wl_X3_liveBits_4 (l := l) (E := E) σ v0 v1 0 1 hk0 h hT)
theorem ct_X3_liveBits {l : Launch} {E : qm_E} (σ : qm_M) (v0 : Nat) (v1 : Int32) (hk0 : qm_kind v0 = 2) {x : Int32} (h : fn_X3_liveBits σ v0 v1 = some x) : qm_Ct l E kd_X3_liveBits yX3_liveBits cX3_liveBits 4 (some .int) [.ref (qm_a E v0), .int v1] σ (some (.int x), σ) := qm_ofWp rfl (Nat.le_of_ble_eq_true rfl) (Or.inl rfl) (wf_X3_liveBits σ v0 v1 hk0 h rfl)
-- java/lang/Math.max (JJ)J
abbrev kd_Jl_max : Nat := 1
theorem yd_Jl_max : (yJl_max).cls ≠ "java/lang/invoke/MethodHandle" ∧ (yJl_max).cls ≠ "java/lang/invoke/VarHandle" ∧ (parseMethodDescriptor (yJl_max).desc).map (fun d => d.parameters.length) = some 2 := by decide +kernel
def fn_Jl_max (σ : qm_M) (v0 : Int64) (v2 : Int64) : Option (Int64) :=
  if (lg_cmp v0 v2) < 0 then some v2 else some v0
set_option maxRecDepth 20000 in
theorem wf_Jl_max {l : Launch} {E : qm_E} (σ : qm_M) (v0 : Int64) (v2 : Int64) {x : Int64} (h : fn_Jl_max σ v0 v2 = some x) {r : Option Value × qm_M} (hT : (fun x r => (some (.long x), σ) = r) x r) : qm_Wp l E kd_Jl_max "java/lang/Math" prog_11_method_66_code 4 0 [(0, .long v0), (2, .long v2)] [] σ r := by
  unfold fn_Jl_max at h
  refine qr_lload_n dJl_max_0 rfl 0 rfl ?_
  refine qr_lload_n dJl_max_1 rfl 1 rfl ?_
  refine qr_lcmp dJl_max_2 ?_
  refine qr_if_lt (tgt := 10) dJl_max_3 (by decide) (fun c1 => ?_) (fun c1 => ?_)
  · rw [if_pos c1] at h
    refine qr_lload_n dJl_max_10 rfl 1 rfl ?_
    obtain rfl := Option.some.inj h
    cases hT
    exact qr_lret dJl_max_11
  · rw [if_neg c1] at h
    refine qr_lload_n dJl_max_6 rfl 0 rfl ?_
    refine qr_goto (tgt := 11) dJl_max_7 (by decide) ?_
    obtain rfl := Option.some.inj h
    cases hT
    exact qr_lret dJl_max_11
theorem ct_Jl_max {l : Launch} {E : qm_E} (σ : qm_M) (v0 : Int64) (v2 : Int64) {x : Int64} (h : fn_Jl_max σ v0 v2 = some x) : qm_Ct l E kd_Jl_max yJl_max prog_11_method_66_code 4 (some .long) [.long v0, .long v2] σ (some (.long x), σ) := qm_ofWpF (by decide +kernel) (Nat.le_of_ble_eq_true rfl) (rfl) (wf_Jl_max σ v0 v2  h rfl)
-- HungStreams$Frames.turnOnLook (LHungStreams$Tree;I)J
abbrev kd_X0_turnOnLook : Nat := 2
theorem yd_X0_turnOnLook : (yX0_turnOnLook).cls ≠ "java/lang/invoke/MethodHandle" ∧ (yX0_turnOnLook).cls ≠ "java/lang/invoke/VarHandle" ∧ (parseMethodDescriptor (yX0_turnOnLook).desc).map (fun d => d.parameters.length) = some 2 := by decide +kernel
def fn_X0_turnOnLook (σ : qm_M) (v0 : Nat) (v1 : Int32) : Option (Int64) :=
  if ¬ (v1 < 0 ∨ 13 ≤ v1.toNatClampNeg) then (fn_X6_has σ (σ.1 v0 2) v1).bind (fun r2 => if (qm_b r2) = 0 then if ¬ ((σ.1 (v0 + 1 + 1 + v1.toNatClampNeg) 0) < 0 ∨ 13 ≤ (σ.1 (v0 + 1 + 1 + v1.toNatClampNeg) 0).toNatClampNeg) then (fn_Jl_max σ (σ.2 (v0 + 1 + 1 + v1.toNatClampNeg) 12) (σ.2 (v0 + 1 + 1 + (σ.1 (v0 + 1 + 1 + v1.toNatClampNeg) 0).toNatClampNeg) 13)).bind (fun r4 => some r4) else none else some (σ.2 (v0 + 1 + 1 + v1.toNatClampNeg) 12)) else none
set_option maxRecDepth 20000 in
theorem wf_X0_turnOnLook {l : Launch} {E : qm_E} (σ : qm_M) (v0 : Nat) (v1 : Int32) (hk0 : qm_kind v0 = 2) {x : Int64} (h : fn_X0_turnOnLook σ v0 v1 = some x) {r : Option Value × qm_M} (hT : (fun x r => (some (.long x), σ) = r) x r) : qm_Wp l E kd_X0_turnOnLook "HungStreams$Frames" cX0_turnOnLook 3 0 [(0, .ref (qm_a E v0)), (1, .int v1)] [] σ r := by
  unfold fn_X0_turnOnLook at h
  refine qr_aload_n dX0_turnOnLook_0 rfl 0 rfl ?_
  refine qr_get1 (k := 0) (v := .ref (qm_a E (v0 + 1))) hk0 (by decide) rfl qw_108 dX0_turnOnLook_1 ?_
  refine qr_iload_n dX0_turnOnLook_4 rfl 1 rfl ?_
  obtain ⟨c1, h⟩ := qm_chk h
  refine qr_aalds (qm_k_arr hk0) c1 dX0_turnOnLook_5 ?_
  refine qr_astore_n (lv' := [(2, .ref (qm_a E (v0 + 1 + 1 + v1.toNatClampNeg))), (0, .ref (qm_a E v0)), (1, .int v1)]) dX0_turnOnLook_6 rfl (by decide) rfl ?_
  refine qr_aload_n dX0_turnOnLook_7 rfl 1 rfl ?_
  refine qr_get1 (k := 2) (v := .int (σ.1 v0 2)) hk0 (by decide) rfl qw_115 dX0_turnOnLook_8 ?_
  refine qr_iload_n dX0_turnOnLook_11 rfl 2 rfl ?_
  obtain ⟨r2, er2, h⟩ := qm_bind h
  refine qr_call1 (st1 := [.int (qm_b r2)]) rfl (qr_callN (host := "HungStreams") (As := [.int (σ.1 v0 2), .int v1]) (st := []) (ct_X6_has (l := l) (E := E) σ (σ.1 v0 2) v1 er2) qw_262 qw_1 (List.mem_of_getElem? (i := 4) rfl) qw_261 yd_X6_has (by decide) (by decide) rfl (Nat.le_of_ble_eq_true rfl) dX0_turnOnLook_12) ?_
  refine qr_if_eq (tgt := 23) dX0_turnOnLook_15 (by decide) (fun c5 => ?_) (fun c5 => ?_)
  · rw [if_pos c5] at h
    refine qr_aload_n dX0_turnOnLook_23 rfl 0 rfl ?_
    refine qr_get0 (k := 12) (v := .long (σ.2 (v0 + 1 + 1 + v1.toNatClampNeg) 12)) (qm_k_str (qm_k_arr hk0) c1) (by decide) rfl qw_70 dX0_turnOnLook_24 ?_
    refine qr_aload_n dX0_turnOnLook_27 rfl 1 rfl ?_
    refine qr_get1 (k := 0) (v := .ref (qm_a E (v0 + 1))) hk0 (by decide) rfl qw_108 dX0_turnOnLook_28 ?_
    refine qr_aload_n dX0_turnOnLook_31 rfl 0 rfl ?_
    refine qr_get0 (k := 0) (v := .int (σ.1 (v0 + 1 + 1 + v1.toNatClampNeg) 0)) (qm_k_str (qm_k_arr hk0) c1) (by decide) rfl qw_35 dX0_turnOnLook_32 ?_
    obtain ⟨c3, h⟩ := qm_chk h
    refine qr_aalds (qm_k_arr hk0) c3 dX0_turnOnLook_35 ?_
    refine qr_get0 (k := 13) (v := .long (σ.2 (v0 + 1 + 1 + (σ.1 (v0 + 1 + 1 + v1.toNatClampNeg) 0).toNatClampNeg) 13)) (qm_k_str (qm_k_arr hk0) c3) (by decide) rfl qw_74 dX0_turnOnLook_36 ?_
    obtain ⟨r4, er4, h⟩ := qm_bind h
    refine qr_call1 (st1 := [.long r4]) rfl (qr_callS (As := [.long (σ.2 (v0 + 1 + 1 + v1.toNatClampNeg) 12), .long (σ.2 (v0 + 1 + 1 + (σ.1 (v0 + 1 + 1 + v1.toNatClampNeg) 0).toNatClampNeg) 13)]) (st := []) (ct_Jl_max (l := l) (E := E) σ (σ.2 (v0 + 1 + 1 + v1.toNatClampNeg) 12) (σ.2 (v0 + 1 + 1 + (σ.1 (v0 + 1 + 1 + v1.toNatClampNeg) 0).toNatClampNeg) 13) er4) qw_354 qw_7 qw_445 qw_353 yd_Jl_max (by decide) (by decide) rfl (Nat.le_of_ble_eq_true rfl) dX0_turnOnLook_39) ?_
    obtain rfl := Option.some.inj h
    cases hT
    exact qr_lret dX0_turnOnLook_42
  · rw [if_neg c5] at h
    refine qr_aload_n dX0_turnOnLook_18 rfl 0 rfl ?_
    refine qr_get0 (k := 12) (v := .long (σ.2 (v0 + 1 + 1 + v1.toNatClampNeg) 12)) (qm_k_str (qm_k_arr hk0) c1) (by decide) rfl qw_70 dX0_turnOnLook_19 ?_
    obtain rfl := Option.some.inj h
    cases hT
    exact qr_lret dX0_turnOnLook_22
theorem ct_X0_turnOnLook {l : Launch} {E : qm_E} (σ : qm_M) (v0 : Nat) (v1 : Int32) (hk0 : qm_kind v0 = 2) {x : Int64} (h : fn_X0_turnOnLook σ v0 v1 = some x) : qm_Ct l E kd_X0_turnOnLook yX0_turnOnLook cX0_turnOnLook 3 (some .long) [.ref (qm_a E v0), .int v1] σ (some (.long x), σ) := qm_ofWp rfl (Nat.le_of_ble_eq_true rfl) (rfl) (wf_X0_turnOnLook σ v0 v1 hk0 h rfl)
-- HungStreams$Frames.look (LHungStreams$Tree;I)V
abbrev kd_X0_look : Nat := 3
theorem yd_X0_look : (yX0_look).cls ≠ "java/lang/invoke/MethodHandle" ∧ (yX0_look).cls ≠ "java/lang/invoke/VarHandle" ∧ (parseMethodDescriptor (yX0_look).desc).map (fun d => d.parameters.length) = some 2 := by decide +kernel
abbrev pp_X0_look_2 (l : Launch) (E : qm_E) (v0 : Nat) (v1 : Int32) : (Int32 × qm_M) → Option Value × qm_M → Prop := fun s r => qm_Wp l E kd_X0_look "HungStreams$Frames" cX0_look 3 2 [(0, .ref (qm_a E v0)), (1, .int v1), (2, .int s.1)] [] s.2 r
def bb_X0_look_2 (σ : qm_M) (v0 : Nat) (v1 : Int32) (v2 : Int32) : Option ((Int32 × qm_M) ⊕ (qm_M)) :=
  if 12 < v2 then ((some (qm_si σ v0 2 v1)).bind (fun σ1 => some σ1)).bind (fun y => some (.inr y)) else (fn_X6_has σ v1 v2).bind (fun r3 => if (qm_b r3) = 0 then (some (v2 + 1)).bind (fun z4 => some (.inl (z4, σ))) else if ¬ (v2 < 0 ∨ 13 ≤ v2.toNatClampNeg) then (fn_X0_turnOnLook σ v0 v2).bind (fun r6 => (some (qm_sl σ (v0 + 1 + 1 + v2.toNatClampNeg) 12 r6)).bind (fun σ7 => (some (v2 + 1)).bind (fun z8 => some (.inl (z8, σ7))))) else none)
set_option maxRecDepth 20000 in
theorem wb_X0_look_2 {l : Launch} {E : qm_E} (σ : qm_M) (v0 : Nat) (v1 : Int32) (v2 : Int32) (hk0 : qm_kind v0 = 2) {x : (Int32 × qm_M) ⊕ (qm_M)} (h : bb_X0_look_2 σ v0 v1 v2 = some x) {r : Option Value × qm_M} (hT : (qm_T (pp_X0_look_2 l E v0 v1) (fun x r => (none, x) = r)) x r) : qm_Wp l E kd_X0_look "HungStreams$Frames" cX0_look 3 2 [(0, .ref (qm_a E v0)), (1, .int v1), (2, .int v2)] [] σ r := by
  unfold bb_X0_look_2 at h
  refine qr_iload_n dX0_look_2 rfl 2 rfl ?_
  refine qr_bipush (v := 12) dX0_look_3 (by decide) ?_
  refine qr_icmp_gt (tgt := 36) dX0_look_5 (by decide) (fun c10 => ?_) (fun c10 => ?_)
  · rw [if_pos c10] at h
    obtain ⟨y2, h1, hx⟩ := qm_bind h
    clear h
    cases hx
    have h := h1
    refine qr_aload_n dX0_look_36 rfl 0 rfl ?_
    refine qr_iload_n dX0_look_37 rfl 1 rfl ?_
    obtain ⟨σ1, eσ1, h⟩ := qm_bind h
    refine qr_put1_2 hk0 qw_115 dX0_look_38 (qr_eqm (Option.some.inj eσ1) ?_)
    obtain rfl := Option.some.inj h
    cases hT
    exact qr_vret dX0_look_41
  · rw [if_neg c10] at h
    refine qr_iload_n dX0_look_8 rfl 1 rfl ?_
    refine qr_iload_n dX0_look_9 rfl 2 rfl ?_
    obtain ⟨r3, er3, h⟩ := qm_bind h
    refine qr_call1 (st1 := [.int (qm_b r3)]) rfl (qr_callN (host := "HungStreams") (As := [.int v1, .int v2]) (st := []) (ct_X6_has (l := l) (E := E) σ v1 v2 er3) qw_262 qw_1 (List.mem_of_getElem? (i := 4) rfl) qw_261 yd_X6_has (by decide) (by decide) rfl (Nat.le_of_ble_eq_true rfl) dX0_look_10) ?_
    refine qr_if_eq (tgt := 30) dX0_look_13 (by decide) (fun c9 => ?_) (fun c9 => ?_)
    · rw [if_pos c9] at h
      obtain ⟨z4, ez4, h⟩ := qm_bind h
      refine qr_iinc (q := 2) (v := z4) (lv' := [(2, .int z4), (0, .ref (qm_a E v0)), (1, .int v1)]) dX0_look_30 rfl (Option.some.inj ez4) (by decide) rfl ?_
      refine qr_goto (tgt := 2) dX0_look_33 (by decide) ?_
      obtain rfl := Option.some.inj h
      exact qr_sub [1, 2, 0] rfl hT
    · rw [if_neg c9] at h
      refine qr_aload_n dX0_look_16 rfl 0 rfl ?_
      refine qr_get1 (k := 0) (v := .ref (qm_a E (v0 + 1))) hk0 (by decide) rfl qw_108 dX0_look_17 ?_
      refine qr_iload_n dX0_look_20 rfl 2 rfl ?_
      obtain ⟨c5, h⟩ := qm_chk h
      refine qr_aalds (qm_k_arr hk0) c5 dX0_look_21 ?_
      refine qr_aload_n dX0_look_22 rfl 0 rfl ?_
      refine qr_iload_n dX0_look_23 rfl 2 rfl ?_
      obtain ⟨r6, er6, h⟩ := qm_bind h
      refine qr_call1 (st1 := [.long r6, .ref (qm_a E (v0 + 1 + 1 + v2.toNatClampNeg))]) rfl (qr_callS (As := [.ref (qm_a E v0), .int v2]) (st := [.ref (qm_a E (v0 + 1 + 1 + v2.toNatClampNeg))]) (ct_X0_turnOnLook (l := l) (E := E) σ v0 v2 hk0 er6) qw_444 qw_9 qw_442 qw_443 yd_X0_turnOnLook (by decide) (by decide) rfl (Nat.le_of_ble_eq_true rfl) dX0_look_24) ?_
      obtain ⟨σ7, eσ7, h⟩ := qm_bind h
      refine qr_put0_12 (qm_k_str (qm_k_arr hk0) c5) qw_70 dX0_look_27 (qr_eqm (Option.some.inj eσ7) ?_)
      obtain ⟨z8, ez8, h⟩ := qm_bind h
      refine qr_iinc (q := 2) (v := z8) (lv' := [(2, .int z8), (0, .ref (qm_a E v0)), (1, .int v1)]) dX0_look_30 rfl (Option.some.inj ez8) (by decide) rfl ?_
      refine qr_goto (tgt := 2) dX0_look_33 (by decide) ?_
      obtain rfl := Option.some.inj h
      exact qr_sub [1, 2, 0] rfl hT
def lp_X0_look_2 (σ : qm_M) (v0 : Nat) (v1 : Int32) (v2 : Int32) : Option (qm_M) := qm_loop (fun s : Int32 × qm_M => bb_X0_look_2 s.2 v0 v1 s.1) 1000 (v2, σ)
theorem wl_X0_look_2 {l : Launch} {E : qm_E} (σ : qm_M) (v0 : Nat) (v1 : Int32) (v2 : Int32) (hk0 : qm_kind v0 = 2) {x : qm_M} (h : lp_X0_look_2 σ v0 v1 v2 = some x) {r : Option Value × qm_M} (hT : (fun x r => (none, x) = r) x r) : qm_Wp l E kd_X0_look "HungStreams$Frames" cX0_look 3 2 [(0, .ref (qm_a E v0)), (1, .int v1), (2, .int v2)] [] σ r :=
  qm_loop_T (P := pp_X0_look_2 l E v0 v1) (T1 := (fun x r => (none, x) = r)) (fun s x h r hT => wb_X0_look_2 (l := l) (E := E) s.2 v0 v1 s.1 hk0 h hT) h hT
def fn_X0_look (σ : qm_M) (v0 : Nat) (v1 : Int32) : Option (qm_M) :=
  lp_X0_look_2 σ v0 v1 1
set_option maxRecDepth 20000 in
theorem wf_X0_look {l : Launch} {E : qm_E} (σ : qm_M) (v0 : Nat) (v1 : Int32) (hk0 : qm_kind v0 = 2) {x : qm_M} (h : fn_X0_look σ v0 v1 = some x) {r : Option Value × qm_M} (hT : (fun x r => (none, x) = r) x r) : qm_Wp l E kd_X0_look "HungStreams$Frames" cX0_look 3 0 [(0, .ref (qm_a E v0)), (1, .int v1)] [] σ r := by
  unfold fn_X0_look at h
  refine qr_iconst (v := 1) dX0_look_0 (by decide) ?_
  refine qr_istore_n (lv' := [(2, .int 1), (0, .ref (qm_a E v0)), (1, .int v1)]) dX0_look_1 rfl (by decide) rfl ?_
  exact qr_sub [1, 2, 0] rfl (wl_X0_look_2 (l := l) (E := E) σ v0 v1 1 hk0 h hT)
theorem ct_X0_look {l : Launch} {E : qm_E} (σ : qm_M) (v0 : Nat) (v1 : Int32) (hk0 : qm_kind v0 = 2) {x : qm_M} (h : fn_X0_look σ v0 v1 = some x) : qm_Ct l E kd_X0_look yX0_look cX0_look 3 none [.ref (qm_a E v0), .int v1] σ (none, x) := qm_ofWp rfl (Nat.le_of_ble_eq_true rfl) (rfl) (wf_X0_look σ v0 v1 hk0 h rfl)
-- HungStreams$Frames.leastTurn (LHungStreams$Tree;II)I
abbrev kd_X0_leastTurn : Nat := 3
theorem yd_X0_leastTurn : (yX0_leastTurn).cls ≠ "java/lang/invoke/MethodHandle" ∧ (yX0_leastTurn).cls ≠ "java/lang/invoke/VarHandle" ∧ (parseMethodDescriptor (yX0_leastTurn).desc).map (fun d => d.parameters.length) = some 3 := by decide +kernel
abbrev pp_X0_leastTurn_8 (l : Launch) (E : qm_E) (σ : qm_M) (v0 : Nat) (v1 : Int32) (v2 : Int32) : (Int32 × Int64 × Int32) → Option Value × qm_M → Prop := fun s r => qm_Wp l E kd_X0_leastTurn "HungStreams$Frames" cX0_leastTurn 9 8 [(0, .ref (qm_a E v0)), (1, .int v1), (2, .int v2), (3, .int s.1), (4, .long s.2.1), (6, .int s.2.2)] [] σ r
def bb_X0_leastTurn_8 (σ : qm_M) (v0 : Nat) (v1 : Int32) (v2 : Int32) (v3 : Int32) (v4 : Int64) (v6 : Int32) : Option ((Int32 × Int64 × Int32) ⊕ (Int32)) :=
  if 12 < v6 then (some v3).bind (fun y => some (.inr y)) else (fn_X6_has σ v2 v6).bind (fun r2 => if (qm_b r2) = 0 then (some (v6 + 1)).bind (fun z3 => some (.inl (v3, v4, z3))) else if ¬ (v6 < 0 ∨ 13 ≤ v6.toNatClampNeg) then if (σ.1 (v0 + 1 + 1 + v6.toNatClampNeg) 0) = v1 then (fn_X0_turnOnLook σ v0 v6).bind (fun r6 => if v3 = (-1) then (some (v6 + 1)).bind (fun z7 => some (.inl (v6, r6, z7))) else if 0 ≤ (lg_cmp r6 v4) then (some (v6 + 1)).bind (fun z8 => some (.inl (v3, v4, z8))) else (some (v6 + 1)).bind (fun z9 => some (.inl (v6, r6, z9)))) else (some (v6 + 1)).bind (fun z5 => some (.inl (v3, v4, z5))) else none)
set_option maxRecDepth 20000 in
theorem wb_X0_leastTurn_8 {l : Launch} {E : qm_E} (σ : qm_M) (v0 : Nat) (v1 : Int32) (v2 : Int32) (v3 : Int32) (v4 : Int64) (v6 : Int32) (hk0 : qm_kind v0 = 2) {x : (Int32 × Int64 × Int32) ⊕ (Int32)} (h : bb_X0_leastTurn_8 σ v0 v1 v2 v3 v4 v6 = some x) {r : Option Value × qm_M} (hT : (qm_T (pp_X0_leastTurn_8 l E σ v0 v1 v2) (fun x r => (some (.int x), σ) = r)) x r) : qm_Wp l E kd_X0_leastTurn "HungStreams$Frames" cX0_leastTurn 9 8 [(0, .ref (qm_a E v0)), (1, .int v1), (2, .int v2), (3, .int v3), (4, .long v4), (6, .int v6)] [] σ r := by
  unfold bb_X0_leastTurn_8 at h
  refine qr_iload dX0_leastTurn_8 5 rfl ?_
  refine qr_bipush (v := 12) dX0_leastTurn_10 (by decide) ?_
  refine qr_icmp_gt (tgt := 72) dX0_leastTurn_12 (by decide) (fun c14 => ?_) (fun c14 => ?_)
  · rw [if_pos c14] at h
    obtain ⟨y1, h1, hx⟩ := qm_bind h
    clear h
    cases hx
    have h := h1
    refine qr_iload_n dX0_leastTurn_72 rfl 3 rfl ?_
    obtain rfl := Option.some.inj h
    cases hT
    exact qr_iret dX0_leastTurn_73
  · rw [if_neg c14] at h
    refine qr_iload_n dX0_leastTurn_15 rfl 2 rfl ?_
    refine qr_iload dX0_leastTurn_16 5 rfl ?_
    obtain ⟨r2, er2, h⟩ := qm_bind h
    refine qr_call1 (st1 := [.int (qm_b r2)]) rfl (qr_callN (host := "HungStreams") (As := [.int v2, .int v6]) (st := []) (ct_X6_has (l := l) (E := E) σ v2 v6 er2) qw_262 qw_1 (List.mem_of_getElem? (i := 4) rfl) qw_261 yd_X6_has (by decide) (by decide) rfl (Nat.le_of_ble_eq_true rfl) dX0_leastTurn_18) ?_
    refine qr_if_eq (tgt := 66) dX0_leastTurn_21 (by decide) (fun c13 => ?_) (fun c13 => ?_)
    · rw [if_pos c13] at h
      obtain ⟨z3, ez3, h⟩ := qm_bind h
      refine qr_iinc (q := 5) (v := z3) (lv' := [(6, .int z3), (0, .ref (qm_a E v0)), (1, .int v1), (2, .int v2), (3, .int v3), (4, .long v4)]) dX0_leastTurn_66 rfl (Option.some.inj ez3) (by decide) rfl ?_
      refine qr_goto (tgt := 8) dX0_leastTurn_69 (by decide) ?_
      obtain rfl := Option.some.inj h
      exact qr_sub [1, 2, 3, 4, 5, 0] rfl hT
    · rw [if_neg c13] at h
      refine qr_aload_n dX0_leastTurn_24 rfl 0 rfl ?_
      refine qr_get1 (k := 0) (v := .ref (qm_a E (v0 + 1))) hk0 (by decide) rfl qw_108 dX0_leastTurn_25 ?_
      refine qr_iload dX0_leastTurn_28 5 rfl ?_
      obtain ⟨c4, h⟩ := qm_chk h
      refine qr_aalds (qm_k_arr hk0) c4 dX0_leastTurn_30 ?_
      refine qr_get0 (k := 0) (v := .int (σ.1 (v0 + 1 + 1 + v6.toNatClampNeg) 0)) (qm_k_str (qm_k_arr hk0) c4) (by decide) rfl qw_35 dX0_leastTurn_31 ?_
      refine qr_iload_n dX0_leastTurn_34 rfl 1 rfl ?_
      refine qr_icmp_ne (tgt := 66) dX0_leastTurn_35 (by decide) (fun c12 => ?_) (fun c12 => ?_)
      · rw [if_neg c12] at h
        obtain ⟨z5, ez5, h⟩ := qm_bind h
        refine qr_iinc (q := 5) (v := z5) (lv' := [(6, .int z5), (0, .ref (qm_a E v0)), (1, .int v1), (2, .int v2), (3, .int v3), (4, .long v4)]) dX0_leastTurn_66 rfl (Option.some.inj ez5) (by decide) rfl ?_
        refine qr_goto (tgt := 8) dX0_leastTurn_69 (by decide) ?_
        obtain rfl := Option.some.inj h
        exact qr_sub [1, 2, 3, 4, 5, 0] rfl hT
      · rw [if_pos c12] at h
        refine qr_aload_n dX0_leastTurn_38 rfl 0 rfl ?_
        refine qr_iload dX0_leastTurn_39 5 rfl ?_
        obtain ⟨r6, er6, h⟩ := qm_bind h
        refine qr_call1 (st1 := [.long r6]) rfl (qr_callS (As := [.ref (qm_a E v0), .int v6]) (st := []) (ct_X0_turnOnLook (l := l) (E := E) σ v0 v6 hk0 er6) qw_444 qw_9 qw_442 qw_443 yd_X0_turnOnLook (by decide) (by decide) rfl (Nat.le_of_ble_eq_true rfl) dX0_leastTurn_41) ?_
        refine qr_lstore (lv' := [(7, .long r6), (0, .ref (qm_a E v0)), (1, .int v1), (2, .int v2), (3, .int v3), (4, .long v4), (6, .int v6)]) dX0_leastTurn_44 (by decide) rfl ?_
        refine qr_iload_n dX0_leastTurn_46 rfl 4 rfl ?_
        refine qr_iconst (v := (-1)) dX0_leastTurn_47 (by decide) ?_
        refine qr_icmp_eq (tgt := 59) dX0_leastTurn_48 (by decide) (fun c11 => ?_) (fun c11 => ?_)
        · rw [if_pos c11] at h
          refine qr_iload dX0_leastTurn_59 6 rfl ?_
          refine qr_istore_n (lv' := [(3, .int v6), (7, .long r6), (0, .ref (qm_a E v0)), (1, .int v1), (2, .int v2), (4, .long v4), (6, .int v6)]) dX0_leastTurn_61 rfl (by decide) rfl ?_
          refine qr_lload dX0_leastTurn_62 1 rfl ?_
          refine qr_lstore (lv' := [(4, .long r6), (3, .int v6), (7, .long r6), (0, .ref (qm_a E v0)), (1, .int v1), (2, .int v2), (6, .int v6)]) dX0_leastTurn_64 (by decide) rfl ?_
          obtain ⟨z7, ez7, h⟩ := qm_bind h
          refine qr_iinc (q := 6) (v := z7) (lv' := [(6, .int z7), (4, .long r6), (3, .int v6), (7, .long r6), (0, .ref (qm_a E v0)), (1, .int v1), (2, .int v2)]) dX0_leastTurn_66 rfl (Option.some.inj ez7) (by decide) rfl ?_
          refine qr_goto (tgt := 8) dX0_leastTurn_69 (by decide) ?_
          obtain rfl := Option.some.inj h
          exact qr_sub [4, 5, 6, 2, 1, 0] rfl hT
        · rw [if_neg c11] at h
          refine qr_lload dX0_leastTurn_51 0 rfl ?_
          refine qr_lload dX0_leastTurn_53 5 rfl ?_
          refine qr_lcmp dX0_leastTurn_55 ?_
          refine qr_if_ge (tgt := 66) dX0_leastTurn_56 (by decide) (fun c10 => ?_) (fun c10 => ?_)
          · rw [if_pos c10] at h
            obtain ⟨z8, ez8, h⟩ := qm_bind h
            refine qr_iinc (q := 6) (v := z8) (lv' := [(6, .int z8), (7, .long r6), (0, .ref (qm_a E v0)), (1, .int v1), (2, .int v2), (3, .int v3), (4, .long v4)]) dX0_leastTurn_66 rfl (Option.some.inj ez8) (by decide) rfl ?_
            refine qr_goto (tgt := 8) dX0_leastTurn_69 (by decide) ?_
            obtain rfl := Option.some.inj h
            exact qr_sub [2, 3, 4, 5, 6, 0] rfl hT
          · rw [if_neg c10] at h
            refine qr_iload dX0_leastTurn_59 6 rfl ?_
            refine qr_istore_n (lv' := [(3, .int v6), (7, .long r6), (0, .ref (qm_a E v0)), (1, .int v1), (2, .int v2), (4, .long v4), (6, .int v6)]) dX0_leastTurn_61 rfl (by decide) rfl ?_
            refine qr_lload dX0_leastTurn_62 1 rfl ?_
            refine qr_lstore (lv' := [(4, .long r6), (3, .int v6), (7, .long r6), (0, .ref (qm_a E v0)), (1, .int v1), (2, .int v2), (6, .int v6)]) dX0_leastTurn_64 (by decide) rfl ?_
            obtain ⟨z9, ez9, h⟩ := qm_bind h
            refine qr_iinc (q := 6) (v := z9) (lv' := [(6, .int z9), (4, .long r6), (3, .int v6), (7, .long r6), (0, .ref (qm_a E v0)), (1, .int v1), (2, .int v2)]) dX0_leastTurn_66 rfl (Option.some.inj ez9) (by decide) rfl ?_
            refine qr_goto (tgt := 8) dX0_leastTurn_69 (by decide) ?_
            obtain rfl := Option.some.inj h
            exact qr_sub [4, 5, 6, 2, 1, 0] rfl hT
def lp_X0_leastTurn_8 (σ : qm_M) (v0 : Nat) (v1 : Int32) (v2 : Int32) (v3 : Int32) (v4 : Int64) (v6 : Int32) : Option (Int32) := qm_loop (fun s : Int32 × Int64 × Int32 => bb_X0_leastTurn_8 σ v0 v1 v2 s.1 s.2.1 s.2.2) 1000 (v3, v4, v6)
theorem wl_X0_leastTurn_8 {l : Launch} {E : qm_E} (σ : qm_M) (v0 : Nat) (v1 : Int32) (v2 : Int32) (v3 : Int32) (v4 : Int64) (v6 : Int32) (hk0 : qm_kind v0 = 2) {x : Int32} (h : lp_X0_leastTurn_8 σ v0 v1 v2 v3 v4 v6 = some x) {r : Option Value × qm_M} (hT : (fun x r => (some (.int x), σ) = r) x r) : qm_Wp l E kd_X0_leastTurn "HungStreams$Frames" cX0_leastTurn 9 8 [(0, .ref (qm_a E v0)), (1, .int v1), (2, .int v2), (3, .int v3), (4, .long v4), (6, .int v6)] [] σ r :=
  qm_loop_T (P := pp_X0_leastTurn_8 l E σ v0 v1 v2) (T1 := (fun x r => (some (.int x), σ) = r)) (fun s x h r hT => wb_X0_leastTurn_8 (l := l) (E := E) σ v0 v1 v2 s.1 s.2.1 s.2.2 hk0 h hT) h hT
def fn_X0_leastTurn (σ : qm_M) (v0 : Nat) (v1 : Int32) (v2 : Int32) : Option (Int32) :=
  lp_X0_leastTurn_8 σ v0 v1 v2 (-1) 0 1
set_option maxRecDepth 20000 in
theorem wf_X0_leastTurn {l : Launch} {E : qm_E} (σ : qm_M) (v0 : Nat) (v1 : Int32) (v2 : Int32) (hk0 : qm_kind v0 = 2) {x : Int32} (h : fn_X0_leastTurn σ v0 v1 v2 = some x) {r : Option Value × qm_M} (hT : (fun x r => (some (.int x), σ) = r) x r) : qm_Wp l E kd_X0_leastTurn "HungStreams$Frames" cX0_leastTurn 9 0 [(0, .ref (qm_a E v0)), (1, .int v1), (2, .int v2)] [] σ r := by
  unfold fn_X0_leastTurn at h
  refine qr_iconst (v := (-1)) dX0_leastTurn_0 (by decide) ?_
  refine qr_istore_n (lv' := [(3, .int (-1)), (0, .ref (qm_a E v0)), (1, .int v1), (2, .int v2)]) dX0_leastTurn_1 rfl (by decide) rfl ?_
  refine qr_lconst (v := 0) dX0_leastTurn_2 (by decide) ?_
  refine qr_lstore (lv' := [(4, .long 0), (3, .int (-1)), (0, .ref (qm_a E v0)), (1, .int v1), (2, .int v2)]) dX0_leastTurn_3 (by decide) rfl ?_
  refine qr_iconst (v := 1) dX0_leastTurn_5 (by decide) ?_
  refine qr_istore (lv' := [(6, .int 1), (4, .long 0), (3, .int (-1)), (0, .ref (qm_a E v0)), (1, .int v1), (2, .int v2)]) dX0_leastTurn_6 (by decide) rfl ?_
  exact qr_sub [3, 4, 5, 2, 1, 0] rfl (wl_X0_leastTurn_8 (l := l) (E := E) σ v0 v1 v2 (-1) 0 1 hk0 h hT)
theorem ct_X0_leastTurn {l : Launch} {E : qm_E} (σ : qm_M) (v0 : Nat) (v1 : Int32) (v2 : Int32) (hk0 : qm_kind v0 = 2) {x : Int32} (h : fn_X0_leastTurn σ v0 v1 v2 = some x) : qm_Ct l E kd_X0_leastTurn yX0_leastTurn cX0_leastTurn 9 (some .int) [.ref (qm_a E v0), .int v1, .int v2] σ (some (.int x), σ) := qm_ofWp rfl (Nat.le_of_ble_eq_true rfl) (Or.inl rfl) (wf_X0_leastTurn σ v0 v1 v2 hk0 h rfl)
-- HungStreams$Frames.byTree (LHungStreams$Tree;II)I
abbrev kd_X0_byTree : Nat := 4
theorem yd_X0_byTree : (yX0_byTree).cls ≠ "java/lang/invoke/MethodHandle" ∧ (yX0_byTree).cls ≠ "java/lang/invoke/VarHandle" ∧ (parseMethodDescriptor (yX0_byTree).desc).map (fun d => d.parameters.length) = some 3 := by decide +kernel
abbrev pp_X0_byTree_5 (l : Launch) (E : qm_E) (σ : qm_M) (v0 : Nat) (v1 : Int32) (v2 : Int32) : (Int32 × Int32) → Option Value × qm_M → Prop := fun s r => qm_Wp l E kd_X0_byTree "HungStreams$Frames" cX0_byTree 5 5 [(0, .ref (qm_a E v0)), (1, .int v1), (2, .int v2), (3, .int s.1), (4, .int s.2)] [] σ r
def bb_X0_byTree_5 (σ : qm_M) (v0 : Nat) (v1 : Int32) (v2 : Int32) (v3 : Int32) (v4 : Int32) : Option ((Int32 × Int32) ⊕ (Int32)) :=
  if 12 ≤ v4 then (some (-1)).bind (fun y => some (.inr y)) else (fn_X0_leastTurn σ v0 v3 v2).bind (fun r2 => if r2 = (-1) then (some r2).bind (fun y => some (.inr y)) else (fn_X6_has σ v1 r2).bind (fun r4 => if (qm_b r4) = 0 then (some (v4 + 1)).bind (fun z5 => some (.inl (r2, z5))) else (some r2).bind (fun y => some (.inr y))))
set_option maxRecDepth 20000 in
theorem wb_X0_byTree_5 {l : Launch} {E : qm_E} (σ : qm_M) (v0 : Nat) (v1 : Int32) (v2 : Int32) (v3 : Int32) (v4 : Int32) (hk0 : qm_kind v0 = 2) {x : (Int32 × Int32) ⊕ (Int32)} (h : bb_X0_byTree_5 σ v0 v1 v2 v3 v4 = some x) {r : Option Value × qm_M} (hT : (qm_T (pp_X0_byTree_5 l E σ v0 v1 v2) (fun x r => (some (.int x), σ) = r)) x r) : qm_Wp l E kd_X0_byTree "HungStreams$Frames" cX0_byTree 5 5 [(0, .ref (qm_a E v0)), (1, .int v1), (2, .int v2), (3, .int v3), (4, .int v4)] [] σ r := by
  unfold bb_X0_byTree_5 at h
  refine qr_iload dX0_byTree_5 4 rfl ?_
  refine qr_bipush (v := 12) dX0_byTree_7 (by decide) ?_
  refine qr_icmp_ge (tgt := 40) dX0_byTree_9 (by decide) (fun c9 => ?_) (fun c9 => ?_)
  · rw [if_pos c9] at h
    obtain ⟨y1, h1, hx⟩ := qm_bind h
    clear h
    cases hx
    have h := h1
    refine qr_iconst (v := (-1)) dX0_byTree_40 (by decide) ?_
    obtain rfl := Option.some.inj h
    cases hT
    exact qr_iret dX0_byTree_41
  · rw [if_neg c9] at h
    refine qr_aload_n dX0_byTree_12 rfl 0 rfl ?_
    refine qr_iload_n dX0_byTree_13 rfl 3 rfl ?_
    refine qr_iload_n dX0_byTree_14 rfl 2 rfl ?_
    obtain ⟨r2, er2, h⟩ := qm_bind h
    refine qr_call1 (st1 := [.int r2]) rfl (qr_callS (As := [.ref (qm_a E v0), .int v3, .int v2]) (st := []) (ct_X0_leastTurn (l := l) (E := E) σ v0 v3 v2 hk0 er2) qw_454 qw_9 qw_452 qw_453 yd_X0_leastTurn (by decide) (by decide) rfl (Nat.le_of_ble_eq_true rfl) dX0_byTree_15) ?_
    refine qr_istore_n (lv' := [(3, .int r2), (0, .ref (qm_a E v0)), (1, .int v1), (2, .int v2), (4, .int v4)]) dX0_byTree_18 rfl (by decide) rfl ?_
    refine qr_iload_n dX0_byTree_19 rfl 0 rfl ?_
    refine qr_iconst (v := (-1)) dX0_byTree_20 (by decide) ?_
    refine qr_icmp_eq (tgt := 32) dX0_byTree_21 (by decide) (fun c8 => ?_) (fun c8 => ?_)
    · rw [if_pos c8] at h
      obtain ⟨y3, h1, hx⟩ := qm_bind h
      clear h
      cases hx
      have h := h1
      refine qr_iload_n dX0_byTree_32 rfl 0 rfl ?_
      obtain rfl := Option.some.inj h
      cases hT
      exact qr_iret dX0_byTree_33
    · rw [if_neg c8] at h
      refine qr_iload_n dX0_byTree_24 rfl 2 rfl ?_
      refine qr_iload_n dX0_byTree_25 rfl 0 rfl ?_
      obtain ⟨r4, er4, h⟩ := qm_bind h
      refine qr_call1 (st1 := [.int (qm_b r4)]) rfl (qr_callN (host := "HungStreams") (As := [.int v1, .int r2]) (st := []) (ct_X6_has (l := l) (E := E) σ v1 r2 er4) qw_262 qw_1 (List.mem_of_getElem? (i := 4) rfl) qw_261 yd_X6_has (by decide) (by decide) rfl (Nat.le_of_ble_eq_true rfl) dX0_byTree_26) ?_
      refine qr_if_eq (tgt := 34) dX0_byTree_29 (by decide) (fun c7 => ?_) (fun c7 => ?_)
      · rw [if_pos c7] at h
        obtain ⟨z5, ez5, h⟩ := qm_bind h
        refine qr_iinc (q := 4) (v := z5) (lv' := [(4, .int z5), (3, .int r2), (0, .ref (qm_a E v0)), (1, .int v1), (2, .int v2)]) dX0_byTree_34 rfl (Option.some.inj ez5) (by decide) rfl ?_
        refine qr_goto (tgt := 5) dX0_byTree_37 (by decide) ?_
        obtain rfl := Option.some.inj h
        exact qr_sub [2, 3, 4, 1, 0] rfl hT
      · rw [if_neg c7] at h
        obtain ⟨y6, h1, hx⟩ := qm_bind h
        clear h
        cases hx
        have h := h1
        refine qr_iload_n dX0_byTree_32 rfl 0 rfl ?_
        obtain rfl := Option.some.inj h
        cases hT
        exact qr_iret dX0_byTree_33
def lp_X0_byTree_5 (σ : qm_M) (v0 : Nat) (v1 : Int32) (v2 : Int32) (v3 : Int32) (v4 : Int32) : Option (Int32) := qm_loop (fun s : Int32 × Int32 => bb_X0_byTree_5 σ v0 v1 v2 s.1 s.2) 1000 (v3, v4)
theorem wl_X0_byTree_5 {l : Launch} {E : qm_E} (σ : qm_M) (v0 : Nat) (v1 : Int32) (v2 : Int32) (v3 : Int32) (v4 : Int32) (hk0 : qm_kind v0 = 2) {x : Int32} (h : lp_X0_byTree_5 σ v0 v1 v2 v3 v4 = some x) {r : Option Value × qm_M} (hT : (fun x r => (some (.int x), σ) = r) x r) : qm_Wp l E kd_X0_byTree "HungStreams$Frames" cX0_byTree 5 5 [(0, .ref (qm_a E v0)), (1, .int v1), (2, .int v2), (3, .int v3), (4, .int v4)] [] σ r :=
  qm_loop_T (P := pp_X0_byTree_5 l E σ v0 v1 v2) (T1 := (fun x r => (some (.int x), σ) = r)) (fun s x h r hT => wb_X0_byTree_5 (l := l) (E := E) σ v0 v1 v2 s.1 s.2 hk0 h hT) h hT
def fn_X0_byTree (σ : qm_M) (v0 : Nat) (v1 : Int32) (v2 : Int32) : Option (Int32) :=
  lp_X0_byTree_5 σ v0 v1 v2 0 0
set_option maxRecDepth 20000 in
theorem wf_X0_byTree {l : Launch} {E : qm_E} (σ : qm_M) (v0 : Nat) (v1 : Int32) (v2 : Int32) (hk0 : qm_kind v0 = 2) {x : Int32} (h : fn_X0_byTree σ v0 v1 v2 = some x) {r : Option Value × qm_M} (hT : (fun x r => (some (.int x), σ) = r) x r) : qm_Wp l E kd_X0_byTree "HungStreams$Frames" cX0_byTree 5 0 [(0, .ref (qm_a E v0)), (1, .int v1), (2, .int v2)] [] σ r := by
  unfold fn_X0_byTree at h
  refine qr_iconst (v := 0) dX0_byTree_0 (by decide) ?_
  refine qr_istore_n (lv' := [(3, .int 0), (0, .ref (qm_a E v0)), (1, .int v1), (2, .int v2)]) dX0_byTree_1 rfl (by decide) rfl ?_
  refine qr_iconst (v := 0) dX0_byTree_2 (by decide) ?_
  refine qr_istore (lv' := [(4, .int 0), (3, .int 0), (0, .ref (qm_a E v0)), (1, .int v1), (2, .int v2)]) dX0_byTree_3 (by decide) rfl ?_
  exact qr_sub [2, 3, 4, 1, 0] rfl (wl_X0_byTree_5 (l := l) (E := E) σ v0 v1 v2 0 0 hk0 h hT)
theorem ct_X0_byTree {l : Launch} {E : qm_E} (σ : qm_M) (v0 : Nat) (v1 : Int32) (v2 : Int32) (hk0 : qm_kind v0 = 2) {x : Int32} (h : fn_X0_byTree σ v0 v1 v2 = some x) : qm_Ct l E kd_X0_byTree yX0_byTree cX0_byTree 5 (some .int) [.ref (qm_a E v0), .int v1, .int v2] σ (some (.int x), σ) := qm_ofWp rfl (Nat.le_of_ble_eq_true rfl) (Or.inl rfl) (wf_X0_byTree σ v0 v1 v2 hk0 h rfl)
-- HungStreams$Frames.isAhead (LHungStreams$Stream;LHungStreams$Stream;)Z
abbrev kd_X0_isAhead : Nat := 1
theorem yd_X0_isAhead : (yX0_isAhead).cls ≠ "java/lang/invoke/MethodHandle" ∧ (yX0_isAhead).cls ≠ "java/lang/invoke/VarHandle" ∧ (parseMethodDescriptor (yX0_isAhead).desc).map (fun d => d.parameters.length) = some 2 := by decide +kernel
def fn_X0_isAhead (σ : qm_M) (v0 : Nat) (v1 : Nat) : Option (Bool) :=
  if (σ.1 v0 4) = (σ.1 v1 4) then if (σ.1 v0 5) = (σ.1 v1 5) then if (σ.1 v0 5) = 1 then if (σ.1 v1 11) ≤ (σ.1 v0 11) then some false else some true else some false else if (σ.1 v1 5) ≤ (σ.1 v0 5) then some false else some true else if (σ.1 v1 4) ≤ (σ.1 v0 4) then some false else some true
set_option maxRecDepth 20000 in
theorem wf_X0_isAhead {l : Launch} {E : qm_E} (σ : qm_M) (v0 : Nat) (v1 : Nat) (hk0 : qm_kind v0 = 1) (hk1 : qm_kind v1 = 1) {x : Bool} (h : fn_X0_isAhead σ v0 v1 = some x) {r : Option Value × qm_M} (hT : (fun x r => (some (.int (qm_b x)), σ) = r) x r) : qm_Wp l E kd_X0_isAhead "HungStreams$Frames" cX0_isAhead 2 0 [(0, .ref (qm_a E v0)), (1, .ref (qm_a E v1))] [] σ r := by
  unfold fn_X0_isAhead at h
  refine qr_aload_n dX0_isAhead_0 rfl 0 rfl ?_
  refine qr_get0 (k := 4) (v := .int (σ.1 v0 4)) hk0 (by decide) rfl qw_50 dX0_isAhead_1 ?_
  refine qr_aload_n dX0_isAhead_4 rfl 1 rfl ?_
  refine qr_get0 (k := 4) (v := .int (σ.1 v1 4)) hk1 (by decide) rfl qw_50 dX0_isAhead_5 ?_
  refine qr_icmp_eq (tgt := 28) dX0_isAhead_8 (by decide) (fun c6 => ?_) (fun c6 => ?_)
  · rw [if_pos c6] at h
    refine qr_aload_n dX0_isAhead_28 rfl 0 rfl ?_
    refine qr_get0 (k := 5) (v := .int (σ.1 v0 5)) hk0 (by decide) rfl qw_52 dX0_isAhead_29 ?_
    refine qr_aload_n dX0_isAhead_32 rfl 1 rfl ?_
    refine qr_get0 (k := 5) (v := .int (σ.1 v1 5)) hk1 (by decide) rfl qw_52 dX0_isAhead_33 ?_
    refine qr_icmp_eq (tgt := 56) dX0_isAhead_36 (by decide) (fun c4 => ?_) (fun c4 => ?_)
    · rw [if_pos c4] at h
      refine qr_aload_n dX0_isAhead_56 rfl 0 rfl ?_
      refine qr_get0 (k := 5) (v := .int (σ.1 v0 5)) hk0 (by decide) rfl qw_52 dX0_isAhead_57 ?_
      refine qr_iconst (v := 1) dX0_isAhead_60 (by decide) ?_
      refine qr_icmp_ne (tgt := 79) dX0_isAhead_61 (by decide) (fun c2 => ?_) (fun c2 => ?_)
      · rw [if_neg c2] at h
        refine qr_iconst (v := 0) dX0_isAhead_79 (by decide) ?_
        obtain rfl := Option.some.inj h
        cases hT
        exact qr_iret dX0_isAhead_80
      · rw [if_pos c2] at h
        refine qr_aload_n dX0_isAhead_64 rfl 0 rfl ?_
        refine qr_get0 (k := 11) (v := .int (σ.1 v0 11)) hk0 (by decide) rfl qw_68 dX0_isAhead_65 ?_
        refine qr_aload_n dX0_isAhead_68 rfl 1 rfl ?_
        refine qr_get0 (k := 11) (v := .int (σ.1 v1 11)) hk1 (by decide) rfl qw_68 dX0_isAhead_69 ?_
        refine qr_icmp_ge (tgt := 79) dX0_isAhead_72 (by decide) (fun c1 => ?_) (fun c1 => ?_)
        · rw [if_pos c1] at h
          refine qr_iconst (v := 0) dX0_isAhead_79 (by decide) ?_
          obtain rfl := Option.some.inj h
          cases hT
          exact qr_iret dX0_isAhead_80
        · rw [if_neg c1] at h
          refine qr_iconst (v := 1) dX0_isAhead_75 (by decide) ?_
          refine qr_goto (tgt := 80) dX0_isAhead_76 (by decide) ?_
          obtain rfl := Option.some.inj h
          cases hT
          exact qr_iret dX0_isAhead_80
    · rw [if_neg c4] at h
      refine qr_aload_n dX0_isAhead_39 rfl 0 rfl ?_
      refine qr_get0 (k := 5) (v := .int (σ.1 v0 5)) hk0 (by decide) rfl qw_52 dX0_isAhead_40 ?_
      refine qr_aload_n dX0_isAhead_43 rfl 1 rfl ?_
      refine qr_get0 (k := 5) (v := .int (σ.1 v1 5)) hk1 (by decide) rfl qw_52 dX0_isAhead_44 ?_
      refine qr_icmp_ge (tgt := 54) dX0_isAhead_47 (by decide) (fun c3 => ?_) (fun c3 => ?_)
      · rw [if_pos c3] at h
        refine qr_iconst (v := 0) dX0_isAhead_54 (by decide) ?_
        obtain rfl := Option.some.inj h
        cases hT
        exact qr_iret dX0_isAhead_55
      · rw [if_neg c3] at h
        refine qr_iconst (v := 1) dX0_isAhead_50 (by decide) ?_
        refine qr_goto (tgt := 55) dX0_isAhead_51 (by decide) ?_
        obtain rfl := Option.some.inj h
        cases hT
        exact qr_iret dX0_isAhead_55
  · rw [if_neg c6] at h
    refine qr_aload_n dX0_isAhead_11 rfl 0 rfl ?_
    refine qr_get0 (k := 4) (v := .int (σ.1 v0 4)) hk0 (by decide) rfl qw_50 dX0_isAhead_12 ?_
    refine qr_aload_n dX0_isAhead_15 rfl 1 rfl ?_
    refine qr_get0 (k := 4) (v := .int (σ.1 v1 4)) hk1 (by decide) rfl qw_50 dX0_isAhead_16 ?_
    refine qr_icmp_ge (tgt := 26) dX0_isAhead_19 (by decide) (fun c5 => ?_) (fun c5 => ?_)
    · rw [if_pos c5] at h
      refine qr_iconst (v := 0) dX0_isAhead_26 (by decide) ?_
      obtain rfl := Option.some.inj h
      cases hT
      exact qr_iret dX0_isAhead_27
    · rw [if_neg c5] at h
      refine qr_iconst (v := 1) dX0_isAhead_22 (by decide) ?_
      refine qr_goto (tgt := 27) dX0_isAhead_23 (by decide) ?_
      obtain rfl := Option.some.inj h
      cases hT
      exact qr_iret dX0_isAhead_27
theorem ct_X0_isAhead {l : Launch} {E : qm_E} (σ : qm_M) (v0 : Nat) (v1 : Nat) (hk0 : qm_kind v0 = 1) (hk1 : qm_kind v1 = 1) {x : Bool} (h : fn_X0_isAhead σ v0 v1 = some x) : qm_Ct l E kd_X0_isAhead yX0_isAhead cX0_isAhead 2 (some .boolean) [.ref (qm_a E v0), .ref (qm_a E v1)] σ (some (.int (qm_b x)), σ) := qm_ofWp rfl (Nat.le_of_ble_eq_true rfl) (qm_rtz _) (wf_X0_isAhead σ v0 v1 hk0 hk1 h rfl)
-- HungStreams$Frames.byUrgency (LHungStreams$Tree;I)I
abbrev kd_X0_byUrgency : Nat := 2
theorem yd_X0_byUrgency : (yX0_byUrgency).cls ≠ "java/lang/invoke/MethodHandle" ∧ (yX0_byUrgency).cls ≠ "java/lang/invoke/VarHandle" ∧ (parseMethodDescriptor (yX0_byUrgency).desc).map (fun d => d.parameters.length) = some 2 := by decide +kernel
abbrev pp_X0_byUrgency_4 (l : Launch) (E : qm_E) (σ : qm_M) (v0 : Nat) (v1 : Int32) : (Int32 × Int32) → Option Value × qm_M → Prop := fun s r => qm_Wp l E kd_X0_byUrgency "HungStreams$Frames" cX0_byUrgency 4 4 [(0, .ref (qm_a E v0)), (1, .int v1), (2, .int s.1), (3, .int s.2)] [] σ r
def bb_X0_byUrgency_4 (σ : qm_M) (v0 : Nat) (v1 : Int32) (v2 : Int32) (v3 : Int32) : Option ((Int32 × Int32) ⊕ (Int32)) :=
  if 12 < v3 then (some v2).bind (fun y => some (.inr y)) else (fn_X6_has σ v1 v3).bind (fun r2 => if (qm_b r2) = 0 then (some (v3 + 1)).bind (fun z3 => some (.inl (v2, z3))) else if v2 = (-1) then (some (v3 + 1)).bind (fun z4 => some (.inl (v3, z4))) else if ¬ (v3 < 0 ∨ 13 ≤ v3.toNatClampNeg) then if ¬ (v2 < 0 ∨ 13 ≤ v2.toNatClampNeg) then (fn_X0_isAhead σ (v0 + 1 + 1 + v3.toNatClampNeg) (v0 + 1 + 1 + v2.toNatClampNeg)).bind (fun r7 => if (qm_b r7) = 0 then (some (v3 + 1)).bind (fun z8 => some (.inl (v2, z8))) else (some (v3 + 1)).bind (fun z9 => some (.inl (v3, z9)))) else none else none)
set_option maxRecDepth 20000 in
theorem wb_X0_byUrgency_4 {l : Launch} {E : qm_E} (σ : qm_M) (v0 : Nat) (v1 : Int32) (v2 : Int32) (v3 : Int32) (hk0 : qm_kind v0 = 2) {x : (Int32 × Int32) ⊕ (Int32)} (h : bb_X0_byUrgency_4 σ v0 v1 v2 v3 = some x) {r : Option Value × qm_M} (hT : (qm_T (pp_X0_byUrgency_4 l E σ v0 v1) (fun x r => (some (.int x), σ) = r)) x r) : qm_Wp l E kd_X0_byUrgency "HungStreams$Frames" cX0_byUrgency 4 4 [(0, .ref (qm_a E v0)), (1, .int v1), (2, .int v2), (3, .int v3)] [] σ r := by
  unfold bb_X0_byUrgency_4 at h
  refine qr_iload_n dX0_byUrgency_4 rfl 3 rfl ?_
  refine qr_bipush (v := 12) dX0_byUrgency_5 (by decide) ?_
  refine qr_icmp_gt (tgt := 49) dX0_byUrgency_7 (by decide) (fun c13 => ?_) (fun c13 => ?_)
  · rw [if_pos c13] at h
    obtain ⟨y1, h1, hx⟩ := qm_bind h
    clear h
    cases hx
    have h := h1
    refine qr_iload_n dX0_byUrgency_49 rfl 2 rfl ?_
    obtain rfl := Option.some.inj h
    cases hT
    exact qr_iret dX0_byUrgency_50
  · rw [if_neg c13] at h
    refine qr_iload_n dX0_byUrgency_10 rfl 1 rfl ?_
    refine qr_iload_n dX0_byUrgency_11 rfl 3 rfl ?_
    obtain ⟨r2, er2, h⟩ := qm_bind h
    refine qr_call1 (st1 := [.int (qm_b r2)]) rfl (qr_callN (host := "HungStreams") (As := [.int v1, .int v3]) (st := []) (ct_X6_has (l := l) (E := E) σ v1 v3 er2) qw_262 qw_1 (List.mem_of_getElem? (i := 4) rfl) qw_261 yd_X6_has (by decide) (by decide) rfl (Nat.le_of_ble_eq_true rfl) dX0_byUrgency_12) ?_
    refine qr_if_eq (tgt := 43) dX0_byUrgency_15 (by decide) (fun c12 => ?_) (fun c12 => ?_)
    · rw [if_pos c12] at h
      obtain ⟨z3, ez3, h⟩ := qm_bind h
      refine qr_iinc (q := 3) (v := z3) (lv' := [(3, .int z3), (0, .ref (qm_a E v0)), (1, .int v1), (2, .int v2)]) dX0_byUrgency_43 rfl (Option.some.inj ez3) (by decide) rfl ?_
      refine qr_goto (tgt := 4) dX0_byUrgency_46 (by decide) ?_
      obtain rfl := Option.some.inj h
      exact qr_sub [1, 2, 3, 0] rfl hT
    · rw [if_neg c12] at h
      refine qr_iload_n dX0_byUrgency_18 rfl 2 rfl ?_
      refine qr_iconst (v := (-1)) dX0_byUrgency_19 (by decide) ?_
      refine qr_icmp_eq (tgt := 41) dX0_byUrgency_20 (by decide) (fun c11 => ?_) (fun c11 => ?_)
      · rw [if_pos c11] at h
        refine qr_iload_n dX0_byUrgency_41 rfl 3 rfl ?_
        refine qr_istore_n (lv' := [(2, .int v3), (0, .ref (qm_a E v0)), (1, .int v1), (3, .int v3)]) dX0_byUrgency_42 rfl (by decide) rfl ?_
        obtain ⟨z4, ez4, h⟩ := qm_bind h
        refine qr_iinc (q := 3) (v := z4) (lv' := [(3, .int z4), (2, .int v3), (0, .ref (qm_a E v0)), (1, .int v1)]) dX0_byUrgency_43 rfl (Option.some.inj ez4) (by decide) rfl ?_
        refine qr_goto (tgt := 4) dX0_byUrgency_46 (by decide) ?_
        obtain rfl := Option.some.inj h
        exact qr_sub [2, 3, 1, 0] rfl hT
      · rw [if_neg c11] at h
        refine qr_aload_n dX0_byUrgency_23 rfl 0 rfl ?_
        refine qr_get1 (k := 0) (v := .ref (qm_a E (v0 + 1))) hk0 (by decide) rfl qw_108 dX0_byUrgency_24 ?_
        refine qr_iload_n dX0_byUrgency_27 rfl 3 rfl ?_
        obtain ⟨c5, h⟩ := qm_chk h
        refine qr_aalds (qm_k_arr hk0) c5 dX0_byUrgency_28 ?_
        refine qr_aload_n dX0_byUrgency_29 rfl 0 rfl ?_
        refine qr_get1 (k := 0) (v := .ref (qm_a E (v0 + 1))) hk0 (by decide) rfl qw_108 dX0_byUrgency_30 ?_
        refine qr_iload_n dX0_byUrgency_33 rfl 2 rfl ?_
        obtain ⟨c6, h⟩ := qm_chk h
        refine qr_aalds (qm_k_arr hk0) c6 dX0_byUrgency_34 ?_
        obtain ⟨r7, er7, h⟩ := qm_bind h
        refine qr_call1 (st1 := [.int (qm_b r7)]) rfl (qr_callS (As := [.ref (qm_a E (v0 + 1 + 1 + v3.toNatClampNeg)), .ref (qm_a E (v0 + 1 + 1 + v2.toNatClampNeg))]) (st := []) (ct_X0_isAhead (l := l) (E := E) σ (v0 + 1 + 1 + v3.toNatClampNeg) (v0 + 1 + 1 + v2.toNatClampNeg) (qm_k_str (qm_k_arr hk0) c5) (qm_k_str (qm_k_arr hk0) c6) er7) qw_460 qw_9 qw_458 qw_459 yd_X0_isAhead (by decide) (by decide) rfl (Nat.le_of_ble_eq_true rfl) dX0_byUrgency_35) ?_
        refine qr_if_eq (tgt := 43) dX0_byUrgency_38 (by decide) (fun c10 => ?_) (fun c10 => ?_)
        · rw [if_pos c10] at h
          obtain ⟨z8, ez8, h⟩ := qm_bind h
          refine qr_iinc (q := 3) (v := z8) (lv' := [(3, .int z8), (0, .ref (qm_a E v0)), (1, .int v1), (2, .int v2)]) dX0_byUrgency_43 rfl (Option.some.inj ez8) (by decide) rfl ?_
          refine qr_goto (tgt := 4) dX0_byUrgency_46 (by decide) ?_
          obtain rfl := Option.some.inj h
          exact qr_sub [1, 2, 3, 0] rfl hT
        · rw [if_neg c10] at h
          refine qr_iload_n dX0_byUrgency_41 rfl 3 rfl ?_
          refine qr_istore_n (lv' := [(2, .int v3), (0, .ref (qm_a E v0)), (1, .int v1), (3, .int v3)]) dX0_byUrgency_42 rfl (by decide) rfl ?_
          obtain ⟨z9, ez9, h⟩ := qm_bind h
          refine qr_iinc (q := 3) (v := z9) (lv' := [(3, .int z9), (2, .int v3), (0, .ref (qm_a E v0)), (1, .int v1)]) dX0_byUrgency_43 rfl (Option.some.inj ez9) (by decide) rfl ?_
          refine qr_goto (tgt := 4) dX0_byUrgency_46 (by decide) ?_
          obtain rfl := Option.some.inj h
          exact qr_sub [2, 3, 1, 0] rfl hT
def lp_X0_byUrgency_4 (σ : qm_M) (v0 : Nat) (v1 : Int32) (v2 : Int32) (v3 : Int32) : Option (Int32) := qm_loop (fun s : Int32 × Int32 => bb_X0_byUrgency_4 σ v0 v1 s.1 s.2) 1000 (v2, v3)
theorem wl_X0_byUrgency_4 {l : Launch} {E : qm_E} (σ : qm_M) (v0 : Nat) (v1 : Int32) (v2 : Int32) (v3 : Int32) (hk0 : qm_kind v0 = 2) {x : Int32} (h : lp_X0_byUrgency_4 σ v0 v1 v2 v3 = some x) {r : Option Value × qm_M} (hT : (fun x r => (some (.int x), σ) = r) x r) : qm_Wp l E kd_X0_byUrgency "HungStreams$Frames" cX0_byUrgency 4 4 [(0, .ref (qm_a E v0)), (1, .int v1), (2, .int v2), (3, .int v3)] [] σ r :=
  qm_loop_T (P := pp_X0_byUrgency_4 l E σ v0 v1) (T1 := (fun x r => (some (.int x), σ) = r)) (fun s x h r hT => wb_X0_byUrgency_4 (l := l) (E := E) σ v0 v1 s.1 s.2 hk0 h hT) h hT
def fn_X0_byUrgency (σ : qm_M) (v0 : Nat) (v1 : Int32) : Option (Int32) :=
  lp_X0_byUrgency_4 σ v0 v1 (-1) 1
set_option maxRecDepth 20000 in
theorem wf_X0_byUrgency {l : Launch} {E : qm_E} (σ : qm_M) (v0 : Nat) (v1 : Int32) (hk0 : qm_kind v0 = 2) {x : Int32} (h : fn_X0_byUrgency σ v0 v1 = some x) {r : Option Value × qm_M} (hT : (fun x r => (some (.int x), σ) = r) x r) : qm_Wp l E kd_X0_byUrgency "HungStreams$Frames" cX0_byUrgency 4 0 [(0, .ref (qm_a E v0)), (1, .int v1)] [] σ r := by
  unfold fn_X0_byUrgency at h
  refine qr_iconst (v := (-1)) dX0_byUrgency_0 (by decide) ?_
  refine qr_istore_n (lv' := [(2, .int (-1)), (0, .ref (qm_a E v0)), (1, .int v1)]) dX0_byUrgency_1 rfl (by decide) rfl ?_
  refine qr_iconst (v := 1) dX0_byUrgency_2 (by decide) ?_
  refine qr_istore_n (lv' := [(3, .int 1), (2, .int (-1)), (0, .ref (qm_a E v0)), (1, .int v1)]) dX0_byUrgency_3 rfl (by decide) rfl ?_
  exact qr_sub [2, 3, 1, 0] rfl (wl_X0_byUrgency_4 (l := l) (E := E) σ v0 v1 (-1) 1 hk0 h hT)
theorem ct_X0_byUrgency {l : Launch} {E : qm_E} (σ : qm_M) (v0 : Nat) (v1 : Int32) (hk0 : qm_kind v0 = 2) {x : Int32} (h : fn_X0_byUrgency σ v0 v1 = some x) : qm_Ct l E kd_X0_byUrgency yX0_byUrgency cX0_byUrgency 4 (some .int) [.ref (qm_a E v0), .int v1] σ (some (.int x), σ) := qm_ofWp rfl (Nat.le_of_ble_eq_true rfl) (Or.inl rfl) (wf_X0_byUrgency σ v0 v1 hk0 h rfl)
-- HungStreams$Frames.sender (LHungStreams$Tree;II)I
abbrev kd_X0_sender : Nat := 5
theorem yd_X0_sender : (yX0_sender).cls ≠ "java/lang/invoke/MethodHandle" ∧ (yX0_sender).cls ≠ "java/lang/invoke/VarHandle" ∧ (parseMethodDescriptor (yX0_sender).desc).map (fun d => d.parameters.length) = some 3 := by decide +kernel
def fn_X0_sender (σ : qm_M) (v0 : Nat) (v1 : Int32) (v2 : Int32) : Option (Int32) :=
  if (σ.1 v0 3) = 0 then some (-1) else if v1 = 0 then some (-1) else if (σ.1 v0 6) = 0 then (fn_X0_byTree σ v0 v1 v2).bind (fun r2 => some r2) else (fn_X0_byUrgency σ v0 v1).bind (fun r1 => some r1)
set_option maxRecDepth 20000 in
theorem wf_X0_sender {l : Launch} {E : qm_E} (σ : qm_M) (v0 : Nat) (v1 : Int32) (v2 : Int32) (hk0 : qm_kind v0 = 2) {x : Int32} (h : fn_X0_sender σ v0 v1 v2 = some x) {r : Option Value × qm_M} (hT : (fun x r => (some (.int x), σ) = r) x r) : qm_Wp l E kd_X0_sender "HungStreams$Frames" cX0_sender 3 0 [(0, .ref (qm_a E v0)), (1, .int v1), (2, .int v2)] [] σ r := by
  unfold fn_X0_sender at h
  refine qr_aload_n dX0_sender_0 rfl 0 rfl ?_
  refine qr_get1 (k := 3) (v := .int (σ.1 v0 3)) hk0 (by decide) rfl qw_117 dX0_sender_1 ?_
  refine qr_if_eq (tgt := 11) dX0_sender_4 (by decide) (fun c5 => ?_) (fun c5 => ?_)
  · rw [if_pos c5] at h
    refine qr_iconst (v := (-1)) dX0_sender_11 (by decide) ?_
    obtain rfl := Option.some.inj h
    cases hT
    exact qr_iret dX0_sender_12
  · rw [if_neg c5] at h
    refine qr_iload_n dX0_sender_7 rfl 1 rfl ?_
    refine qr_if_ne (tgt := 13) dX0_sender_8 (by decide) (fun c4 => ?_) (fun c4 => ?_)
    · rw [if_neg c4] at h
      refine qr_aload_n dX0_sender_13 rfl 0 rfl ?_
      refine qr_get1 (k := 6) (v := .int (σ.1 v0 6)) hk0 (by decide) rfl qw_125 dX0_sender_14 ?_
      refine qr_if_ne (tgt := 29) dX0_sender_17 (by decide) (fun c3 => ?_) (fun c3 => ?_)
      · rw [if_neg c3] at h
        refine qr_aload_n dX0_sender_29 rfl 0 rfl ?_
        refine qr_iload_n dX0_sender_30 rfl 1 rfl ?_
        obtain ⟨r1, er1, h⟩ := qm_bind h
        refine qr_call1 (st1 := [.int r1]) rfl (qr_callS (As := [.ref (qm_a E v0), .int v1]) (st := []) (ct_X0_byUrgency (l := l) (E := E) σ v0 v1 hk0 er1) qw_457 qw_9 qw_455 qw_456 yd_X0_byUrgency (by decide) (by decide) rfl (Nat.le_of_ble_eq_true rfl) dX0_sender_31) ?_
        obtain rfl := Option.some.inj h
        cases hT
        exact qr_iret dX0_sender_34
      · rw [if_pos c3] at h
        refine qr_aload_n dX0_sender_20 rfl 0 rfl ?_
        refine qr_iload_n dX0_sender_21 rfl 1 rfl ?_
        refine qr_iload_n dX0_sender_22 rfl 2 rfl ?_
        obtain ⟨r2, er2, h⟩ := qm_bind h
        refine qr_call1 (st1 := [.int r2]) rfl (qr_callS (As := [.ref (qm_a E v0), .int v1, .int v2]) (st := []) (ct_X0_byTree (l := l) (E := E) σ v0 v1 v2 hk0 er2) qw_451 qw_9 qw_449 qw_450 yd_X0_byTree (by decide) (by decide) rfl (Nat.le_of_ble_eq_true rfl) dX0_sender_23) ?_
        refine qr_goto (tgt := 34) dX0_sender_26 (by decide) ?_
        obtain rfl := Option.some.inj h
        cases hT
        exact qr_iret dX0_sender_34
    · rw [if_pos c4] at h
      refine qr_iconst (v := (-1)) dX0_sender_11 (by decide) ?_
      obtain rfl := Option.some.inj h
      cases hT
      exact qr_iret dX0_sender_12
theorem ct_X0_sender {l : Launch} {E : qm_E} (σ : qm_M) (v0 : Nat) (v1 : Int32) (v2 : Int32) (hk0 : qm_kind v0 = 2) {x : Int32} (h : fn_X0_sender σ v0 v1 v2 = some x) : qm_Ct l E kd_X0_sender yX0_sender cX0_sender 3 (some .int) [.ref (qm_a E v0), .int v1, .int v2] σ (some (.int x), σ) := qm_ofWp rfl (Nat.le_of_ble_eq_true rfl) (Or.inl rfl) (wf_X0_sender σ v0 v1 v2 hk0 h rfl)
-- java/lang/Math.min (II)I
abbrev kd_J_min : Nat := 1
theorem yd_J_min : (yJ_min).cls ≠ "java/lang/invoke/MethodHandle" ∧ (yJ_min).cls ≠ "java/lang/invoke/VarHandle" ∧ (parseMethodDescriptor (yJ_min).desc).map (fun d => d.parameters.length) = some 2 := by decide +kernel
def fn_J_min (σ : qm_M) (v0 : Int32) (v1 : Int32) : Option (Int32) :=
  if v1 < v0 then some v1 else some v0
set_option maxRecDepth 20000 in
theorem wf_J_min {l : Launch} {E : qm_E} (σ : qm_M) (v0 : Int32) (v1 : Int32) {x : Int32} (h : fn_J_min σ v0 v1 = some x) {r : Option Value × qm_M} (hT : (fun x r => (some (.int x), σ) = r) x r) : qm_Wp l E kd_J_min "java/lang/Math" prog_11_method_69_code 2 0 [(0, .int v0), (1, .int v1)] [] σ r := by
  unfold fn_J_min at h
  refine qr_iload_n dJ_min_0 rfl 0 rfl ?_
  refine qr_iload_n dJ_min_1 rfl 1 rfl ?_
  refine qr_icmp_gt (tgt := 9) dJ_min_2 (by decide) (fun c1 => ?_) (fun c1 => ?_)
  · rw [if_pos c1] at h
    refine qr_iload_n dJ_min_9 rfl 1 rfl ?_
    obtain rfl := Option.some.inj h
    cases hT
    exact qr_iret dJ_min_10
  · rw [if_neg c1] at h
    refine qr_iload_n dJ_min_5 rfl 0 rfl ?_
    refine qr_goto (tgt := 10) dJ_min_6 (by decide) ?_
    obtain rfl := Option.some.inj h
    cases hT
    exact qr_iret dJ_min_10
theorem ct_J_min {l : Launch} {E : qm_E} (σ : qm_M) (v0 : Int32) (v1 : Int32) {x : Int32} (h : fn_J_min σ v0 v1 = some x) : qm_Ct l E kd_J_min yJ_min prog_11_method_69_code 2 (some .int) [.int v0, .int v1] σ (some (.int x), σ) := qm_ofWpF (by decide +kernel) (Nat.le_of_ble_eq_true rfl) (Or.inl rfl) (wf_J_min σ v0 v1  h rfl)
-- HungStreams.cut (JJ)J
abbrev kd_X6_cut : Nat := 1
theorem yd_X6_cut : (yX6_cut).cls ≠ "java/lang/invoke/MethodHandle" ∧ (yX6_cut).cls ≠ "java/lang/invoke/VarHandle" ∧ (parseMethodDescriptor (yX6_cut).desc).map (fun d => d.parameters.length) = some 2 := by decide +kernel
def fn_X6_cut (σ : qm_M) (v0 : Int64) (v2 : Int64) : Option (Int64) :=
  if 0 ≤ (lg_cmp v2 1) then if ¬ v2 = 0 then some (v0 / v2) else none else some 0
set_option maxRecDepth 20000 in
theorem wf_X6_cut {l : Launch} {E : qm_E} (σ : qm_M) (v0 : Int64) (v2 : Int64) {x : Int64} (h : fn_X6_cut σ v0 v2 = some x) {r : Option Value × qm_M} (hT : (fun x r => (some (.long x), σ) = r) x r) : qm_Wp l E kd_X6_cut "HungStreams" cX6_cut 4 0 [(0, .long v0), (2, .long v2)] [] σ r := by
  unfold fn_X6_cut at h
  refine qr_lload_n dX6_cut_0 rfl 1 rfl ?_
  refine qr_lconst (v := 1) dX6_cut_1 (by decide) ?_
  refine qr_lcmp dX6_cut_2 ?_
  refine qr_if_ge (tgt := 10) dX6_cut_3 (by decide) (fun c2 => ?_) (fun c2 => ?_)
  · rw [if_pos c2] at h
    refine qr_lload_n dX6_cut_10 rfl 0 rfl ?_
    refine qr_lload_n dX6_cut_11 rfl 1 rfl ?_
    obtain ⟨c1, h⟩ := qm_chk h
    refine qr_ldiv dX6_cut_12 c1 ?_
    obtain rfl := Option.some.inj h
    cases hT
    exact qr_lret dX6_cut_13
  · rw [if_neg c2] at h
    refine qr_lconst (v := 0) dX6_cut_6 (by decide) ?_
    refine qr_goto (tgt := 13) dX6_cut_7 (by decide) ?_
    obtain rfl := Option.some.inj h
    cases hT
    exact qr_lret dX6_cut_13
theorem ct_X6_cut {l : Launch} {E : qm_E} (σ : qm_M) (v0 : Int64) (v2 : Int64) {x : Int64} (h : fn_X6_cut σ v0 v2 = some x) : qm_Ct l E kd_X6_cut yX6_cut cX6_cut 4 (some .long) [.long v0, .long v2] σ (some (.long x), σ) := qm_ofWp rfl (Nat.le_of_ble_eq_true rfl) (rfl) (wf_X6_cut σ v0 v2  h rfl)
-- HungStreams$Frames.chargeLine (LHungStreams$Tree;II)V
abbrev kd_X0_chargeLine : Nat := 2
theorem yd_X0_chargeLine : (yX0_chargeLine).cls ≠ "java/lang/invoke/MethodHandle" ∧ (yX0_chargeLine).cls ≠ "java/lang/invoke/VarHandle" ∧ (parseMethodDescriptor (yX0_chargeLine).desc).map (fun d => d.parameters.length) = some 3 := by decide +kernel
abbrev pp_X0_chargeLine_5 (l : Launch) (E : qm_E) (v0 : Nat) (v2 : Int32) : (Int32 × Int32 × qm_M) → Option Value × qm_M → Prop := fun s r => qm_Wp l E kd_X0_chargeLine "HungStreams$Frames" cX0_chargeLine 6 5 [(0, .ref (qm_a E v0)), (2, .int v2), (3, .int s.1), (4, .int s.2.1)] [] s.2.2 r
def bb_X0_chargeLine_5 (σ : qm_M) (v0 : Nat) (v2 : Int32) (v3 : Int32) (v4 : Int32) : Option ((Int32 × Int32 × qm_M) ⊕ (qm_M)) :=
  if 12 ≤ v4 then (some σ).bind (fun y => some (.inr y)) else if v3 = 0 then (some σ).bind (fun y => some (.inr y)) else if ¬ (v3 < 0 ∨ 13 ≤ v3.toNatClampNeg) then if ¬ ((σ.1 (v0 + 1 + 1 + v3.toNatClampNeg) 0) < 0 ∨ 13 ≤ (σ.1 (v0 + 1 + 1 + v3.toNatClampNeg) 0).toNatClampNeg) then (some (qm_sl σ (v0 + 1 + 1 + (σ.1 (v0 + 1 + 1 + v3.toNatClampNeg) 0).toNatClampNeg) 13 (σ.2 (v0 + 1 + 1 + v3.toNatClampNeg) 12))).bind (fun σ5 => (fn_X6_cut σ5 (v2.toInt64 * 720720) ((σ5.1 (v0 + 1 + 1 + v3.toNatClampNeg) 1).toInt64)).bind (fun r6 => (some (qm_sl σ5 (v0 + 1 + 1 + v3.toNatClampNeg) 12 ((σ5.2 (v0 + 1 + 1 + v3.toNatClampNeg) 12) + r6))).bind (fun σ7 => (some (σ7.1 (v0 + 1 + 1 + v3.toNatClampNeg) 0)).bind (fun z8 => (some (v4 + 1)).bind (fun z9 => some (.inl (z8, z9, σ7))))))) else none else none
set_option maxRecDepth 20000 in
theorem wb_X0_chargeLine_5 {l : Launch} {E : qm_E} (σ : qm_M) (v0 : Nat) (v2 : Int32) (v3 : Int32) (v4 : Int32) (hk0 : qm_kind v0 = 2) {x : (Int32 × Int32 × qm_M) ⊕ (qm_M)} (h : bb_X0_chargeLine_5 σ v0 v2 v3 v4 = some x) {r : Option Value × qm_M} (hT : (qm_T (pp_X0_chargeLine_5 l E v0 v2) (fun x r => (none, x) = r)) x r) : qm_Wp l E kd_X0_chargeLine "HungStreams$Frames" cX0_chargeLine 6 5 [(0, .ref (qm_a E v0)), (2, .int v2), (3, .int v3), (4, .int v4)] [] σ r := by
  unfold bb_X0_chargeLine_5 at h
  refine qr_iload dX0_chargeLine_5 3 rfl ?_
  refine qr_bipush (v := 12) dX0_chargeLine_7 (by decide) ?_
  refine qr_icmp_ge (tgt := 79) dX0_chargeLine_9 (by decide) (fun c11 => ?_) (fun c11 => ?_)
  · rw [if_pos c11] at h
    obtain ⟨y1, h1, hx⟩ := qm_bind h
    clear h
    cases hx
    have h := h1
    obtain rfl := Option.some.inj h
    cases hT
    exact qr_vret dX0_chargeLine_79
  · rw [if_neg c11] at h
    refine qr_iload_n dX0_chargeLine_12 rfl 2 rfl ?_
    refine qr_if_eq (tgt := 79) dX0_chargeLine_13 (by decide) (fun c10 => ?_) (fun c10 => ?_)
    · rw [if_pos c10] at h
      obtain ⟨y2, h1, hx⟩ := qm_bind h
      clear h
      cases hx
      have h := h1
      obtain rfl := Option.some.inj h
      cases hT
      exact qr_vret dX0_chargeLine_79
    · rw [if_neg c10] at h
      refine qr_aload_n dX0_chargeLine_16 rfl 0 rfl ?_
      refine qr_get1 (k := 0) (v := .ref (qm_a E (v0 + 1))) hk0 (by decide) rfl qw_108 dX0_chargeLine_17 ?_
      refine qr_iload_n dX0_chargeLine_20 rfl 2 rfl ?_
      obtain ⟨c3, h⟩ := qm_chk h
      refine qr_aalds (qm_k_arr hk0) c3 dX0_chargeLine_21 ?_
      refine qr_astore (lv' := [(5, .ref (qm_a E (v0 + 1 + 1 + v3.toNatClampNeg))), (0, .ref (qm_a E v0)), (2, .int v2), (3, .int v3), (4, .int v4)]) dX0_chargeLine_22 (by decide) rfl ?_
      refine qr_aload_n dX0_chargeLine_24 rfl 1 rfl ?_
      refine qr_get1 (k := 0) (v := .ref (qm_a E (v0 + 1))) hk0 (by decide) rfl qw_108 dX0_chargeLine_25 ?_
      refine qr_aload dX0_chargeLine_28 0 rfl ?_
      refine qr_get0 (k := 0) (v := .int (σ.1 (v0 + 1 + 1 + v3.toNatClampNeg) 0)) (qm_k_str (qm_k_arr hk0) c3) (by decide) rfl qw_35 dX0_chargeLine_30 ?_
      obtain ⟨c4, h⟩ := qm_chk h
      refine qr_aalds (qm_k_arr hk0) c4 dX0_chargeLine_33 ?_
      refine qr_aload dX0_chargeLine_34 0 rfl ?_
      refine qr_get0 (k := 12) (v := .long (σ.2 (v0 + 1 + 1 + v3.toNatClampNeg) 12)) (qm_k_str (qm_k_arr hk0) c3) (by decide) rfl qw_70 dX0_chargeLine_36 ?_
      obtain ⟨σ5, eσ5, h⟩ := qm_bind h
      refine qr_put0_13 (qm_k_str (qm_k_arr hk0) c4) qw_74 dX0_chargeLine_39 (qr_eqm (Option.some.inj eσ5) ?_)
      refine qr_aload dX0_chargeLine_42 0 rfl ?_
      refine qr_dup dX0_chargeLine_44 rfl ?_
      refine qr_get0 (k := 12) (v := .long (σ5.2 (v0 + 1 + 1 + v3.toNatClampNeg) 12)) (qm_k_str (qm_k_arr hk0) c3) (by decide) rfl qw_70 dX0_chargeLine_45 ?_
      refine qr_iload_n dX0_chargeLine_48 rfl 2 rfl ?_
      refine qr_i2l dX0_chargeLine_49 ?_
      refine qr_ldc2 qw_470 dX0_chargeLine_50 ?_
      refine qr_lmul dX0_chargeLine_53 ?_
      refine qr_aload dX0_chargeLine_54 0 rfl ?_
      refine qr_get0 (k := 1) (v := .int (σ5.1 (v0 + 1 + 1 + v3.toNatClampNeg) 1)) (qm_k_str (qm_k_arr hk0) c3) (by decide) rfl qw_42 dX0_chargeLine_56 ?_
      refine qr_i2l dX0_chargeLine_59 ?_
      obtain ⟨r6, er6, h⟩ := qm_bind h
      refine qr_call1 (st1 := [.long r6, .long (σ5.2 (v0 + 1 + 1 + v3.toNatClampNeg) 12), .ref (qm_a E (v0 + 1 + 1 + v3.toNatClampNeg))]) rfl (qr_callN (host := "HungStreams") (As := [.long (v2.toInt64 * 720720), .long ((σ5.1 (v0 + 1 + 1 + v3.toNatClampNeg) 1).toInt64)]) (st := [.long (σ5.2 (v0 + 1 + 1 + v3.toNatClampNeg) 12), .ref (qm_a E (v0 + 1 + 1 + v3.toNatClampNeg))]) (ct_X6_cut (l := l) (E := E) σ5 (v2.toInt64 * 720720) ((σ5.1 (v0 + 1 + 1 + v3.toNatClampNeg) 1).toInt64) er6) qw_351 qw_1 (List.mem_of_getElem? (i := 5) rfl) qw_350 yd_X6_cut (by decide) (by decide) rfl (Nat.le_of_ble_eq_true rfl) dX0_chargeLine_60) ?_
      refine qr_ladd dX0_chargeLine_63 ?_
      obtain ⟨σ7, eσ7, h⟩ := qm_bind h
      refine qr_put0_12 (qm_k_str (qm_k_arr hk0) c3) qw_70 dX0_chargeLine_64 (qr_eqm (Option.some.inj eσ7) ?_)
      refine qr_aload dX0_chargeLine_67 0 rfl ?_
      refine qr_get0 (k := 0) (v := .int (σ7.1 (v0 + 1 + 1 + v3.toNatClampNeg) 0)) (qm_k_str (qm_k_arr hk0) c3) (by decide) rfl qw_35 dX0_chargeLine_69 ?_
      obtain ⟨z8, ez8, h⟩ := qm_bind h
      refine qr_eqi (Option.some.inj ez8) ?_
      refine qr_istore_n (lv' := [(3, .int z8), (5, .ref (qm_a E (v0 + 1 + 1 + v3.toNatClampNeg))), (0, .ref (qm_a E v0)), (2, .int v2), (4, .int v4)]) dX0_chargeLine_72 rfl (by decide) rfl ?_
      obtain ⟨z9, ez9, h⟩ := qm_bind h
      refine qr_iinc (q := 4) (v := z9) (lv' := [(4, .int z9), (3, .int z8), (5, .ref (qm_a E (v0 + 1 + 1 + v3.toNatClampNeg))), (0, .ref (qm_a E v0)), (2, .int v2)]) dX0_chargeLine_73 rfl (Option.some.inj ez9) (by decide) rfl ?_
      refine qr_goto (tgt := 5) dX0_chargeLine_76 (by decide) ?_
      obtain rfl := Option.some.inj h
      exact qr_sub [3, 4, 1, 0] rfl hT
def lp_X0_chargeLine_5 (σ : qm_M) (v0 : Nat) (v2 : Int32) (v3 : Int32) (v4 : Int32) : Option (qm_M) := qm_loop (fun s : Int32 × Int32 × qm_M => bb_X0_chargeLine_5 s.2.2 v0 v2 s.1 s.2.1) 1000 (v3, v4, σ)
theorem wl_X0_chargeLine_5 {l : Launch} {E : qm_E} (σ : qm_M) (v0 : Nat) (v2 : Int32) (v3 : Int32) (v4 : Int32) (hk0 : qm_kind v0 = 2) {x : qm_M} (h : lp_X0_chargeLine_5 σ v0 v2 v3 v4 = some x) {r : Option Value × qm_M} (hT : (fun x r => (none, x) = r) x r) : qm_Wp l E kd_X0_chargeLine "HungStreams$Frames" cX0_chargeLine 6 5 [(0, .ref (qm_a E v0)), (2, .int v2), (3, .int v3), (4, .int v4)] [] σ r :=
  qm_loop_T (P := pp_X0_chargeLine_5 l E v0 v2) (T1 := (fun x r => (none, x) = r)) (fun s x h r hT => wb_X0_chargeLine_5 (l := l) (E := E) s.2.2 v0 v2 s.1 s.2.1 hk0 h hT) h hT
def fn_X0_chargeLine (σ : qm_M) (v0 : Nat) (v1 : Int32) (v2 : Int32) : Option (qm_M) :=
  lp_X0_chargeLine_5 σ v0 v2 v1 0
set_option maxRecDepth 20000 in
theorem wf_X0_chargeLine {l : Launch} {E : qm_E} (σ : qm_M) (v0 : Nat) (v1 : Int32) (v2 : Int32) (hk0 : qm_kind v0 = 2) {x : qm_M} (h : fn_X0_chargeLine σ v0 v1 v2 = some x) {r : Option Value × qm_M} (hT : (fun x r => (none, x) = r) x r) : qm_Wp l E kd_X0_chargeLine "HungStreams$Frames" cX0_chargeLine 6 0 [(0, .ref (qm_a E v0)), (1, .int v1), (2, .int v2)] [] σ r := by
  unfold fn_X0_chargeLine at h
  refine qr_iload_n dX0_chargeLine_0 rfl 1 rfl ?_
  refine qr_istore_n (lv' := [(3, .int v1), (0, .ref (qm_a E v0)), (1, .int v1), (2, .int v2)]) dX0_chargeLine_1 rfl (by decide) rfl ?_
  refine qr_iconst (v := 0) dX0_chargeLine_2 (by decide) ?_
  refine qr_istore (lv' := [(4, .int 0), (3, .int v1), (0, .ref (qm_a E v0)), (1, .int v1), (2, .int v2)]) dX0_chargeLine_3 (by decide) rfl ?_
  exact qr_sub [2, 4, 1, 0] rfl (wl_X0_chargeLine_5 (l := l) (E := E) σ v0 v2 v1 0 hk0 h hT)
theorem ct_X0_chargeLine {l : Launch} {E : qm_E} (σ : qm_M) (v0 : Nat) (v1 : Int32) (v2 : Int32) (hk0 : qm_kind v0 = 2) {x : qm_M} (h : fn_X0_chargeLine σ v0 v1 v2 = some x) : qm_Ct l E kd_X0_chargeLine yX0_chargeLine cX0_chargeLine 6 none [.ref (qm_a E v0), .int v1, .int v2] σ (none, x) := qm_ofWp rfl (Nat.le_of_ble_eq_true rfl) (rfl) (wf_X0_chargeLine σ v0 v1 v2 hk0 h rfl)
-- HungStreams$Frames.send (LHungStreams$Tree;I)V
abbrev kd_X0_send : Nat := 3
theorem yd_X0_send : (yX0_send).cls ≠ "java/lang/invoke/MethodHandle" ∧ (yX0_send).cls ≠ "java/lang/invoke/VarHandle" ∧ (parseMethodDescriptor (yX0_send).desc).map (fun d => d.parameters.length) = some 2 := by decide +kernel
def bb_X0_send_86 (σ : qm_M) (v0 : Nat) (v1 : Int32) (v2 : Nat) (v3 : Int32) : Option (qm_M) :=
  (some (qm_si σ v0 7 ((σ.1 v0 7) + 1))).bind (fun σ9 => (some (qm_si σ9 v2 11 (σ9.1 v0 7))).bind (fun σ10 => (some (qm_si σ10 v0 8 v3)).bind (fun σ11 => (some (qm_si σ11 v0 9 v1)).bind (fun σ12 => some σ12))))
set_option maxRecDepth 20000 in
theorem wb_X0_send_86 {l : Launch} {E : qm_E} (σ : qm_M) (v0 : Nat) (v1 : Int32) (v2 : Nat) (v3 : Int32) (hk0 : qm_kind v0 = 2) (hk2 : qm_kind v2 = 1) {x : qm_M} (h : bb_X0_send_86 σ v0 v1 v2 v3 = some x) {r : Option Value × qm_M} (hT : (fun x r => (none, x) = r) x r) : qm_Wp l E kd_X0_send "HungStreams$Frames" cX0_send 4 86 [(0, .ref (qm_a E v0)), (1, .int v1), (2, .ref (qm_a E v2)), (3, .int v3)] [] σ r := by
  unfold bb_X0_send_86 at h
  refine qr_aload_n dX0_send_86 rfl 0 rfl ?_
  refine qr_dup dX0_send_87 rfl ?_
  refine qr_get1 (k := 7) (v := .int (σ.1 v0 7)) hk0 (by decide) rfl qw_128 dX0_send_88 ?_
  refine qr_iconst (v := 1) dX0_send_91 (by decide) ?_
  refine qr_iadd dX0_send_92 ?_
  obtain ⟨σ9, eσ9, h⟩ := qm_bind h
  refine qr_put1_7 hk0 qw_128 dX0_send_93 (qr_eqm (Option.some.inj eσ9) ?_)
  refine qr_aload_n dX0_send_96 rfl 2 rfl ?_
  refine qr_aload_n dX0_send_97 rfl 0 rfl ?_
  refine qr_get1 (k := 7) (v := .int (σ9.1 v0 7)) hk0 (by decide) rfl qw_128 dX0_send_98 ?_
  obtain ⟨σ10, eσ10, h⟩ := qm_bind h
  refine qr_put0_11 hk2 qw_68 dX0_send_101 (qr_eqm (Option.some.inj eσ10) ?_)
  refine qr_aload_n dX0_send_104 rfl 0 rfl ?_
  refine qr_iload_n dX0_send_105 rfl 3 rfl ?_
  obtain ⟨σ11, eσ11, h⟩ := qm_bind h
  refine qr_put1_8 hk0 qw_131 dX0_send_106 (qr_eqm (Option.some.inj eσ11) ?_)
  refine qr_aload_n dX0_send_109 rfl 0 rfl ?_
  refine qr_iload_n dX0_send_110 rfl 1 rfl ?_
  obtain ⟨σ12, eσ12, h⟩ := qm_bind h
  refine qr_put1_9 hk0 qw_134 dX0_send_111 (qr_eqm (Option.some.inj eσ12) ?_)
  obtain rfl := Option.some.inj h
  cases hT
  exact qr_vret dX0_send_114
def fn_X0_send (σ : qm_M) (v0 : Nat) (v1 : Int32) : Option (qm_M) :=
  if ¬ (v1 < 0 ∨ 13 ≤ v1.toNatClampNeg) then (fn_J_min σ (σ.1 v0 4) (σ.1 v0 3)).bind (fun r2 => (fn_J_min σ (σ.1 (v0 + 1 + 1 + v1.toNatClampNeg) 2) (σ.1 (v0 + 1 + 1 + v1.toNatClampNeg) 3)).bind (fun r3 => (fn_J_min σ r2 r3).bind (fun r4 => (some (qm_si σ v0 3 ((σ.1 v0 3) - r4))).bind (fun σ5 => (some (qm_si σ5 (v0 + 1 + 1 + v1.toNatClampNeg) 2 ((σ5.1 (v0 + 1 + 1 + v1.toNatClampNeg) 2) - r4))).bind (fun σ6 => (some (qm_si σ6 (v0 + 1 + 1 + v1.toNatClampNeg) 3 ((σ6.1 (v0 + 1 + 1 + v1.toNatClampNeg) 3) - r4))).bind (fun σ7 => (some (qm_si σ7 (v0 + 1 + 1 + v1.toNatClampNeg) 8 ((σ7.1 (v0 + 1 + 1 + v1.toNatClampNeg) 8) + r4))).bind (fun σ8 => if (σ8.1 v0 6) = 0 then (fn_X0_chargeLine σ8 v0 v1 r4).bind (fun r13 => bb_X0_send_86 r13 v0 v1 (v0 + 1 + 1 + v1.toNatClampNeg) r4) else bb_X0_send_86 σ8 v0 v1 (v0 + 1 + 1 + v1.toNatClampNeg) r4))))))) else none
set_option maxRecDepth 20000 in
theorem wf_X0_send {l : Launch} {E : qm_E} (σ : qm_M) (v0 : Nat) (v1 : Int32) (hk0 : qm_kind v0 = 2) {x : qm_M} (h : fn_X0_send σ v0 v1 = some x) {r : Option Value × qm_M} (hT : (fun x r => (none, x) = r) x r) : qm_Wp l E kd_X0_send "HungStreams$Frames" cX0_send 4 0 [(0, .ref (qm_a E v0)), (1, .int v1)] [] σ r := by
  unfold fn_X0_send at h
  refine qr_aload_n dX0_send_0 rfl 0 rfl ?_
  refine qr_get1 (k := 0) (v := .ref (qm_a E (v0 + 1))) hk0 (by decide) rfl qw_108 dX0_send_1 ?_
  refine qr_iload_n dX0_send_4 rfl 1 rfl ?_
  obtain ⟨c1, h⟩ := qm_chk h
  refine qr_aalds (qm_k_arr hk0) c1 dX0_send_5 ?_
  refine qr_astore_n (lv' := [(2, .ref (qm_a E (v0 + 1 + 1 + v1.toNatClampNeg))), (0, .ref (qm_a E v0)), (1, .int v1)]) dX0_send_6 rfl (by decide) rfl ?_
  refine qr_aload_n dX0_send_7 rfl 1 rfl ?_
  refine qr_get1 (k := 4) (v := .int (σ.1 v0 4)) hk0 (by decide) rfl qw_120 dX0_send_8 ?_
  refine qr_aload_n dX0_send_11 rfl 1 rfl ?_
  refine qr_get1 (k := 3) (v := .int (σ.1 v0 3)) hk0 (by decide) rfl qw_117 dX0_send_12 ?_
  obtain ⟨r2, er2, h⟩ := qm_bind h
  refine qr_call1 (st1 := [.int r2]) rfl (qr_callS (As := [.int (σ.1 v0 4), .int (σ.1 v0 3)]) (st := []) (ct_J_min (l := l) (E := E) σ (σ.1 v0 4) (σ.1 v0 3) er2) qw_466 qw_7 qw_464 qw_465 yd_J_min (by decide) (by decide) rfl (Nat.le_of_ble_eq_true rfl) dX0_send_15) ?_
  refine qr_aload_n dX0_send_18 rfl 0 rfl ?_
  refine qr_get0 (k := 2) (v := .int (σ.1 (v0 + 1 + 1 + v1.toNatClampNeg) 2)) (qm_k_str (qm_k_arr hk0) c1) (by decide) rfl qw_45 dX0_send_19 ?_
  refine qr_aload_n dX0_send_22 rfl 0 rfl ?_
  refine qr_get0 (k := 3) (v := .int (σ.1 (v0 + 1 + 1 + v1.toNatClampNeg) 3)) (qm_k_str (qm_k_arr hk0) c1) (by decide) rfl qw_47 dX0_send_23 ?_
  obtain ⟨r3, er3, h⟩ := qm_bind h
  refine qr_call1 (st1 := [.int r3, .int r2]) rfl (qr_callS (As := [.int (σ.1 (v0 + 1 + 1 + v1.toNatClampNeg) 2), .int (σ.1 (v0 + 1 + 1 + v1.toNatClampNeg) 3)]) (st := [.int r2]) (ct_J_min (l := l) (E := E) σ (σ.1 (v0 + 1 + 1 + v1.toNatClampNeg) 2) (σ.1 (v0 + 1 + 1 + v1.toNatClampNeg) 3) er3) qw_466 qw_7 qw_464 qw_465 yd_J_min (by decide) (by decide) rfl (Nat.le_of_ble_eq_true rfl) dX0_send_26) ?_
  obtain ⟨r4, er4, h⟩ := qm_bind h
  refine qr_call1 (st1 := [.int r4]) rfl (qr_callS (As := [.int r2, .int r3]) (st := []) (ct_J_min (l := l) (E := E) σ r2 r3 er4) qw_466 qw_7 qw_464 qw_465 yd_J_min (by decide) (by decide) rfl (Nat.le_of_ble_eq_true rfl) dX0_send_29) ?_
  refine qr_istore_n (lv' := [(3, .int r4), (2, .ref (qm_a E (v0 + 1 + 1 + v1.toNatClampNeg))), (0, .ref (qm_a E v0)), (1, .int v1)]) dX0_send_32 rfl (by decide) rfl ?_
  refine qr_aload_n dX0_send_33 rfl 2 rfl ?_
  refine qr_dup dX0_send_34 rfl ?_
  refine qr_get1 (k := 3) (v := .int (σ.1 v0 3)) hk0 (by decide) rfl qw_117 dX0_send_35 ?_
  refine qr_iload_n dX0_send_38 rfl 0 rfl ?_
  refine qr_isub dX0_send_39 ?_
  obtain ⟨σ5, eσ5, h⟩ := qm_bind h
  refine qr_put1_3 hk0 qw_117 dX0_send_40 (qr_eqm (Option.some.inj eσ5) ?_)
  refine qr_aload_n dX0_send_43 rfl 1 rfl ?_
  refine qr_dup dX0_send_44 rfl ?_
  refine qr_get0 (k := 2) (v := .int (σ5.1 (v0 + 1 + 1 + v1.toNatClampNeg) 2)) (qm_k_str (qm_k_arr hk0) c1) (by decide) rfl qw_45 dX0_send_45 ?_
  refine qr_iload_n dX0_send_48 rfl 0 rfl ?_
  refine qr_isub dX0_send_49 ?_
  obtain ⟨σ6, eσ6, h⟩ := qm_bind h
  refine qr_put0_2 (qm_k_str (qm_k_arr hk0) c1) qw_45 dX0_send_50 (qr_eqm (Option.some.inj eσ6) ?_)
  refine qr_aload_n dX0_send_53 rfl 1 rfl ?_
  refine qr_dup dX0_send_54 rfl ?_
  refine qr_get0 (k := 3) (v := .int (σ6.1 (v0 + 1 + 1 + v1.toNatClampNeg) 3)) (qm_k_str (qm_k_arr hk0) c1) (by decide) rfl qw_47 dX0_send_55 ?_
  refine qr_iload_n dX0_send_58 rfl 0 rfl ?_
  refine qr_isub dX0_send_59 ?_
  obtain ⟨σ7, eσ7, h⟩ := qm_bind h
  refine qr_put0_3 (qm_k_str (qm_k_arr hk0) c1) qw_47 dX0_send_60 (qr_eqm (Option.some.inj eσ7) ?_)
  refine qr_aload_n dX0_send_63 rfl 1 rfl ?_
  refine qr_dup dX0_send_64 rfl ?_
  refine qr_get0 (k := 8) (v := .int (σ7.1 (v0 + 1 + 1 + v1.toNatClampNeg) 8)) (qm_k_str (qm_k_arr hk0) c1) (by decide) rfl qw_61 dX0_send_65 ?_
  refine qr_iload_n dX0_send_68 rfl 0 rfl ?_
  refine qr_iadd dX0_send_69 ?_
  obtain ⟨σ8, eσ8, h⟩ := qm_bind h
  refine qr_put0_8 (qm_k_str (qm_k_arr hk0) c1) qw_61 dX0_send_70 (qr_eqm (Option.some.inj eσ8) ?_)
  refine qr_aload_n dX0_send_73 rfl 2 rfl ?_
  refine qr_get1 (k := 6) (v := .int (σ8.1 v0 6)) hk0 (by decide) rfl qw_125 dX0_send_74 ?_
  refine qr_if_ne (tgt := 86) dX0_send_77 (by decide) (fun c14 => ?_) (fun c14 => ?_)
  · rw [if_neg c14] at h
    exact qr_sub [2, 3, 1, 0] rfl (wb_X0_send_86 (l := l) (E := E) σ8 v0 v1 (v0 + 1 + 1 + v1.toNatClampNeg) r4 hk0 (qm_k_str (qm_k_arr hk0) c1) h hT)
  · rw [if_pos c14] at h
    refine qr_aload_n dX0_send_80 rfl 2 rfl ?_
    refine qr_iload_n dX0_send_81 rfl 3 rfl ?_
    refine qr_iload_n dX0_send_82 rfl 0 rfl ?_
    obtain ⟨r13, er13, h⟩ := qm_bind h
    refine qr_call1 (st1 := []) rfl (qr_callS (As := [.ref (qm_a E v0), .int v1, .int r4]) (st := []) (ct_X0_chargeLine (l := l) (E := E) σ8 v0 v1 r4 hk0 er13) qw_469 qw_9 qw_467 qw_468 yd_X0_chargeLine (by decide) (by decide) rfl (Nat.le_of_ble_eq_true rfl) dX0_send_83) ?_
    exact qr_sub [2, 3, 1, 0] rfl (wb_X0_send_86 (l := l) (E := E) r13 v0 v1 (v0 + 1 + 1 + v1.toNatClampNeg) r4 hk0 (qm_k_str (qm_k_arr hk0) c1) h hT)
theorem ct_X0_send {l : Launch} {E : qm_E} (σ : qm_M) (v0 : Nat) (v1 : Int32) (hk0 : qm_kind v0 = 2) {x : qm_M} (h : fn_X0_send σ v0 v1 = some x) : qm_Ct l E kd_X0_send yX0_send cX0_send 4 none [.ref (qm_a E v0), .int v1] σ (none, x) := qm_ofWp rfl (Nat.le_of_ble_eq_true rfl) (rfl) (wf_X0_send σ v0 v1 hk0 h rfl)
