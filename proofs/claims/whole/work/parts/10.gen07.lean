-- HungStreamsModel.moves (IIII)I
abbrev kd_X7_moves : Nat := 5
theorem yd_X7_moves : (yX7_moves).cls ≠ "java/lang/invoke/MethodHandle" ∧ (yX7_moves).cls ≠ "java/lang/invoke/VarHandle" ∧ (parseMethodDescriptor (yX7_moves).desc).map (fun d => d.parameters.length) = some 4 := by decide +kernel
def bb_X7_moves_86 (σ : qm_M) (v1 : Int32) (v2 : Int32) (v4 : Int32) : Option (Int32 × qm_M) :=
  if v4 = 1 then (fn_X7_comesTo σ v1 v2 1).bind (fun r13 => (fn_X7_children r13 v1).bind (fun r14 => some (r14, r13))) else (fn_X7_comesTo σ v1 v2 0).bind (fun r11 => (fn_X7_children r11 v1).bind (fun r12 => some (r12, r11)))
set_option maxRecDepth 20000 in
theorem wb_X7_moves_86 {l : Launch} {E : qm_E} (σ : qm_M) (v1 : Int32) (v2 : Int32) (v4 : Int32) {x : Int32 × qm_M} (h : bb_X7_moves_86 σ v1 v2 v4 = some x) {r : Option Value × qm_M} (hT : (fun x r => (some (.int x.1), x.2) = r) x r) : qm_Wp l E kd_X7_moves "HungStreamsModel" cX7_moves 5 86 [(0, .ref (qm_a E 210)), (1, .int v1), (2, .int v2), (4, .int v4)] [] σ r := by
  unfold bb_X7_moves_86 at h
  refine qr_aload_n dX7_moves_86 rfl 0 rfl ?_
  refine qr_iload_n dX7_moves_87 rfl 1 rfl ?_
  refine qr_iload_n dX7_moves_88 rfl 2 rfl ?_
  refine qr_iload dX7_moves_89 3 rfl ?_
  refine qr_iconst (v := 1) dX7_moves_91 (by decide) ?_
  refine qr_icmp_ne (tgt := 99) dX7_moves_92 (by decide) (fun c15 => ?_) (fun c15 => ?_)
  · rw [if_neg c15] at h
    refine qr_iconst (v := 0) dX7_moves_99 (by decide) ?_
    obtain ⟨r11, er11, h⟩ := qm_bind h
    refine qr_call1 (st1 := []) rfl (qr_callV (id := 210) (c := 5) (As := [.int v1, .int v2, .int 0]) (st := []) rfl (by decide) rfl (ct_X7_comesTo (l := l) (E := E) σ v1 v2 0 er11) qw_719 qw_6 qw_716 qw_718 qs_13 yd_X7_comesTo (by decide) (by decide) rfl (Nat.le_of_ble_eq_true rfl) dX7_moves_100) ?_
    refine qr_aload_n dX7_moves_103 rfl 0 rfl ?_
    refine qr_iload_n dX7_moves_104 rfl 1 rfl ?_
    obtain ⟨r12, er12, h⟩ := qm_bind h
    refine qr_call1 (st1 := [.int r12]) rfl (qr_callV (id := 210) (c := 5) (As := [.int v1]) (st := []) rfl (by decide) rfl (ct_X7_children (l := l) (E := E) r11 v1 er12) qw_735 qw_6 qw_732 qw_734 qs_17 yd_X7_children (by decide) (by decide) rfl (Nat.le_of_ble_eq_true rfl) dX7_moves_105) ?_
    obtain rfl := Option.some.inj h
    cases hT
    exact qr_iret dX7_moves_108
  · rw [if_pos c15] at h
    refine qr_iconst (v := 1) dX7_moves_95 (by decide) ?_
    refine qr_goto (tgt := 100) dX7_moves_96 (by decide) ?_
    obtain ⟨r13, er13, h⟩ := qm_bind h
    refine qr_call1 (st1 := []) rfl (qr_callV (id := 210) (c := 5) (As := [.int v1, .int v2, .int 1]) (st := []) rfl (by decide) rfl (ct_X7_comesTo (l := l) (E := E) σ v1 v2 1 er13) qw_719 qw_6 qw_716 qw_718 qs_13 yd_X7_comesTo (by decide) (by decide) rfl (Nat.le_of_ble_eq_true rfl) dX7_moves_100) ?_
    refine qr_aload_n dX7_moves_103 rfl 0 rfl ?_
    refine qr_iload_n dX7_moves_104 rfl 1 rfl ?_
    obtain ⟨r14, er14, h⟩ := qm_bind h
    refine qr_call1 (st1 := [.int r14]) rfl (qr_callV (id := 210) (c := 5) (As := [.int v1]) (st := []) rfl (by decide) rfl (ct_X7_children (l := l) (E := E) r13 v1 er14) qw_735 qw_6 qw_732 qw_734 qs_17 yd_X7_children (by decide) (by decide) rfl (Nat.le_of_ble_eq_true rfl) dX7_moves_105) ?_
    obtain rfl := Option.some.inj h
    cases hT
    exact qr_iret dX7_moves_108
def fn_X7_moves (σ : qm_M) (v1 : Int32) (v2 : Int32) (v3 : Int32) (v4 : Int32) : Option (Int32 × qm_M) :=
  (fn_X7_isStream σ v1).bind (fun r1 => if (qm_b r1) = 0 then (fn_X7_refuses σ (-2)).bind (fun r2 => some (r2.1, r2.2)) else (fn_X7_isPlace σ v2).bind (fun r3 => if (qm_b r3) = 0 then (fn_X7_refuses σ (-2)).bind (fun r4 => some (r4.1, r4.2)) else if v2 = v1 then (fn_X7_refuses σ (-2)).bind (fun r5 => some (r5.1, r5.2)) else (fn_X7_in σ v3.toInt64 1 16).bind (fun r6 => if (qm_b r6) = 0 then (fn_X7_refuses σ (-2)).bind (fun r7 => some (r7.1, r7.2)) else (fn_X7_in σ v4.toInt64 0 1).bind (fun r8 => if (qm_b r8) = 0 then (fn_X7_refuses σ (-2)).bind (fun r21 => some (r21.1, r21.2)) else (fn_X7_keep σ ).bind (fun r9 => (fn_X7_puts r9 v1 2 v3.toInt64).bind (fun r10 => if v2 = 0 then bb_X7_moves_86 r10 v1 v2 v4 else (fn_X7_isBelow r10 v2 v1).bind (fun r16 => if (qm_b r16) = 0 then bb_X7_moves_86 r10 v1 v2 v4 else (fn_X7_parent r10 v1).bind (fun r17 => (fn_X7_hangs r10 v2 r17).bind (fun r18 => bb_X7_moves_86 r18 v1 v2 v4)))))))))
set_option maxRecDepth 20000 in
theorem wf_X7_moves {l : Launch} {E : qm_E} (σ : qm_M) (v1 : Int32) (v2 : Int32) (v3 : Int32) (v4 : Int32) {x : Int32 × qm_M} (h : fn_X7_moves σ v1 v2 v3 v4 = some x) {r : Option Value × qm_M} (hT : (fun x r => (some (.int x.1), x.2) = r) x r) : qm_Wp l E kd_X7_moves "HungStreamsModel" cX7_moves 5 0 [(0, .ref (qm_a E 210)), (1, .int v1), (2, .int v2), (3, .int v3), (4, .int v4)] [] σ r := by
  unfold fn_X7_moves at h
  refine qr_aload_n dX7_moves_0 rfl 0 rfl ?_
  refine qr_iload_n dX7_moves_1 rfl 1 rfl ?_
  obtain ⟨r1, er1, h⟩ := qm_bind h
  refine qr_call1 (st1 := [.int (qm_b r1)]) rfl (qr_callV (id := 210) (c := 5) (As := [.int v1]) (st := []) rfl (by decide) rfl (ct_X7_isStream (l := l) (E := E) σ v1 er1) qw_692 qw_6 qw_689 qw_691 qs_7 yd_X7_isStream (by decide) (by decide) rfl (Nat.le_of_ble_eq_true rfl) dX7_moves_2) ?_
  refine qr_if_eq (tgt := 44) dX7_moves_5 (by decide) (fun c26 => ?_) (fun c26 => ?_)
  · rw [if_pos c26] at h
    refine qr_aload_n dX7_moves_44 rfl 0 rfl ?_
    refine qr_bipush (v := (-2)) dX7_moves_45 (by decide) ?_
    obtain ⟨r2, er2, h⟩ := qm_bind h
    refine qr_call1 (st1 := [.int r2.1]) rfl (qr_callV (id := 210) (c := 5) (As := [.int (-2)]) (st := []) rfl (by decide) rfl (ct_X7_refuses (l := l) (E := E) σ (-2) er2) qw_701 qw_6 qw_698 qw_700 qs_9 yd_X7_refuses (by decide) (by decide) rfl (Nat.le_of_ble_eq_true rfl) dX7_moves_47) ?_
    obtain rfl := Option.some.inj h
    cases hT
    exact qr_iret dX7_moves_50
  · rw [if_neg c26] at h
    refine qr_aload_n dX7_moves_8 rfl 0 rfl ?_
    refine qr_iload_n dX7_moves_9 rfl 2 rfl ?_
    obtain ⟨r3, er3, h⟩ := qm_bind h
    refine qr_call1 (st1 := [.int (qm_b r3)]) rfl (qr_callV (id := 210) (c := 5) (As := [.int v2]) (st := []) rfl (by decide) rfl (ct_X7_isPlace (l := l) (E := E) σ v2 er3) qw_688 qw_6 qw_685 qw_687 qs_6 yd_X7_isPlace (by decide) (by decide) rfl (Nat.le_of_ble_eq_true rfl) dX7_moves_10) ?_
    refine qr_if_eq (tgt := 44) dX7_moves_13 (by decide) (fun c25 => ?_) (fun c25 => ?_)
    · rw [if_pos c25] at h
      refine qr_aload_n dX7_moves_44 rfl 0 rfl ?_
      refine qr_bipush (v := (-2)) dX7_moves_45 (by decide) ?_
      obtain ⟨r4, er4, h⟩ := qm_bind h
      refine qr_call1 (st1 := [.int r4.1]) rfl (qr_callV (id := 210) (c := 5) (As := [.int (-2)]) (st := []) rfl (by decide) rfl (ct_X7_refuses (l := l) (E := E) σ (-2) er4) qw_701 qw_6 qw_698 qw_700 qs_9 yd_X7_refuses (by decide) (by decide) rfl (Nat.le_of_ble_eq_true rfl) dX7_moves_47) ?_
      obtain rfl := Option.some.inj h
      cases hT
      exact qr_iret dX7_moves_50
    · rw [if_neg c25] at h
      refine qr_iload_n dX7_moves_16 rfl 2 rfl ?_
      refine qr_iload_n dX7_moves_17 rfl 1 rfl ?_
      refine qr_icmp_eq (tgt := 44) dX7_moves_18 (by decide) (fun c24 => ?_) (fun c24 => ?_)
      · rw [if_pos c24] at h
        refine qr_aload_n dX7_moves_44 rfl 0 rfl ?_
        refine qr_bipush (v := (-2)) dX7_moves_45 (by decide) ?_
        obtain ⟨r5, er5, h⟩ := qm_bind h
        refine qr_call1 (st1 := [.int r5.1]) rfl (qr_callV (id := 210) (c := 5) (As := [.int (-2)]) (st := []) rfl (by decide) rfl (ct_X7_refuses (l := l) (E := E) σ (-2) er5) qw_701 qw_6 qw_698 qw_700 qs_9 yd_X7_refuses (by decide) (by decide) rfl (Nat.le_of_ble_eq_true rfl) dX7_moves_47) ?_
        obtain rfl := Option.some.inj h
        cases hT
        exact qr_iret dX7_moves_50
      · rw [if_neg c24] at h
        refine qr_iload_n dX7_moves_21 rfl 3 rfl ?_
        refine qr_i2l dX7_moves_22 ?_
        refine qr_lconst (v := 1) dX7_moves_23 (by decide) ?_
        refine qr_ldc2 qw_697 dX7_moves_24 ?_
        obtain ⟨r6, er6, h⟩ := qm_bind h
        refine qr_call1 (st1 := [.int (qm_b r6)]) rfl (qr_callS (As := [.long v3.toInt64, .long 1, .long 16]) (st := []) (ct_X7_in (l := l) (E := E) σ v3.toInt64 1 16 er6) qw_684 qw_6 qw_682 qw_683 yd_X7_in (by decide) (by decide) rfl (Nat.le_of_ble_eq_true rfl) dX7_moves_27) ?_
        refine qr_if_eq (tgt := 44) dX7_moves_30 (by decide) (fun c23 => ?_) (fun c23 => ?_)
        · rw [if_pos c23] at h
          refine qr_aload_n dX7_moves_44 rfl 0 rfl ?_
          refine qr_bipush (v := (-2)) dX7_moves_45 (by decide) ?_
          obtain ⟨r7, er7, h⟩ := qm_bind h
          refine qr_call1 (st1 := [.int r7.1]) rfl (qr_callV (id := 210) (c := 5) (As := [.int (-2)]) (st := []) rfl (by decide) rfl (ct_X7_refuses (l := l) (E := E) σ (-2) er7) qw_701 qw_6 qw_698 qw_700 qs_9 yd_X7_refuses (by decide) (by decide) rfl (Nat.le_of_ble_eq_true rfl) dX7_moves_47) ?_
          obtain rfl := Option.some.inj h
          cases hT
          exact qr_iret dX7_moves_50
        · rw [if_neg c23] at h
          refine qr_iload dX7_moves_33 4 rfl ?_
          refine qr_i2l dX7_moves_35 ?_
          refine qr_lconst (v := 0) dX7_moves_36 (by decide) ?_
          refine qr_lconst (v := 1) dX7_moves_37 (by decide) ?_
          obtain ⟨r8, er8, h⟩ := qm_bind h
          refine qr_call1 (st1 := [.int (qm_b r8)]) rfl (qr_callS (As := [.long v4.toInt64, .long 0, .long 1]) (st := []) (ct_X7_in (l := l) (E := E) σ v4.toInt64 0 1 er8) qw_684 qw_6 qw_682 qw_683 yd_X7_in (by decide) (by decide) rfl (Nat.le_of_ble_eq_true rfl) dX7_moves_38) ?_
          refine qr_if_ne (tgt := 51) dX7_moves_41 (by decide) (fun c22 => ?_) (fun c22 => ?_)
          · rw [if_neg c22] at h
            refine qr_aload_n dX7_moves_51 rfl 0 rfl ?_
            obtain ⟨r9, er9, h⟩ := qm_bind h
            refine qr_call1 (st1 := []) rfl (qr_callV (id := 210) (c := 5) (As := []) (st := []) rfl (by decide) rfl (ct_X7_keep (l := l) (E := E) σ  er9) qw_705 qw_6 qw_702 qw_704 qs_10 yd_X7_keep (by decide) (by decide) rfl (Nat.le_of_ble_eq_true rfl) dX7_moves_52) ?_
            refine qr_aload_n dX7_moves_55 rfl 0 rfl ?_
            refine qr_iload_n dX7_moves_56 rfl 1 rfl ?_
            refine qr_iconst (v := 2) dX7_moves_57 (by decide) ?_
            refine qr_iload_n dX7_moves_58 rfl 3 rfl ?_
            refine qr_i2l dX7_moves_59 ?_
            obtain ⟨r10, er10, h⟩ := qm_bind h
            refine qr_call1 (st1 := []) rfl (qr_callV (id := 210) (c := 5) (As := [.int v1, .int 2, .long v3.toInt64]) (st := []) rfl (by decide) rfl (ct_X7_puts (l := l) (E := E) r9 v1 2 v3.toInt64 er10) qw_713 qw_6 qw_710 qw_712 qs_12 yd_X7_puts (by decide) (by decide) rfl (Nat.le_of_ble_eq_true rfl) dX7_moves_60) ?_
            refine qr_iload_n dX7_moves_63 rfl 2 rfl ?_
            refine qr_if_eq (tgt := 86) dX7_moves_64 (by decide) (fun c20 => ?_) (fun c20 => ?_)
            · rw [if_pos c20] at h
              exact qr_sub [0, 1, 2, 4] rfl (wb_X7_moves_86 (l := l) (E := E) r10 v1 v2 v4 h hT)
            · rw [if_neg c20] at h
              refine qr_aload_n dX7_moves_67 rfl 0 rfl ?_
              refine qr_iload_n dX7_moves_68 rfl 2 rfl ?_
              refine qr_iload_n dX7_moves_69 rfl 1 rfl ?_
              obtain ⟨r16, er16, h⟩ := qm_bind h
              refine qr_call1 (st1 := [.int (qm_b r16)]) rfl (qr_callV (id := 210) (c := 5) (As := [.int v2, .int v1]) (st := []) rfl (by decide) rfl (ct_X7_isBelow (l := l) (E := E) r10 v2 v1 er16) qw_743 qw_6 qw_740 qw_742 qs_18 yd_X7_isBelow (by decide) (by decide) rfl (Nat.le_of_ble_eq_true rfl) dX7_moves_70) ?_
              refine qr_if_eq (tgt := 86) dX7_moves_73 (by decide) (fun c19 => ?_) (fun c19 => ?_)
              · rw [if_pos c19] at h
                exact qr_sub [0, 1, 2, 4] rfl (wb_X7_moves_86 (l := l) (E := E) r10 v1 v2 v4 h hT)
              · rw [if_neg c19] at h
                refine qr_aload_n dX7_moves_76 rfl 0 rfl ?_
                refine qr_iload_n dX7_moves_77 rfl 2 rfl ?_
                refine qr_aload_n dX7_moves_78 rfl 0 rfl ?_
                refine qr_iload_n dX7_moves_79 rfl 1 rfl ?_
                obtain ⟨r17, er17, h⟩ := qm_bind h
                refine qr_call1 (st1 := [.int r17, .int v2, .ref (qm_a E 210)]) rfl (qr_callV (id := 210) (c := 5) (As := [.int v1]) (st := [.int v2, .ref (qm_a E 210)]) rfl (by decide) rfl (ct_X7_parent (l := l) (E := E) r10 v1 er17) qw_727 qw_6 qw_724 qw_726 qs_15 yd_X7_parent (by decide) (by decide) rfl (Nat.le_of_ble_eq_true rfl) dX7_moves_80) ?_
                obtain ⟨r18, er18, h⟩ := qm_bind h
                refine qr_call1 (st1 := []) rfl (qr_callV (id := 210) (c := 5) (As := [.int v2, .int r17]) (st := []) rfl (by decide) rfl (ct_X7_hangs (l := l) (E := E) r10 v2 r17 er18) qw_731 qw_6 qw_728 qw_730 qs_16 yd_X7_hangs (by decide) (by decide) rfl (Nat.le_of_ble_eq_true rfl) dX7_moves_83) ?_
                exact qr_sub [0, 1, 2, 4] rfl (wb_X7_moves_86 (l := l) (E := E) r18 v1 v2 v4 h hT)
          · rw [if_pos c22] at h
            refine qr_aload_n dX7_moves_44 rfl 0 rfl ?_
            refine qr_bipush (v := (-2)) dX7_moves_45 (by decide) ?_
            obtain ⟨r21, er21, h⟩ := qm_bind h
            refine qr_call1 (st1 := [.int r21.1]) rfl (qr_callV (id := 210) (c := 5) (As := [.int (-2)]) (st := []) rfl (by decide) rfl (ct_X7_refuses (l := l) (E := E) σ (-2) er21) qw_701 qw_6 qw_698 qw_700 qs_9 yd_X7_refuses (by decide) (by decide) rfl (Nat.le_of_ble_eq_true rfl) dX7_moves_47) ?_
            obtain rfl := Option.some.inj h
            cases hT
            exact qr_iret dX7_moves_50
theorem ct_X7_moves {l : Launch} {E : qm_E} (σ : qm_M) (v1 : Int32) (v2 : Int32) (v3 : Int32) (v4 : Int32) {x : Int32 × qm_M} (h : fn_X7_moves σ v1 v2 v3 v4 = some x) : qm_Ct l E kd_X7_moves yX7_moves cX7_moves 5 (some .int) [.ref (qm_a E 210), .int v1, .int v2, .int v3, .int v4] σ (some (.int x.1), x.2) := qm_ofWp rfl (Nat.le_of_ble_eq_true rfl) (Or.inl rfl) (wf_X7_moves σ v1 v2 v3 v4  h rfl)
-- HungStreamsModel.isSetting (II)Z
abbrev kd_X7_isSetting : Nat := 2
theorem yd_X7_isSetting : (yX7_isSetting).cls ≠ "java/lang/invoke/MethodHandle" ∧ (yX7_isSetting).cls ≠ "java/lang/invoke/VarHandle" ∧ (parseMethodDescriptor (yX7_isSetting).desc).map (fun d => d.parameters.length) = some 2 := by decide +kernel
def fn_X7_isSetting (σ : qm_M) (v0 : Int32) (v1 : Int32) : Option (Bool) :=
  if v0 = 0 then (fn_X7_in σ v1.toInt64 1 16).bind (fun r6 => some r6) else if v0 = 1 then (fn_X7_in σ v1.toInt64 0 7).bind (fun r4 => some r4) else if v0 = 2 then (fn_X7_in σ v1.toInt64 0 1).bind (fun r1 => if (qm_b r1) = 0 then some false else some true) else some false
set_option maxRecDepth 20000 in
theorem wf_X7_isSetting {l : Launch} {E : qm_E} (σ : qm_M) (v0 : Int32) (v1 : Int32) {x : Bool} (h : fn_X7_isSetting σ v0 v1 = some x) {r : Option Value × qm_M} (hT : (fun x r => (some (.int (qm_b x)), σ) = r) x r) : qm_Wp l E kd_X7_isSetting "HungStreamsModel" cX7_isSetting 2 0 [(0, .int v0), (1, .int v1)] [] σ r := by
  unfold fn_X7_isSetting at h
  refine qr_iload_n dX7_isSetting_0 rfl 0 rfl ?_
  refine qr_if_ne (tgt := 16) dX7_isSetting_1 (by decide) (fun c7 => ?_) (fun c7 => ?_)
  · rw [if_neg c7] at h
    refine qr_iload_n dX7_isSetting_16 rfl 0 rfl ?_
    refine qr_iconst (v := 1) dX7_isSetting_17 (by decide) ?_
    refine qr_icmp_ne (tgt := 33) dX7_isSetting_18 (by decide) (fun c5 => ?_) (fun c5 => ?_)
    · rw [if_neg c5] at h
      refine qr_iload_n dX7_isSetting_33 rfl 0 rfl ?_
      refine qr_iconst (v := 2) dX7_isSetting_34 (by decide) ?_
      refine qr_icmp_ne (tgt := 52) dX7_isSetting_35 (by decide) (fun c3 => ?_) (fun c3 => ?_)
      · rw [if_neg c3] at h
        refine qr_iconst (v := 0) dX7_isSetting_52 (by decide) ?_
        obtain rfl := Option.some.inj h
        cases hT
        exact qr_iret dX7_isSetting_53
      · rw [if_pos c3] at h
        refine qr_iload_n dX7_isSetting_38 rfl 1 rfl ?_
        refine qr_i2l dX7_isSetting_39 ?_
        refine qr_lconst (v := 0) dX7_isSetting_40 (by decide) ?_
        refine qr_lconst (v := 1) dX7_isSetting_41 (by decide) ?_
        obtain ⟨r1, er1, h⟩ := qm_bind h
        refine qr_call1 (st1 := [.int (qm_b r1)]) rfl (qr_callS (As := [.long v1.toInt64, .long 0, .long 1]) (st := []) (ct_X7_in (l := l) (E := E) σ v1.toInt64 0 1 er1) qw_684 qw_6 qw_682 qw_683 yd_X7_in (by decide) (by decide) rfl (Nat.le_of_ble_eq_true rfl) dX7_isSetting_42) ?_
        refine qr_if_eq (tgt := 52) dX7_isSetting_45 (by decide) (fun c2 => ?_) (fun c2 => ?_)
        · rw [if_pos c2] at h
          refine qr_iconst (v := 0) dX7_isSetting_52 (by decide) ?_
          obtain rfl := Option.some.inj h
          cases hT
          exact qr_iret dX7_isSetting_53
        · rw [if_neg c2] at h
          refine qr_iconst (v := 1) dX7_isSetting_48 (by decide) ?_
          refine qr_goto (tgt := 53) dX7_isSetting_49 (by decide) ?_
          obtain rfl := Option.some.inj h
          cases hT
          exact qr_iret dX7_isSetting_53
    · rw [if_pos c5] at h
      refine qr_iload_n dX7_isSetting_21 rfl 1 rfl ?_
      refine qr_i2l dX7_isSetting_22 ?_
      refine qr_lconst (v := 0) dX7_isSetting_23 (by decide) ?_
      refine qr_ldc2 qw_751 dX7_isSetting_24 ?_
      obtain ⟨r4, er4, h⟩ := qm_bind h
      refine qr_call1 (st1 := [.int (qm_b r4)]) rfl (qr_callS (As := [.long v1.toInt64, .long 0, .long 7]) (st := []) (ct_X7_in (l := l) (E := E) σ v1.toInt64 0 7 er4) qw_684 qw_6 qw_682 qw_683 yd_X7_in (by decide) (by decide) rfl (Nat.le_of_ble_eq_true rfl) dX7_isSetting_27) ?_
      refine qr_goto (tgt := 53) dX7_isSetting_30 (by decide) ?_
      obtain rfl := Option.some.inj h
      cases hT
      exact qr_iret dX7_isSetting_53
  · rw [if_pos c7] at h
    refine qr_iload_n dX7_isSetting_4 rfl 1 rfl ?_
    refine qr_i2l dX7_isSetting_5 ?_
    refine qr_lconst (v := 1) dX7_isSetting_6 (by decide) ?_
    refine qr_ldc2 qw_697 dX7_isSetting_7 ?_
    obtain ⟨r6, er6, h⟩ := qm_bind h
    refine qr_call1 (st1 := [.int (qm_b r6)]) rfl (qr_callS (As := [.long v1.toInt64, .long 1, .long 16]) (st := []) (ct_X7_in (l := l) (E := E) σ v1.toInt64 1 16 er6) qw_684 qw_6 qw_682 qw_683 yd_X7_in (by decide) (by decide) rfl (Nat.le_of_ble_eq_true rfl) dX7_isSetting_10) ?_
    refine qr_goto (tgt := 53) dX7_isSetting_13 (by decide) ?_
    obtain rfl := Option.some.inj h
    cases hT
    exact qr_iret dX7_isSetting_53
theorem ct_X7_isSetting {l : Launch} {E : qm_E} (σ : qm_M) (v0 : Int32) (v1 : Int32) {x : Bool} (h : fn_X7_isSetting σ v0 v1 = some x) : qm_Ct l E kd_X7_isSetting yX7_isSetting cX7_isSetting 2 (some .boolean) [.int v0, .int v1] σ (some (.int (qm_b x)), σ) := qm_ofWp rfl (Nat.le_of_ble_eq_true rfl) (qm_rtz _) (wf_X7_isSetting σ v0 v1  h rfl)
-- HungStreamsModel.placeOf (I)I
abbrev kd_X7_placeOf : Nat := 1
theorem yd_X7_placeOf : (yX7_placeOf).cls ≠ "java/lang/invoke/MethodHandle" ∧ (yX7_placeOf).cls ≠ "java/lang/invoke/VarHandle" ∧ (parseMethodDescriptor (yX7_placeOf).desc).map (fun d => d.parameters.length) = some 1 := by decide +kernel
def fn_X7_placeOf (σ : qm_M) (v0 : Int32) : Option (Int32) :=
  if v0 = 0 then some 2 else if v0 = 1 then some 5 else some 6
set_option maxRecDepth 20000 in
theorem wf_X7_placeOf {l : Launch} {E : qm_E} (σ : qm_M) (v0 : Int32) {x : Int32} (h : fn_X7_placeOf σ v0 = some x) {r : Option Value × qm_M} (hT : (fun x r => (some (.int x), σ) = r) x r) : qm_Wp l E kd_X7_placeOf "HungStreamsModel" cX7_placeOf 1 0 [(0, .int v0)] [] σ r := by
  unfold fn_X7_placeOf at h
  refine qr_iload_n dX7_placeOf_0 rfl 0 rfl ?_
  refine qr_if_ne (tgt := 8) dX7_placeOf_1 (by decide) (fun c2 => ?_) (fun c2 => ?_)
  · rw [if_neg c2] at h
    refine qr_iload_n dX7_placeOf_8 rfl 0 rfl ?_
    refine qr_iconst (v := 1) dX7_placeOf_9 (by decide) ?_
    refine qr_icmp_ne (tgt := 17) dX7_placeOf_10 (by decide) (fun c1 => ?_) (fun c1 => ?_)
    · rw [if_neg c1] at h
      refine qr_bipush (v := 6) dX7_placeOf_17 (by decide) ?_
      obtain rfl := Option.some.inj h
      cases hT
      exact qr_iret dX7_placeOf_19
    · rw [if_pos c1] at h
      refine qr_iconst (v := 5) dX7_placeOf_13 (by decide) ?_
      refine qr_goto (tgt := 19) dX7_placeOf_14 (by decide) ?_
      obtain rfl := Option.some.inj h
      cases hT
      exact qr_iret dX7_placeOf_19
  · rw [if_pos c2] at h
    refine qr_iconst (v := 2) dX7_placeOf_4 (by decide) ?_
    refine qr_goto (tgt := 19) dX7_placeOf_5 (by decide) ?_
    obtain rfl := Option.some.inj h
    cases hT
    exact qr_iret dX7_placeOf_19
theorem ct_X7_placeOf {l : Launch} {E : qm_E} (σ : qm_M) (v0 : Int32) {x : Int32} (h : fn_X7_placeOf σ v0 = some x) : qm_Ct l E kd_X7_placeOf yX7_placeOf cX7_placeOf 1 (some .int) [.int v0] σ (some (.int x), σ) := qm_ofWp rfl (Nat.le_of_ble_eq_true rfl) (Or.inl rfl) (wf_X7_placeOf σ v0  h rfl)
-- HungStreamsModel.sets (III)I
abbrev kd_X7_sets : Nat := 3
theorem yd_X7_sets : (yX7_sets).cls ≠ "java/lang/invoke/MethodHandle" ∧ (yX7_sets).cls ≠ "java/lang/invoke/VarHandle" ∧ (parseMethodDescriptor (yX7_sets).desc).map (fun d => d.parameters.length) = some 3 := by decide +kernel
def fn_X7_sets (σ : qm_M) (v1 : Int32) (v2 : Int32) (v3 : Int32) : Option (Int32 × qm_M) :=
  (fn_X7_isStream σ v1).bind (fun r1 => if (qm_b r1) = 0 then (fn_X7_refuses σ (-2)).bind (fun r2 => some (r2.1, r2.2)) else (fn_X7_isSetting σ v2 v3).bind (fun r3 => if (qm_b r3) = 0 then (fn_X7_refuses σ (-2)).bind (fun r9 => some (r9.1, r9.2)) else (fn_X7_keep σ ).bind (fun r4 => (fn_X7_placeOf r4 v2).bind (fun r5 => (fn_X7_its r4 v1 r5).bind (fun r6 => (fn_X7_placeOf r4 v2).bind (fun r7 => (fn_X7_puts r4 v1 r7 v3.toInt64).bind (fun r8 => some (r6.toInt32, r8))))))))
set_option maxRecDepth 20000 in
theorem wf_X7_sets {l : Launch} {E : qm_E} (σ : qm_M) (v1 : Int32) (v2 : Int32) (v3 : Int32) {x : Int32 × qm_M} (h : fn_X7_sets σ v1 v2 v3 = some x) {r : Option Value × qm_M} (hT : (fun x r => (some (.int x.1), x.2) = r) x r) : qm_Wp l E kd_X7_sets "HungStreamsModel" cX7_sets 5 0 [(0, .ref (qm_a E 210)), (1, .int v1), (2, .int v2), (3, .int v3)] [] σ r := by
  unfold fn_X7_sets at h
  refine qr_aload_n dX7_sets_0 rfl 0 rfl ?_
  refine qr_iload_n dX7_sets_1 rfl 1 rfl ?_
  obtain ⟨r1, er1, h⟩ := qm_bind h
  refine qr_call1 (st1 := [.int (qm_b r1)]) rfl (qr_callV (id := 210) (c := 5) (As := [.int v1]) (st := []) rfl (by decide) rfl (ct_X7_isStream (l := l) (E := E) σ v1 er1) qw_692 qw_6 qw_689 qw_691 qs_7 yd_X7_isStream (by decide) (by decide) rfl (Nat.le_of_ble_eq_true rfl) dX7_sets_2) ?_
  refine qr_if_eq (tgt := 16) dX7_sets_5 (by decide) (fun c11 => ?_) (fun c11 => ?_)
  · rw [if_pos c11] at h
    refine qr_aload_n dX7_sets_16 rfl 0 rfl ?_
    refine qr_bipush (v := (-2)) dX7_sets_17 (by decide) ?_
    obtain ⟨r2, er2, h⟩ := qm_bind h
    refine qr_call1 (st1 := [.int r2.1]) rfl (qr_callV (id := 210) (c := 5) (As := [.int (-2)]) (st := []) rfl (by decide) rfl (ct_X7_refuses (l := l) (E := E) σ (-2) er2) qw_701 qw_6 qw_698 qw_700 qs_9 yd_X7_refuses (by decide) (by decide) rfl (Nat.le_of_ble_eq_true rfl) dX7_sets_19) ?_
    obtain rfl := Option.some.inj h
    cases hT
    exact qr_iret dX7_sets_22
  · rw [if_neg c11] at h
    refine qr_iload_n dX7_sets_8 rfl 2 rfl ?_
    refine qr_iload_n dX7_sets_9 rfl 3 rfl ?_
    obtain ⟨r3, er3, h⟩ := qm_bind h
    refine qr_call1 (st1 := [.int (qm_b r3)]) rfl (qr_callS (As := [.int v2, .int v3]) (st := []) (ct_X7_isSetting (l := l) (E := E) σ v2 v3 er3) qw_750 qw_6 qw_748 qw_749 yd_X7_isSetting (by decide) (by decide) rfl (Nat.le_of_ble_eq_true rfl) dX7_sets_10) ?_
    refine qr_if_ne (tgt := 23) dX7_sets_13 (by decide) (fun c10 => ?_) (fun c10 => ?_)
    · rw [if_neg c10] at h
      refine qr_aload_n dX7_sets_23 rfl 0 rfl ?_
      obtain ⟨r4, er4, h⟩ := qm_bind h
      refine qr_call1 (st1 := []) rfl (qr_callV (id := 210) (c := 5) (As := []) (st := []) rfl (by decide) rfl (ct_X7_keep (l := l) (E := E) σ  er4) qw_705 qw_6 qw_702 qw_704 qs_10 yd_X7_keep (by decide) (by decide) rfl (Nat.le_of_ble_eq_true rfl) dX7_sets_24) ?_
      refine qr_aload_n dX7_sets_27 rfl 0 rfl ?_
      refine qr_iload_n dX7_sets_28 rfl 1 rfl ?_
      refine qr_iload_n dX7_sets_29 rfl 2 rfl ?_
      obtain ⟨r5, er5, h⟩ := qm_bind h
      refine qr_call1 (st1 := [.int r5, .int v1, .ref (qm_a E 210)]) rfl (qr_callS (As := [.int v2]) (st := [.int v1, .ref (qm_a E 210)]) (ct_X7_placeOf (l := l) (E := E) r4 v2 er5) qw_754 qw_6 qw_752 qw_753 yd_X7_placeOf (by decide) (by decide) rfl (Nat.le_of_ble_eq_true rfl) dX7_sets_30) ?_
      obtain ⟨r6, er6, h⟩ := qm_bind h
      refine qr_call1 (st1 := [.long r6]) rfl (qr_callV (id := 210) (c := 5) (As := [.int v1, .int r5]) (st := []) rfl (by decide) rfl (ct_X7_its (l := l) (E := E) r4 v1 r5 er6) qw_696 qw_6 qw_693 qw_695 qs_8 yd_X7_its (by decide) (by decide) rfl (Nat.le_of_ble_eq_true rfl) dX7_sets_33) ?_
      refine qr_l2i dX7_sets_36 ?_
      refine qr_istore (lv' := [(4, .int r6.toInt32), (0, .ref (qm_a E 210)), (1, .int v1), (2, .int v2), (3, .int v3)]) dX7_sets_37 (by decide) rfl ?_
      refine qr_aload_n dX7_sets_39 rfl 1 rfl ?_
      refine qr_iload_n dX7_sets_40 rfl 2 rfl ?_
      refine qr_iload_n dX7_sets_41 rfl 3 rfl ?_
      obtain ⟨r7, er7, h⟩ := qm_bind h
      refine qr_call1 (st1 := [.int r7, .int v1, .ref (qm_a E 210)]) rfl (qr_callS (As := [.int v2]) (st := [.int v1, .ref (qm_a E 210)]) (ct_X7_placeOf (l := l) (E := E) r4 v2 er7) qw_754 qw_6 qw_752 qw_753 yd_X7_placeOf (by decide) (by decide) rfl (Nat.le_of_ble_eq_true rfl) dX7_sets_42) ?_
      refine qr_iload_n dX7_sets_45 rfl 4 rfl ?_
      refine qr_i2l dX7_sets_46 ?_
      obtain ⟨r8, er8, h⟩ := qm_bind h
      refine qr_call1 (st1 := []) rfl (qr_callV (id := 210) (c := 5) (As := [.int v1, .int r7, .long v3.toInt64]) (st := []) rfl (by decide) rfl (ct_X7_puts (l := l) (E := E) r4 v1 r7 v3.toInt64 er8) qw_713 qw_6 qw_710 qw_712 qs_12 yd_X7_puts (by decide) (by decide) rfl (Nat.le_of_ble_eq_true rfl) dX7_sets_47) ?_
      refine qr_iload dX7_sets_50 0 rfl ?_
      obtain rfl := Option.some.inj h
      cases hT
      exact qr_iret dX7_sets_52
    · rw [if_pos c10] at h
      refine qr_aload_n dX7_sets_16 rfl 0 rfl ?_
      refine qr_bipush (v := (-2)) dX7_sets_17 (by decide) ?_
      obtain ⟨r9, er9, h⟩ := qm_bind h
      refine qr_call1 (st1 := [.int r9.1]) rfl (qr_callV (id := 210) (c := 5) (As := [.int (-2)]) (st := []) rfl (by decide) rfl (ct_X7_refuses (l := l) (E := E) σ (-2) er9) qw_701 qw_6 qw_698 qw_700 qs_9 yd_X7_refuses (by decide) (by decide) rfl (Nat.le_of_ble_eq_true rfl) dX7_sets_19) ?_
      obtain rfl := Option.some.inj h
      cases hT
      exact qr_iret dX7_sets_22
theorem ct_X7_sets {l : Launch} {E : qm_E} (σ : qm_M) (v1 : Int32) (v2 : Int32) (v3 : Int32) {x : Int32 × qm_M} (h : fn_X7_sets σ v1 v2 v3 = some x) : qm_Ct l E kd_X7_sets yX7_sets cX7_sets 5 (some .int) [.ref (qm_a E 210), .int v1, .int v2, .int v3] σ (some (.int x.1), x.2) := qm_ofWp rfl (Nat.le_of_ble_eq_true rfl) (Or.inl rfl) (wf_X7_sets σ v1 v2 v3  h rfl)
-- HungStreamsModel.there ()I
abbrev kd_X7_there : Nat := 3
theorem yd_X7_there : (yX7_there).cls ≠ "java/lang/invoke/MethodHandle" ∧ (yX7_there).cls ≠ "java/lang/invoke/VarHandle" ∧ (parseMethodDescriptor (yX7_there).desc).map (fun d => d.parameters.length) = some 0 := by decide +kernel
abbrev pp_X7_there_4 (l : Launch) (E : qm_E) (σ : qm_M) : (Int32 × Int32) → Option Value × qm_M → Prop := fun s r => qm_Wp l E kd_X7_there "HungStreamsModel" cX7_there 3 4 [(0, .ref (qm_a E 210)), (1, .int s.1), (2, .int s.2)] [] σ r
def bb_X7_there_4 (σ : qm_M) (v1 : Int32) (v2 : Int32) : Option ((Int32 × Int32) ⊕ (Int32)) :=
  if 12 < v2 then (some v1).bind (fun y => some (.inr y)) else (fn_X7_isStream σ v2).bind (fun r2 => if (qm_b r2) = 0 then (some (v1 ||| 0)).bind (fun z3 => (some (v2 + 1)).bind (fun z4 => some (.inl (z3, z4)))) else (some (v1 ||| (1 <<< (v2 &&& 31)))).bind (fun z5 => (some (v2 + 1)).bind (fun z6 => some (.inl (z5, z6)))))
set_option maxRecDepth 20000 in
theorem wb_X7_there_4 {l : Launch} {E : qm_E} (σ : qm_M) (v1 : Int32) (v2 : Int32) {x : (Int32 × Int32) ⊕ (Int32)} (h : bb_X7_there_4 σ v1 v2 = some x) {r : Option Value × qm_M} (hT : (qm_T (pp_X7_there_4 l E σ) (fun x r => (some (.int x), σ) = r)) x r) : qm_Wp l E kd_X7_there "HungStreamsModel" cX7_there 3 4 [(0, .ref (qm_a E 210)), (1, .int v1), (2, .int v2)] [] σ r := by
  unfold bb_X7_there_4 at h
  refine qr_iload_n dX7_there_4 rfl 2 rfl ?_
  refine qr_bipush (v := 12) dX7_there_5 (by decide) ?_
  refine qr_icmp_gt (tgt := 34) dX7_there_7 (by decide) (fun c8 => ?_) (fun c8 => ?_)
  · rw [if_pos c8] at h
    obtain ⟨y1, h1, hx⟩ := qm_bind h
    clear h
    cases hx
    have h := h1
    refine qr_iload_n dX7_there_34 rfl 1 rfl ?_
    obtain rfl := Option.some.inj h
    cases hT
    exact qr_iret dX7_there_35
  · rw [if_neg c8] at h
    refine qr_iload_n dX7_there_10 rfl 1 rfl ?_
    refine qr_aload_n dX7_there_11 rfl 0 rfl ?_
    refine qr_iload_n dX7_there_12 rfl 2 rfl ?_
    obtain ⟨r2, er2, h⟩ := qm_bind h
    refine qr_call1 (st1 := [.int (qm_b r2), .int v1]) rfl (qr_callV (id := 210) (c := 5) (As := [.int v2]) (st := [.int v1]) rfl (by decide) rfl (ct_X7_isStream (l := l) (E := E) σ v2 er2) qw_692 qw_6 qw_689 qw_691 qs_7 yd_X7_isStream (by decide) (by decide) rfl (Nat.le_of_ble_eq_true rfl) dX7_there_13) ?_
    refine qr_if_eq (tgt := 25) dX7_there_16 (by decide) (fun c7 => ?_) (fun c7 => ?_)
    · rw [if_pos c7] at h
      refine qr_iconst (v := 0) dX7_there_25 (by decide) ?_
      refine qr_ior dX7_there_26 ?_
      obtain ⟨z3, ez3, h⟩ := qm_bind h
      refine qr_eqi (Option.some.inj ez3) ?_
      refine qr_istore_n (lv' := [(1, .int z3), (0, .ref (qm_a E 210)), (2, .int v2)]) dX7_there_27 rfl (by decide) rfl ?_
      obtain ⟨z4, ez4, h⟩ := qm_bind h
      refine qr_iinc (q := 2) (v := z4) (lv' := [(2, .int z4), (1, .int z3), (0, .ref (qm_a E 210))]) dX7_there_28 rfl (Option.some.inj ez4) (by decide) rfl ?_
      refine qr_goto (tgt := 4) dX7_there_31 (by decide) ?_
      obtain rfl := Option.some.inj h
      exact qr_sub [2, 1, 0] rfl hT
    · rw [if_neg c7] at h
      refine qr_iconst (v := 1) dX7_there_19 (by decide) ?_
      refine qr_iload_n dX7_there_20 rfl 2 rfl ?_
      refine qr_ishl dX7_there_21 ?_
      refine qr_goto (tgt := 26) dX7_there_22 (by decide) ?_
      refine qr_ior dX7_there_26 ?_
      obtain ⟨z5, ez5, h⟩ := qm_bind h
      refine qr_eqi (Option.some.inj ez5) ?_
      refine qr_istore_n (lv' := [(1, .int z5), (0, .ref (qm_a E 210)), (2, .int v2)]) dX7_there_27 rfl (by decide) rfl ?_
      obtain ⟨z6, ez6, h⟩ := qm_bind h
      refine qr_iinc (q := 2) (v := z6) (lv' := [(2, .int z6), (1, .int z5), (0, .ref (qm_a E 210))]) dX7_there_28 rfl (Option.some.inj ez6) (by decide) rfl ?_
      refine qr_goto (tgt := 4) dX7_there_31 (by decide) ?_
      obtain rfl := Option.some.inj h
      exact qr_sub [2, 1, 0] rfl hT
def lp_X7_there_4 (σ : qm_M) (v1 : Int32) (v2 : Int32) : Option (Int32) := qm_loop (fun s : Int32 × Int32 => bb_X7_there_4 σ s.1 s.2) 1000 (v1, v2)
theorem wl_X7_there_4 {l : Launch} {E : qm_E} (σ : qm_M) (v1 : Int32) (v2 : Int32) {x : Int32} (h : lp_X7_there_4 σ v1 v2 = some x) {r : Option Value × qm_M} (hT : (fun x r => (some (.int x), σ) = r) x r) : qm_Wp l E kd_X7_there "HungStreamsModel" cX7_there 3 4 [(0, .ref (qm_a E 210)), (1, .int v1), (2, .int v2)] [] σ r :=
  qm_loop_T (P := pp_X7_there_4 l E σ) (T1 := (fun x r => (some (.int x), σ) = r)) (fun s x h r hT => wb_X7_there_4 (l := l) (E := E) σ s.1 s.2  h hT) h hT
def fn_X7_there (σ : qm_M)  : Option (Int32) :=
  lp_X7_there_4 σ 0 1
set_option maxRecDepth 20000 in
theorem wf_X7_there {l : Launch} {E : qm_E} (σ : qm_M)  {x : Int32} (h : fn_X7_there σ  = some x) {r : Option Value × qm_M} (hT : (fun x r => (some (.int x), σ) = r) x r) : qm_Wp l E kd_X7_there "HungStreamsModel" cX7_there 3 0 [(0, .ref (qm_a E 210))] [] σ r := by
  unfold fn_X7_there at h
  refine qr_iconst (v := 0) dX7_there_0 (by decide) ?_
  refine qr_istore_n (lv' := [(1, .int 0), (0, .ref (qm_a E 210))]) dX7_there_1 rfl (by decide) rfl ?_
  refine qr_iconst (v := 1) dX7_there_2 (by decide) ?_
  refine qr_istore_n (lv' := [(2, .int 1), (1, .int 0), (0, .ref (qm_a E 210))]) dX7_there_3 rfl (by decide) rfl ?_
  exact qr_sub [2, 1, 0] rfl (wl_X7_there_4 (l := l) (E := E) σ 0 1 h hT)
theorem ct_X7_there {l : Launch} {E : qm_E} (σ : qm_M)  {x : Int32} (h : fn_X7_there σ  = some x) : qm_Ct l E kd_X7_there yX7_there cX7_there 3 (some .int) [.ref (qm_a E 210)] σ (some (.int x), σ) := qm_ofWp rfl (Nat.le_of_ble_eq_true rfl) (Or.inl rfl) (wf_X7_there σ   h rfl)
-- HungStreamsModel.size (I)I
abbrev kd_X7_size : Nat := 1
theorem yd_X7_size : (yX7_size).cls ≠ "java/lang/invoke/MethodHandle" ∧ (yX7_size).cls ≠ "java/lang/invoke/VarHandle" ∧ (parseMethodDescriptor (yX7_size).desc).map (fun d => d.parameters.length) = some 1 := by decide +kernel
abbrev pp_X7_size_4 (l : Launch) (E : qm_E) (σ : qm_M) (v0 : Int32) : (Int32 × Int32) → Option Value × qm_M → Prop := fun s r => qm_Wp l E kd_X7_size "HungStreamsModel" cX7_size 3 4 [(0, .int v0), (1, .int s.1), (2, .int s.2)] [] σ r
def bb_X7_size_4 (σ : qm_M) (v0 : Int32) (v1 : Int32) (v2 : Int32) : Option ((Int32 × Int32) ⊕ (Int32)) :=
  if 12 < v2 then (some v1).bind (fun y => some (.inr y)) else (some (v1 + ((v0 >>> (v2 &&& 31)) &&& 1))).bind (fun z2 => (some (v2 + 1)).bind (fun z3 => some (.inl (z2, z3))))
set_option maxRecDepth 20000 in
theorem wb_X7_size_4 {l : Launch} {E : qm_E} (σ : qm_M) (v0 : Int32) (v1 : Int32) (v2 : Int32) {x : (Int32 × Int32) ⊕ (Int32)} (h : bb_X7_size_4 σ v0 v1 v2 = some x) {r : Option Value × qm_M} (hT : (qm_T (pp_X7_size_4 l E σ v0) (fun x r => (some (.int x), σ) = r)) x r) : qm_Wp l E kd_X7_size "HungStreamsModel" cX7_size 3 4 [(0, .int v0), (1, .int v1), (2, .int v2)] [] σ r := by
  unfold bb_X7_size_4 at h
  refine qr_iload_n dX7_size_4 rfl 2 rfl ?_
  refine qr_bipush (v := 12) dX7_size_5 (by decide) ?_
  refine qr_icmp_gt (tgt := 24) dX7_size_7 (by decide) (fun c4 => ?_) (fun c4 => ?_)
  · rw [if_pos c4] at h
    obtain ⟨y1, h1, hx⟩ := qm_bind h
    clear h
    cases hx
    have h := h1
    refine qr_iload_n dX7_size_24 rfl 1 rfl ?_
    obtain rfl := Option.some.inj h
    cases hT
    exact qr_iret dX7_size_25
  · rw [if_neg c4] at h
    refine qr_iload_n dX7_size_10 rfl 1 rfl ?_
    refine qr_iload_n dX7_size_11 rfl 0 rfl ?_
    refine qr_iload_n dX7_size_12 rfl 2 rfl ?_
    refine qr_ishr dX7_size_13 ?_
    refine qr_iconst (v := 1) dX7_size_14 (by decide) ?_
    refine qr_iand dX7_size_15 ?_
    refine qr_iadd dX7_size_16 ?_
    obtain ⟨z2, ez2, h⟩ := qm_bind h
    refine qr_eqi (Option.some.inj ez2) ?_
    refine qr_istore_n (lv' := [(1, .int z2), (0, .int v0), (2, .int v2)]) dX7_size_17 rfl (by decide) rfl ?_
    obtain ⟨z3, ez3, h⟩ := qm_bind h
    refine qr_iinc (q := 2) (v := z3) (lv' := [(2, .int z3), (1, .int z2), (0, .int v0)]) dX7_size_18 rfl (Option.some.inj ez3) (by decide) rfl ?_
    refine qr_goto (tgt := 4) dX7_size_21 (by decide) ?_
    obtain rfl := Option.some.inj h
    exact qr_sub [2, 1, 0] rfl hT
def lp_X7_size_4 (σ : qm_M) (v0 : Int32) (v1 : Int32) (v2 : Int32) : Option (Int32) := qm_loop (fun s : Int32 × Int32 => bb_X7_size_4 σ v0 s.1 s.2) 1000 (v1, v2)
theorem wl_X7_size_4 {l : Launch} {E : qm_E} (σ : qm_M) (v0 : Int32) (v1 : Int32) (v2 : Int32) {x : Int32} (h : lp_X7_size_4 σ v0 v1 v2 = some x) {r : Option Value × qm_M} (hT : (fun x r => (some (.int x), σ) = r) x r) : qm_Wp l E kd_X7_size "HungStreamsModel" cX7_size 3 4 [(0, .int v0), (1, .int v1), (2, .int v2)] [] σ r :=
  qm_loop_T (P := pp_X7_size_4 l E σ v0) (T1 := (fun x r => (some (.int x), σ) = r)) (fun s x h r hT => wb_X7_size_4 (l := l) (E := E) σ v0 s.1 s.2  h hT) h hT
def fn_X7_size (σ : qm_M) (v0 : Int32) : Option (Int32) :=
  lp_X7_size_4 σ v0 0 0
set_option maxRecDepth 20000 in
theorem wf_X7_size {l : Launch} {E : qm_E} (σ : qm_M) (v0 : Int32) {x : Int32} (h : fn_X7_size σ v0 = some x) {r : Option Value × qm_M} (hT : (fun x r => (some (.int x), σ) = r) x r) : qm_Wp l E kd_X7_size "HungStreamsModel" cX7_size 3 0 [(0, .int v0)] [] σ r := by
  unfold fn_X7_size at h
  refine qr_iconst (v := 0) dX7_size_0 (by decide) ?_
  refine qr_istore_n (lv' := [(1, .int 0), (0, .int v0)]) dX7_size_1 rfl (by decide) rfl ?_
  refine qr_iconst (v := 0) dX7_size_2 (by decide) ?_
  refine qr_istore_n (lv' := [(2, .int 0), (1, .int 0), (0, .int v0)]) dX7_size_3 rfl (by decide) rfl ?_
  exact qr_sub [2, 1, 0] rfl (wl_X7_size_4 (l := l) (E := E) σ v0 0 0 h hT)
theorem ct_X7_size {l : Launch} {E : qm_E} (σ : qm_M) (v0 : Int32) {x : Int32} (h : fn_X7_size σ v0 = some x) : qm_Ct l E kd_X7_size yX7_size cX7_size 3 (some .int) [.int v0] σ (some (.int x), σ) := qm_ofWp rfl (Nat.le_of_ble_eq_true rfl) (Or.inl rfl) (wf_X7_size σ v0  h rfl)
-- HungStreamsModel.goes (I)V
abbrev kd_X7_goes : Nat := 4
theorem yd_X7_goes : (yX7_goes).cls ≠ "java/lang/invoke/MethodHandle" ∧ (yX7_goes).cls ≠ "java/lang/invoke/VarHandle" ∧ (parseMethodDescriptor (yX7_goes).desc).map (fun d => d.parameters.length) = some 1 := by decide +kernel
abbrev pp_X7_goes_5 (l : Launch) (E : qm_E) (σ : qm_M) (v1 : Int32) : (Int64 × Int32) → Option Value × qm_M → Prop := fun s r => qm_Wp l E kd_X7_goes "HungStreamsModel" cX7_goes 7 5 [(0, .ref (qm_a E 210)), (1, .int v1), (2, .long s.1), (4, .int s.2)] [] σ r
abbrev pp_X7_goes_45 (l : Launch) (E : qm_E) (v1 : Int32) (v2 : Int64) : (Int32 × qm_M) → Option Value × qm_M → Prop := fun s r => qm_Wp l E kd_X7_goes "HungStreamsModel" cX7_goes 7 45 [(0, .ref (qm_a E 210)), (1, .int v1), (2, .long v2), (4, .int s.1)] [] s.2 r
def bb_X7_goes_97 (σ : qm_M) (v1 : Int32) (v2 : Int64) (v4 : Int32) (k0 : Int64) (k1 : Int32) (k2 : Int32) : Option ((Int32 × qm_M) ⊕ (qm_M)) :=
  (fn_X7_puts σ k2 k1 k0).bind (fun r9 => (fn_X7_parent r9 v1).bind (fun r10 => (fn_X7_hangs r9 v4 r10).bind (fun r11 => (some (v4 + 1)).bind (fun z12 => some (.inl (z12, r11))))))
set_option maxRecDepth 20000 in
theorem wb_X7_goes_97 {l : Launch} {E : qm_E} (σ : qm_M) (v1 : Int32) (v2 : Int64) (v4 : Int32) (k0 : Int64) (k1 : Int32) (k2 : Int32) {x : (Int32 × qm_M) ⊕ (qm_M)} (h : bb_X7_goes_97 σ v1 v2 v4 k0 k1 k2 = some x) {r : Option Value × qm_M} (hT : (qm_T (pp_X7_goes_45 l E v1 v2) (fun x r => (none, x) = r)) x r) : qm_Wp l E kd_X7_goes "HungStreamsModel" cX7_goes 7 97 [(0, .ref (qm_a E 210)), (1, .int v1), (2, .long v2), (4, .int v4)] [.long k0, .int k1, .int k2, .ref (qm_a E 210)] σ r := by
  unfold bb_X7_goes_97 at h
  obtain ⟨r9, er9, h⟩ := qm_bind h
  refine qr_call1 (st1 := []) rfl (qr_callV (id := 210) (c := 5) (As := [.int k2, .int k1, .long k0]) (st := []) rfl (by decide) rfl (ct_X7_puts (l := l) (E := E) σ k2 k1 k0 er9) qw_713 qw_6 qw_710 qw_712 qs_12 yd_X7_puts (by decide) (by decide) rfl (Nat.le_of_ble_eq_true rfl) dX7_goes_97) ?_
  refine qr_aload_n dX7_goes_100 rfl 0 rfl ?_
  refine qr_iload dX7_goes_101 3 rfl ?_
  refine qr_aload_n dX7_goes_103 rfl 0 rfl ?_
  refine qr_iload_n dX7_goes_104 rfl 1 rfl ?_
  obtain ⟨r10, er10, h⟩ := qm_bind h
  refine qr_call1 (st1 := [.int r10, .int v4, .ref (qm_a E 210)]) rfl (qr_callV (id := 210) (c := 5) (As := [.int v1]) (st := [.int v4, .ref (qm_a E 210)]) rfl (by decide) rfl (ct_X7_parent (l := l) (E := E) r9 v1 er10) qw_727 qw_6 qw_724 qw_726 qs_15 yd_X7_parent (by decide) (by decide) rfl (Nat.le_of_ble_eq_true rfl) dX7_goes_105) ?_
  obtain ⟨r11, er11, h⟩ := qm_bind h
  refine qr_call1 (st1 := []) rfl (qr_callV (id := 210) (c := 5) (As := [.int v4, .int r10]) (st := []) rfl (by decide) rfl (ct_X7_hangs (l := l) (E := E) r9 v4 r10 er11) qw_731 qw_6 qw_728 qw_730 qs_16 yd_X7_hangs (by decide) (by decide) rfl (Nat.le_of_ble_eq_true rfl) dX7_goes_108) ?_
  obtain ⟨z12, ez12, h⟩ := qm_bind h
  refine qr_iinc (q := 3) (v := z12) (lv' := [(4, .int z12), (0, .ref (qm_a E 210)), (1, .int v1), (2, .long v2)]) dX7_goes_111 rfl (Option.some.inj ez12) (by decide) rfl ?_
  refine qr_goto (tgt := 45) dX7_goes_114 (by decide) ?_
  obtain rfl := Option.some.inj h
  exact qr_sub [1, 2, 3, 0] rfl hT
def bb_X7_goes_45 (σ : qm_M) (v1 : Int32) (v2 : Int64) (v4 : Int32) : Option ((Int32 × qm_M) ⊕ (qm_M)) :=
  if 12 < v4 then ((fn_X7_puts σ v1 0 0).bind (fun r1 => some r1)).bind (fun y => some (.inr y)) else (fn_X7_isChild σ v4 v1).bind (fun r3 => if (qm_b r3) = 0 then (some (v4 + 1)).bind (fun z4 => some (.inl (z4, σ))) else (fn_X7_its σ v4 2).bind (fun r5 => (fn_X7_its σ v1 2).bind (fun r6 => if ¬ v2 = 0 then (some ((r5 * r6) / v2)).bind (fun z8 => if 0 ≤ (lg_cmp z8 1) then bb_X7_goes_97 σ v1 v2 v4 z8 2 v4 else bb_X7_goes_97 σ v1 v2 v4 1 2 v4) else none)))
set_option maxRecDepth 20000 in
theorem wb_X7_goes_45 {l : Launch} {E : qm_E} (σ : qm_M) (v1 : Int32) (v2 : Int64) (v4 : Int32) {x : (Int32 × qm_M) ⊕ (qm_M)} (h : bb_X7_goes_45 σ v1 v2 v4 = some x) {r : Option Value × qm_M} (hT : (qm_T (pp_X7_goes_45 l E v1 v2) (fun x r => (none, x) = r)) x r) : qm_Wp l E kd_X7_goes "HungStreamsModel" cX7_goes 7 45 [(0, .ref (qm_a E 210)), (1, .int v1), (2, .long v2), (4, .int v4)] [] σ r := by
  unfold bb_X7_goes_45 at h
  refine qr_iload dX7_goes_45 3 rfl ?_
  refine qr_bipush (v := 12) dX7_goes_47 (by decide) ?_
  refine qr_icmp_gt (tgt := 117) dX7_goes_49 (by decide) (fun c15 => ?_) (fun c15 => ?_)
  · rw [if_pos c15] at h
    obtain ⟨y2, h1, hx⟩ := qm_bind h
    clear h
    cases hx
    have h := h1
    refine qr_aload_n dX7_goes_117 rfl 0 rfl ?_
    refine qr_iload_n dX7_goes_118 rfl 1 rfl ?_
    refine qr_iconst (v := 0) dX7_goes_119 (by decide) ?_
    refine qr_lconst (v := 0) dX7_goes_120 (by decide) ?_
    obtain ⟨r1, er1, h⟩ := qm_bind h
    refine qr_call1 (st1 := []) rfl (qr_callV (id := 210) (c := 5) (As := [.int v1, .int 0, .long 0]) (st := []) rfl (by decide) rfl (ct_X7_puts (l := l) (E := E) σ v1 0 0 er1) qw_713 qw_6 qw_710 qw_712 qs_12 yd_X7_puts (by decide) (by decide) rfl (Nat.le_of_ble_eq_true rfl) dX7_goes_121) ?_
    obtain rfl := Option.some.inj h
    cases hT
    exact qr_vret dX7_goes_124
  · rw [if_neg c15] at h
    refine qr_aload_n dX7_goes_52 rfl 0 rfl ?_
    refine qr_iload dX7_goes_53 3 rfl ?_
    refine qr_iload_n dX7_goes_55 rfl 1 rfl ?_
    obtain ⟨r3, er3, h⟩ := qm_bind h
    refine qr_call1 (st1 := [.int (qm_b r3)]) rfl (qr_callV (id := 210) (c := 5) (As := [.int v4, .int v1]) (st := []) rfl (by decide) rfl (ct_X7_isChild (l := l) (E := E) σ v4 v1 er3) qw_723 qw_6 qw_720 qw_722 qs_14 yd_X7_isChild (by decide) (by decide) rfl (Nat.le_of_ble_eq_true rfl) dX7_goes_56) ?_
    refine qr_if_eq (tgt := 111) dX7_goes_59 (by decide) (fun c14 => ?_) (fun c14 => ?_)
    · rw [if_pos c14] at h
      obtain ⟨z4, ez4, h⟩ := qm_bind h
      refine qr_iinc (q := 3) (v := z4) (lv' := [(4, .int z4), (0, .ref (qm_a E 210)), (1, .int v1), (2, .long v2)]) dX7_goes_111 rfl (Option.some.inj ez4) (by decide) rfl ?_
      refine qr_goto (tgt := 45) dX7_goes_114 (by decide) ?_
      obtain rfl := Option.some.inj h
      exact qr_sub [1, 2, 3, 0] rfl hT
    · rw [if_neg c14] at h
      refine qr_aload_n dX7_goes_62 rfl 0 rfl ?_
      refine qr_iload dX7_goes_63 3 rfl ?_
      refine qr_iconst (v := 2) dX7_goes_65 (by decide) ?_
      obtain ⟨r5, er5, h⟩ := qm_bind h
      refine qr_call1 (st1 := [.long r5]) rfl (qr_callV (id := 210) (c := 5) (As := [.int v4, .int 2]) (st := []) rfl (by decide) rfl (ct_X7_its (l := l) (E := E) σ v4 2 er5) qw_696 qw_6 qw_693 qw_695 qs_8 yd_X7_its (by decide) (by decide) rfl (Nat.le_of_ble_eq_true rfl) dX7_goes_66) ?_
      refine qr_aload_n dX7_goes_69 rfl 0 rfl ?_
      refine qr_iload_n dX7_goes_70 rfl 1 rfl ?_
      refine qr_iconst (v := 2) dX7_goes_71 (by decide) ?_
      obtain ⟨r6, er6, h⟩ := qm_bind h
      refine qr_call1 (st1 := [.long r6, .long r5]) rfl (qr_callV (id := 210) (c := 5) (As := [.int v1, .int 2]) (st := [.long r5]) rfl (by decide) rfl (ct_X7_its (l := l) (E := E) σ v1 2 er6) qw_696 qw_6 qw_693 qw_695 qs_8 yd_X7_its (by decide) (by decide) rfl (Nat.le_of_ble_eq_true rfl) dX7_goes_72) ?_
      refine qr_lmul dX7_goes_75 ?_
      refine qr_lload_n dX7_goes_76 rfl 2 rfl ?_
      obtain ⟨c7, h⟩ := qm_chk h
      refine qr_ldiv dX7_goes_77 c7 ?_
      obtain ⟨z8, ez8, h⟩ := qm_bind h
      refine qr_eqj (Option.some.inj ez8) ?_
      refine qr_lstore (lv' := [(5, .long z8), (0, .ref (qm_a E 210)), (1, .int v1), (2, .long v2), (4, .int v4)]) dX7_goes_78 (by decide) rfl ?_
      refine qr_aload_n dX7_goes_80 rfl 1 rfl ?_
      refine qr_iload dX7_goes_81 4 rfl ?_
      refine qr_iconst (v := 2) dX7_goes_83 (by decide) ?_
      refine qr_lload dX7_goes_84 0 rfl ?_
      refine qr_lconst (v := 1) dX7_goes_86 (by decide) ?_
      refine qr_lcmp dX7_goes_87 ?_
      refine qr_if_ge (tgt := 95) dX7_goes_88 (by decide) (fun c13 => ?_) (fun c13 => ?_)
      · rw [if_pos c13] at h
        refine qr_lload dX7_goes_95 0 rfl ?_
        exact qr_sub [1, 2, 3, 4] rfl (wb_X7_goes_97 (l := l) (E := E) σ v1 v2 v4 z8 2 v4 h hT)
      · rw [if_neg c13] at h
        refine qr_lconst (v := 1) dX7_goes_91 (by decide) ?_
        refine qr_goto (tgt := 97) dX7_goes_92 (by decide) ?_
        exact qr_sub [1, 2, 3, 4] rfl (wb_X7_goes_97 (l := l) (E := E) σ v1 v2 v4 1 2 v4 h hT)
def lp_X7_goes_45 (σ : qm_M) (v1 : Int32) (v2 : Int64) (v4 : Int32) : Option (qm_M) := qm_loop (fun s : Int32 × qm_M => bb_X7_goes_45 s.2 v1 v2 s.1) 1000 (v4, σ)
theorem wl_X7_goes_45 {l : Launch} {E : qm_E} (σ : qm_M) (v1 : Int32) (v2 : Int64) (v4 : Int32) {x : qm_M} (h : lp_X7_goes_45 σ v1 v2 v4 = some x) {r : Option Value × qm_M} (hT : (fun x r => (none, x) = r) x r) : qm_Wp l E kd_X7_goes "HungStreamsModel" cX7_goes 7 45 [(0, .ref (qm_a E 210)), (1, .int v1), (2, .long v2), (4, .int v4)] [] σ r :=
  qm_loop_T (P := pp_X7_goes_45 l E v1 v2) (T1 := (fun x r => (none, x) = r)) (fun s x h r hT => wb_X7_goes_45 (l := l) (E := E) s.2 v1 v2 s.1  h hT) h hT
def bb_X7_goes_5 (σ : qm_M) (v1 : Int32) (v2 : Int64) (v4 : Int32) : Option ((Int64 × Int32) ⊕ (qm_M)) :=
  if 12 < v4 then (lp_X7_goes_45 σ v1 v2 1).bind (fun y => some (.inr y)) else (fn_X7_isChild σ v4 v1).bind (fun r17 => if (qm_b r17) = 0 then (some (v2 + 0)).bind (fun z18 => (some (v4 + 1)).bind (fun z19 => some (.inl (z18, z19)))) else (fn_X7_its σ v4 2).bind (fun r20 => (some (v2 + r20)).bind (fun z21 => (some (v4 + 1)).bind (fun z22 => some (.inl (z21, z22))))))
set_option maxRecDepth 20000 in
theorem wb_X7_goes_5 {l : Launch} {E : qm_E} (σ : qm_M) (v1 : Int32) (v2 : Int64) (v4 : Int32) {x : (Int64 × Int32) ⊕ (qm_M)} (h : bb_X7_goes_5 σ v1 v2 v4 = some x) {r : Option Value × qm_M} (hT : (qm_T (pp_X7_goes_5 l E σ v1) (fun x r => (none, x) = r)) x r) : qm_Wp l E kd_X7_goes "HungStreamsModel" cX7_goes 7 5 [(0, .ref (qm_a E 210)), (1, .int v1), (2, .long v2), (4, .int v4)] [] σ r := by
  unfold bb_X7_goes_5 at h
  refine qr_iload dX7_goes_5 3 rfl ?_
  refine qr_bipush (v := 12) dX7_goes_7 (by decide) ?_
  refine qr_icmp_gt (tgt := 42) dX7_goes_9 (by decide) (fun c24 => ?_) (fun c24 => ?_)
  · rw [if_pos c24] at h
    obtain ⟨y16, h1, hx⟩ := qm_bind h
    clear h
    cases hx
    have h := h1
    refine qr_iconst (v := 1) dX7_goes_42 (by decide) ?_
    refine qr_istore (lv' := [(4, .int 1), (0, .ref (qm_a E 210)), (1, .int v1), (2, .long v2)]) dX7_goes_43 (by decide) rfl ?_
    exact qr_sub [1, 2, 3, 0] rfl (wl_X7_goes_45 (l := l) (E := E) σ v1 v2 1 h hT)
  · rw [if_neg c24] at h
    refine qr_lload_n dX7_goes_12 rfl 2 rfl ?_
    refine qr_aload_n dX7_goes_13 rfl 0 rfl ?_
    refine qr_iload dX7_goes_14 3 rfl ?_
    refine qr_iload_n dX7_goes_16 rfl 1 rfl ?_
    obtain ⟨r17, er17, h⟩ := qm_bind h
    refine qr_call1 (st1 := [.int (qm_b r17), .long v2]) rfl (qr_callV (id := 210) (c := 5) (As := [.int v4, .int v1]) (st := [.long v2]) rfl (by decide) rfl (ct_X7_isChild (l := l) (E := E) σ v4 v1 er17) qw_723 qw_6 qw_720 qw_722 qs_14 yd_X7_isChild (by decide) (by decide) rfl (Nat.le_of_ble_eq_true rfl) dX7_goes_17) ?_
    refine qr_if_eq (tgt := 33) dX7_goes_20 (by decide) (fun c23 => ?_) (fun c23 => ?_)
    · rw [if_pos c23] at h
      refine qr_lconst (v := 0) dX7_goes_33 (by decide) ?_
      refine qr_ladd dX7_goes_34 ?_
      obtain ⟨z18, ez18, h⟩ := qm_bind h
      refine qr_eqj (Option.some.inj ez18) ?_
      refine qr_lstore_n (lv' := [(2, .long z18), (0, .ref (qm_a E 210)), (1, .int v1), (4, .int v4)]) dX7_goes_35 rfl (by decide) rfl ?_
      obtain ⟨z19, ez19, h⟩ := qm_bind h
      refine qr_iinc (q := 3) (v := z19) (lv' := [(4, .int z19), (2, .long z18), (0, .ref (qm_a E 210)), (1, .int v1)]) dX7_goes_36 rfl (Option.some.inj ez19) (by decide) rfl ?_
      refine qr_goto (tgt := 5) dX7_goes_39 (by decide) ?_
      obtain rfl := Option.some.inj h
      exact qr_sub [2, 3, 1, 0] rfl hT
    · rw [if_neg c23] at h
      refine qr_aload_n dX7_goes_23 rfl 0 rfl ?_
      refine qr_iload dX7_goes_24 3 rfl ?_
      refine qr_iconst (v := 2) dX7_goes_26 (by decide) ?_
      obtain ⟨r20, er20, h⟩ := qm_bind h
      refine qr_call1 (st1 := [.long r20, .long v2]) rfl (qr_callV (id := 210) (c := 5) (As := [.int v4, .int 2]) (st := [.long v2]) rfl (by decide) rfl (ct_X7_its (l := l) (E := E) σ v4 2 er20) qw_696 qw_6 qw_693 qw_695 qs_8 yd_X7_its (by decide) (by decide) rfl (Nat.le_of_ble_eq_true rfl) dX7_goes_27) ?_
      refine qr_goto (tgt := 34) dX7_goes_30 (by decide) ?_
      refine qr_ladd dX7_goes_34 ?_
      obtain ⟨z21, ez21, h⟩ := qm_bind h
      refine qr_eqj (Option.some.inj ez21) ?_
      refine qr_lstore_n (lv' := [(2, .long z21), (0, .ref (qm_a E 210)), (1, .int v1), (4, .int v4)]) dX7_goes_35 rfl (by decide) rfl ?_
      obtain ⟨z22, ez22, h⟩ := qm_bind h
      refine qr_iinc (q := 3) (v := z22) (lv' := [(4, .int z22), (2, .long z21), (0, .ref (qm_a E 210)), (1, .int v1)]) dX7_goes_36 rfl (Option.some.inj ez22) (by decide) rfl ?_
      refine qr_goto (tgt := 5) dX7_goes_39 (by decide) ?_
      obtain rfl := Option.some.inj h
      exact qr_sub [2, 3, 1, 0] rfl hT
def lp_X7_goes_5 (σ : qm_M) (v1 : Int32) (v2 : Int64) (v4 : Int32) : Option (qm_M) := qm_loop (fun s : Int64 × Int32 => bb_X7_goes_5 σ v1 s.1 s.2) 1000 (v2, v4)
theorem wl_X7_goes_5 {l : Launch} {E : qm_E} (σ : qm_M) (v1 : Int32) (v2 : Int64) (v4 : Int32) {x : qm_M} (h : lp_X7_goes_5 σ v1 v2 v4 = some x) {r : Option Value × qm_M} (hT : (fun x r => (none, x) = r) x r) : qm_Wp l E kd_X7_goes "HungStreamsModel" cX7_goes 7 5 [(0, .ref (qm_a E 210)), (1, .int v1), (2, .long v2), (4, .int v4)] [] σ r :=
  qm_loop_T (P := pp_X7_goes_5 l E σ v1) (T1 := (fun x r => (none, x) = r)) (fun s x h r hT => wb_X7_goes_5 (l := l) (E := E) σ v1 s.1 s.2  h hT) h hT
def fn_X7_goes (σ : qm_M) (v1 : Int32) : Option (qm_M) :=
  lp_X7_goes_5 σ v1 0 1
set_option maxRecDepth 20000 in
theorem wf_X7_goes {l : Launch} {E : qm_E} (σ : qm_M) (v1 : Int32) {x : qm_M} (h : fn_X7_goes σ v1 = some x) {r : Option Value × qm_M} (hT : (fun x r => (none, x) = r) x r) : qm_Wp l E kd_X7_goes "HungStreamsModel" cX7_goes 7 0 [(0, .ref (qm_a E 210)), (1, .int v1)] [] σ r := by
  unfold fn_X7_goes at h
  refine qr_lconst (v := 0) dX7_goes_0 (by decide) ?_
  refine qr_lstore_n (lv' := [(2, .long 0), (0, .ref (qm_a E 210)), (1, .int v1)]) dX7_goes_1 rfl (by decide) rfl ?_
  refine qr_iconst (v := 1) dX7_goes_2 (by decide) ?_
  refine qr_istore (lv' := [(4, .int 1), (2, .long 0), (0, .ref (qm_a E 210)), (1, .int v1)]) dX7_goes_3 (by decide) rfl ?_
  exact qr_sub [2, 3, 1, 0] rfl (wl_X7_goes_5 (l := l) (E := E) σ v1 0 1 h hT)
theorem ct_X7_goes {l : Launch} {E : qm_E} (σ : qm_M) (v1 : Int32) {x : qm_M} (h : fn_X7_goes σ v1 = some x) : qm_Ct l E kd_X7_goes yX7_goes cX7_goes 7 none [.ref (qm_a E 210), .int v1] σ (none, x) := qm_ofWp rfl (Nat.le_of_ble_eq_true rfl) (rfl) (wf_X7_goes σ v1  h rfl)
-- HungStreamsModel.goesAll ()V
abbrev kd_X7_goesAll : Nat := 5
theorem yd_X7_goesAll : (yX7_goesAll).cls ≠ "java/lang/invoke/MethodHandle" ∧ (yX7_goesAll).cls ≠ "java/lang/invoke/VarHandle" ∧ (parseMethodDescriptor (yX7_goesAll).desc).map (fun d => d.parameters.length) = some 0 := by decide +kernel
abbrev pp_X7_goesAll_2 (l : Launch) (E : qm_E) : (Int32 × qm_M) → Option Value × qm_M → Prop := fun s r => qm_Wp l E kd_X7_goesAll "HungStreamsModel" cX7_goesAll 2 2 [(0, .ref (qm_a E 210)), (1, .int s.1)] [] s.2 r
def bb_X7_goesAll_2 (σ : qm_M) (v1 : Int32) : Option ((Int32 × qm_M) ⊕ (qm_M)) :=
  if 12 < v1 then (some σ).bind (fun y => some (.inr y)) else (fn_X7_isStream σ v1).bind (fun r2 => if (qm_b r2) = 0 then (some (v1 + 1)).bind (fun z3 => some (.inl (z3, σ))) else (fn_X7_its σ v1 7).bind (fun r4 => if (lg_cmp r4 0) = 0 then (fn_X7_its σ v1 8).bind (fun r6 => if (lg_cmp r6 (σ.2 211 (210 : Int32).toNatClampNeg)) < 0 then (some (v1 + 1)).bind (fun z8 => some (.inl (z8, σ))) else (fn_X7_goes σ v1).bind (fun r9 => (some (v1 + 1)).bind (fun z10 => some (.inl (z10, r9))))) else (some (v1 + 1)).bind (fun z5 => some (.inl (z5, σ)))))
set_option maxRecDepth 20000 in
theorem wb_X7_goesAll_2 {l : Launch} {E : qm_E} (σ : qm_M) (v1 : Int32) {x : (Int32 × qm_M) ⊕ (qm_M)} (h : bb_X7_goesAll_2 σ v1 = some x) {r : Option Value × qm_M} (hT : (qm_T (pp_X7_goesAll_2 l E) (fun x r => (none, x) = r)) x r) : qm_Wp l E kd_X7_goesAll "HungStreamsModel" cX7_goesAll 2 2 [(0, .ref (qm_a E 210)), (1, .int v1)] [] σ r := by
  unfold bb_X7_goesAll_2 at h
  refine qr_iload_n dX7_goesAll_2 rfl 1 rfl ?_
  refine qr_bipush (v := 12) dX7_goesAll_3 (by decide) ?_
  refine qr_icmp_gt (tgt := 58) dX7_goesAll_5 (by decide) (fun c14 => ?_) (fun c14 => ?_)
  · rw [if_pos c14] at h
    obtain ⟨y1, h1, hx⟩ := qm_bind h
    clear h
    cases hx
    have h := h1
    obtain rfl := Option.some.inj h
    cases hT
    exact qr_vret dX7_goesAll_58
  · rw [if_neg c14] at h
    refine qr_aload_n dX7_goesAll_8 rfl 0 rfl ?_
    refine qr_iload_n dX7_goesAll_9 rfl 1 rfl ?_
    obtain ⟨r2, er2, h⟩ := qm_bind h
    refine qr_call1 (st1 := [.int (qm_b r2)]) rfl (qr_callV (id := 210) (c := 5) (As := [.int v1]) (st := []) rfl (by decide) rfl (ct_X7_isStream (l := l) (E := E) σ v1 er2) qw_692 qw_6 qw_689 qw_691 qs_7 yd_X7_isStream (by decide) (by decide) rfl (Nat.le_of_ble_eq_true rfl) dX7_goesAll_10) ?_
    refine qr_if_eq (tgt := 52) dX7_goesAll_13 (by decide) (fun c13 => ?_) (fun c13 => ?_)
    · rw [if_pos c13] at h
      obtain ⟨z3, ez3, h⟩ := qm_bind h
      refine qr_iinc (q := 1) (v := z3) (lv' := [(1, .int z3), (0, .ref (qm_a E 210))]) dX7_goesAll_52 rfl (Option.some.inj ez3) (by decide) rfl ?_
      refine qr_goto (tgt := 2) dX7_goesAll_55 (by decide) ?_
      obtain rfl := Option.some.inj h
      exact qr_sub [1, 0] rfl hT
    · rw [if_neg c13] at h
      refine qr_aload_n dX7_goesAll_16 rfl 0 rfl ?_
      refine qr_iload_n dX7_goesAll_17 rfl 1 rfl ?_
      refine qr_bipush (v := 7) dX7_goesAll_18 (by decide) ?_
      obtain ⟨r4, er4, h⟩ := qm_bind h
      refine qr_call1 (st1 := [.long r4]) rfl (qr_callV (id := 210) (c := 5) (As := [.int v1, .int 7]) (st := []) rfl (by decide) rfl (ct_X7_its (l := l) (E := E) σ v1 7 er4) qw_696 qw_6 qw_693 qw_695 qs_8 yd_X7_its (by decide) (by decide) rfl (Nat.le_of_ble_eq_true rfl) dX7_goesAll_20) ?_
      refine qr_lconst (v := 0) dX7_goesAll_23 (by decide) ?_
      refine qr_lcmp dX7_goesAll_24 ?_
      refine qr_if_ne (tgt := 52) dX7_goesAll_25 (by decide) (fun c12 => ?_) (fun c12 => ?_)
      · rw [if_neg c12] at h
        obtain ⟨z5, ez5, h⟩ := qm_bind h
        refine qr_iinc (q := 1) (v := z5) (lv' := [(1, .int z5), (0, .ref (qm_a E 210))]) dX7_goesAll_52 rfl (Option.some.inj ez5) (by decide) rfl ?_
        refine qr_goto (tgt := 2) dX7_goesAll_55 (by decide) ?_
        obtain rfl := Option.some.inj h
        exact qr_sub [1, 0] rfl hT
      · rw [if_pos c12] at h
        refine qr_aload_n dX7_goesAll_28 rfl 0 rfl ?_
        refine qr_iload_n dX7_goesAll_29 rfl 1 rfl ?_
        refine qr_bipush (v := 8) dX7_goesAll_30 (by decide) ?_
        obtain ⟨r6, er6, h⟩ := qm_bind h
        refine qr_call1 (st1 := [.long r6]) rfl (qr_callV (id := 210) (c := 5) (As := [.int v1, .int 8]) (st := []) rfl (by decide) rfl (ct_X7_its (l := l) (E := E) σ v1 8 er6) qw_696 qw_6 qw_693 qw_695 qs_8 yd_X7_its (by decide) (by decide) rfl (Nat.le_of_ble_eq_true rfl) dX7_goesAll_32) ?_
        refine qr_aload_n dX7_goesAll_35 rfl 0 rfl ?_
        refine qr_get5 (k := 0) (v := .ref (qm_a E 211)) rfl (by decide) rfl qw_624 dX7_goesAll_36 ?_
        refine qr_sipush (v := 210) dX7_goesAll_39 (by decide) ?_
        refine qr_lald rfl (by unfold vp_in; decide) dX7_goesAll_42 ?_
        refine qr_lcmp dX7_goesAll_43 ?_
        refine qr_if_lt (tgt := 52) dX7_goesAll_44 (by decide) (fun c11 => ?_) (fun c11 => ?_)
        · rw [if_pos c11] at h
          obtain ⟨z8, ez8, h⟩ := qm_bind h
          refine qr_iinc (q := 1) (v := z8) (lv' := [(1, .int z8), (0, .ref (qm_a E 210))]) dX7_goesAll_52 rfl (Option.some.inj ez8) (by decide) rfl ?_
          refine qr_goto (tgt := 2) dX7_goesAll_55 (by decide) ?_
          obtain rfl := Option.some.inj h
          exact qr_sub [1, 0] rfl hT
        · rw [if_neg c11] at h
          refine qr_aload_n dX7_goesAll_47 rfl 0 rfl ?_
          refine qr_iload_n dX7_goesAll_48 rfl 1 rfl ?_
          obtain ⟨r9, er9, h⟩ := qm_bind h
          refine qr_call1 (st1 := []) rfl (qr_callV (id := 210) (c := 5) (As := [.int v1]) (st := []) rfl (by decide) rfl (ct_X7_goes (l := l) (E := E) σ v1 er9) qw_766 qw_6 qw_763 qw_765 qs_20 yd_X7_goes (by decide) (by decide) rfl (Nat.le_of_ble_eq_true rfl) dX7_goesAll_49) ?_
          obtain ⟨z10, ez10, h⟩ := qm_bind h
          refine qr_iinc (q := 1) (v := z10) (lv' := [(1, .int z10), (0, .ref (qm_a E 210))]) dX7_goesAll_52 rfl (Option.some.inj ez10) (by decide) rfl ?_
          refine qr_goto (tgt := 2) dX7_goesAll_55 (by decide) ?_
          obtain rfl := Option.some.inj h
          exact qr_sub [1, 0] rfl hT
def lp_X7_goesAll_2 (σ : qm_M) (v1 : Int32) : Option (qm_M) := qm_loop (fun s : Int32 × qm_M => bb_X7_goesAll_2 s.2 s.1) 1000 (v1, σ)
theorem wl_X7_goesAll_2 {l : Launch} {E : qm_E} (σ : qm_M) (v1 : Int32) {x : qm_M} (h : lp_X7_goesAll_2 σ v1 = some x) {r : Option Value × qm_M} (hT : (fun x r => (none, x) = r) x r) : qm_Wp l E kd_X7_goesAll "HungStreamsModel" cX7_goesAll 2 2 [(0, .ref (qm_a E 210)), (1, .int v1)] [] σ r :=
  qm_loop_T (P := pp_X7_goesAll_2 l E) (T1 := (fun x r => (none, x) = r)) (fun s x h r hT => wb_X7_goesAll_2 (l := l) (E := E) s.2 s.1  h hT) h hT
def fn_X7_goesAll (σ : qm_M)  : Option (qm_M) :=
  lp_X7_goesAll_2 σ 1
set_option maxRecDepth 20000 in
theorem wf_X7_goesAll {l : Launch} {E : qm_E} (σ : qm_M)  {x : qm_M} (h : fn_X7_goesAll σ  = some x) {r : Option Value × qm_M} (hT : (fun x r => (none, x) = r) x r) : qm_Wp l E kd_X7_goesAll "HungStreamsModel" cX7_goesAll 2 0 [(0, .ref (qm_a E 210))] [] σ r := by
  unfold fn_X7_goesAll at h
  refine qr_iconst (v := 1) dX7_goesAll_0 (by decide) ?_
  refine qr_istore_n (lv' := [(1, .int 1), (0, .ref (qm_a E 210))]) dX7_goesAll_1 rfl (by decide) rfl ?_
  exact qr_sub [1, 0] rfl (wl_X7_goesAll_2 (l := l) (E := E) σ 1 h hT)
theorem ct_X7_goesAll {l : Launch} {E : qm_E} (σ : qm_M)  {x : qm_M} (h : fn_X7_goesAll σ  = some x) : qm_Ct l E kd_X7_goesAll yX7_goesAll cX7_goesAll 2 none [.ref (qm_a E 210)] σ (none, x) := qm_ofWp rfl (Nat.le_of_ble_eq_true rfl) (rfl) (wf_X7_goesAll σ   h rfl)
-- HungStreamsModel.closes (I)I
abbrev kd_X7_closes : Nat := 6
theorem yd_X7_closes : (yX7_closes).cls ≠ "java/lang/invoke/MethodHandle" ∧ (yX7_closes).cls ≠ "java/lang/invoke/VarHandle" ∧ (parseMethodDescriptor (yX7_closes).desc).map (fun d => d.parameters.length) = some 1 := by decide +kernel
def fn_X7_closes (σ : qm_M) (v1 : Int32) : Option (Int32 × qm_M) :=
  (fn_X7_isStream σ v1).bind (fun r1 => if (qm_b r1) = 0 then (fn_X7_refuses σ (-2)).bind (fun r11 => some (r11.1, r11.2)) else (fn_X7_its σ v1 7).bind (fun r2 => if (lg_cmp r2 0) = 0 then (fn_X7_refuses σ (-3)).bind (fun r9 => some (r9.1, r9.2)) else (fn_X7_keep σ ).bind (fun r3 => (fn_X7_puts r3 v1 7 0).bind (fun r4 => (fn_X7_puts r4 v1 3 0).bind (fun r5 => (fn_X7_goesAll r5 ).bind (fun r6 => (fn_X7_there r6 ).bind (fun r7 => (fn_X7_size r6 r7).bind (fun r8 => some (r8, r6)))))))))
set_option maxRecDepth 20000 in
theorem wf_X7_closes {l : Launch} {E : qm_E} (σ : qm_M) (v1 : Int32) {x : Int32 × qm_M} (h : fn_X7_closes σ v1 = some x) {r : Option Value × qm_M} (hT : (fun x r => (some (.int x.1), x.2) = r) x r) : qm_Wp l E kd_X7_closes "HungStreamsModel" cX7_closes 2 0 [(0, .ref (qm_a E 210)), (1, .int v1)] [] σ r := by
  unfold fn_X7_closes at h
  refine qr_aload_n dX7_closes_0 rfl 0 rfl ?_
  refine qr_iload_n dX7_closes_1 rfl 1 rfl ?_
  obtain ⟨r1, er1, h⟩ := qm_bind h
  refine qr_call1 (st1 := [.int (qm_b r1)]) rfl (qr_callV (id := 210) (c := 5) (As := [.int v1]) (st := []) rfl (by decide) rfl (ct_X7_isStream (l := l) (E := E) σ v1 er1) qw_692 qw_6 qw_689 qw_691 qs_7 yd_X7_isStream (by decide) (by decide) rfl (Nat.le_of_ble_eq_true rfl) dX7_closes_2) ?_
  refine qr_if_ne (tgt := 15) dX7_closes_5 (by decide) (fun c12 => ?_) (fun c12 => ?_)
  · rw [if_neg c12] at h
    refine qr_aload_n dX7_closes_15 rfl 0 rfl ?_
    refine qr_iload_n dX7_closes_16 rfl 1 rfl ?_
    refine qr_bipush (v := 7) dX7_closes_17 (by decide) ?_
    obtain ⟨r2, er2, h⟩ := qm_bind h
    refine qr_call1 (st1 := [.long r2]) rfl (qr_callV (id := 210) (c := 5) (As := [.int v1, .int 7]) (st := []) rfl (by decide) rfl (ct_X7_its (l := l) (E := E) σ v1 7 er2) qw_696 qw_6 qw_693 qw_695 qs_8 yd_X7_its (by decide) (by decide) rfl (Nat.le_of_ble_eq_true rfl) dX7_closes_19) ?_
    refine qr_lconst (v := 0) dX7_closes_22 (by decide) ?_
    refine qr_lcmp dX7_closes_23 ?_
    refine qr_if_ne (tgt := 34) dX7_closes_24 (by decide) (fun c10 => ?_) (fun c10 => ?_)
    · rw [if_neg c10] at h
      refine qr_aload_n dX7_closes_34 rfl 0 rfl ?_
      obtain ⟨r3, er3, h⟩ := qm_bind h
      refine qr_call1 (st1 := []) rfl (qr_callV (id := 210) (c := 5) (As := []) (st := []) rfl (by decide) rfl (ct_X7_keep (l := l) (E := E) σ  er3) qw_705 qw_6 qw_702 qw_704 qs_10 yd_X7_keep (by decide) (by decide) rfl (Nat.le_of_ble_eq_true rfl) dX7_closes_35) ?_
      refine qr_aload_n dX7_closes_38 rfl 0 rfl ?_
      refine qr_iload_n dX7_closes_39 rfl 1 rfl ?_
      refine qr_bipush (v := 7) dX7_closes_40 (by decide) ?_
      refine qr_lconst (v := 0) dX7_closes_42 (by decide) ?_
      obtain ⟨r4, er4, h⟩ := qm_bind h
      refine qr_call1 (st1 := []) rfl (qr_callV (id := 210) (c := 5) (As := [.int v1, .int 7, .long 0]) (st := []) rfl (by decide) rfl (ct_X7_puts (l := l) (E := E) r3 v1 7 0 er4) qw_713 qw_6 qw_710 qw_712 qs_12 yd_X7_puts (by decide) (by decide) rfl (Nat.le_of_ble_eq_true rfl) dX7_closes_43) ?_
      refine qr_aload_n dX7_closes_46 rfl 0 rfl ?_
      refine qr_iload_n dX7_closes_47 rfl 1 rfl ?_
      refine qr_iconst (v := 3) dX7_closes_48 (by decide) ?_
      refine qr_lconst (v := 0) dX7_closes_49 (by decide) ?_
      obtain ⟨r5, er5, h⟩ := qm_bind h
      refine qr_call1 (st1 := []) rfl (qr_callV (id := 210) (c := 5) (As := [.int v1, .int 3, .long 0]) (st := []) rfl (by decide) rfl (ct_X7_puts (l := l) (E := E) r4 v1 3 0 er5) qw_713 qw_6 qw_710 qw_712 qs_12 yd_X7_puts (by decide) (by decide) rfl (Nat.le_of_ble_eq_true rfl) dX7_closes_50) ?_
      refine qr_aload_n dX7_closes_53 rfl 0 rfl ?_
      obtain ⟨r6, er6, h⟩ := qm_bind h
      refine qr_call1 (st1 := []) rfl (qr_callV (id := 210) (c := 5) (As := []) (st := []) rfl (by decide) rfl (ct_X7_goesAll (l := l) (E := E) r5  er6) qw_762 qw_6 qw_759 qw_761 qs_19 yd_X7_goesAll (by decide) (by decide) rfl (Nat.le_of_ble_eq_true rfl) dX7_closes_54) ?_
      refine qr_aload_n dX7_closes_57 rfl 0 rfl ?_
      obtain ⟨r7, er7, h⟩ := qm_bind h
      refine qr_call1 (st1 := [.int r7]) rfl (qr_callV (id := 210) (c := 5) (As := []) (st := []) rfl (by decide) rfl (ct_X7_there (l := l) (E := E) r6  er7) qw_770 qw_6 qw_767 qw_769 qs_21 yd_X7_there (by decide) (by decide) rfl (Nat.le_of_ble_eq_true rfl) dX7_closes_58) ?_
      obtain ⟨r8, er8, h⟩ := qm_bind h
      refine qr_call1 (st1 := [.int r8]) rfl (qr_callS (As := [.int r7]) (st := []) (ct_X7_size (l := l) (E := E) r6 r7 er8) qw_773 qw_6 qw_771 qw_772 yd_X7_size (by decide) (by decide) rfl (Nat.le_of_ble_eq_true rfl) dX7_closes_61) ?_
      obtain rfl := Option.some.inj h
      cases hT
      exact qr_iret dX7_closes_64
    · rw [if_pos c10] at h
      refine qr_aload_n dX7_closes_27 rfl 0 rfl ?_
      refine qr_bipush (v := (-3)) dX7_closes_28 (by decide) ?_
      obtain ⟨r9, er9, h⟩ := qm_bind h
      refine qr_call1 (st1 := [.int r9.1]) rfl (qr_callV (id := 210) (c := 5) (As := [.int (-3)]) (st := []) rfl (by decide) rfl (ct_X7_refuses (l := l) (E := E) σ (-3) er9) qw_701 qw_6 qw_698 qw_700 qs_9 yd_X7_refuses (by decide) (by decide) rfl (Nat.le_of_ble_eq_true rfl) dX7_closes_30) ?_
      obtain rfl := Option.some.inj h
      cases hT
      exact qr_iret dX7_closes_33
  · rw [if_pos c12] at h
    refine qr_aload_n dX7_closes_8 rfl 0 rfl ?_
    refine qr_bipush (v := (-2)) dX7_closes_9 (by decide) ?_
    obtain ⟨r11, er11, h⟩ := qm_bind h
    refine qr_call1 (st1 := [.int r11.1]) rfl (qr_callV (id := 210) (c := 5) (As := [.int (-2)]) (st := []) rfl (by decide) rfl (ct_X7_refuses (l := l) (E := E) σ (-2) er11) qw_701 qw_6 qw_698 qw_700 qs_9 yd_X7_refuses (by decide) (by decide) rfl (Nat.le_of_ble_eq_true rfl) dX7_closes_11) ?_
    obtain rfl := Option.some.inj h
    cases hT
    exact qr_iret dX7_closes_14
theorem ct_X7_closes {l : Launch} {E : qm_E} (σ : qm_M) (v1 : Int32) {x : Int32 × qm_M} (h : fn_X7_closes σ v1 = some x) : qm_Ct l E kd_X7_closes yX7_closes cX7_closes 2 (some .int) [.ref (qm_a E 210), .int v1] σ (some (.int x.1), x.2) := qm_ofWp rfl (Nat.le_of_ble_eq_true rfl) (Or.inl rfl) (wf_X7_closes σ v1  h rfl)
-- HungStreamsModel.can (I)Z
abbrev kd_X7_can : Nat := 3
theorem yd_X7_can : (yX7_can).cls ≠ "java/lang/invoke/MethodHandle" ∧ (yX7_can).cls ≠ "java/lang/invoke/VarHandle" ∧ (parseMethodDescriptor (yX7_can).desc).map (fun d => d.parameters.length) = some 1 := by decide +kernel
def fn_X7_can (σ : qm_M) (v1 : Int32) : Option (Bool) :=
  (fn_X7_isStream σ v1).bind (fun r1 => if (qm_b r1) = 0 then some false else (fn_X7_its σ v1 7).bind (fun r2 => if (lg_cmp r2 1) = 0 then (fn_X7_its σ v1 3).bind (fun r3 => if (lg_cmp r3 0) ≤ 0 then some false else (fn_X7_its σ v1 4).bind (fun r4 => if (lg_cmp r4 0) ≤ 0 then some false else some true)) else some false))
set_option maxRecDepth 20000 in
theorem wf_X7_can {l : Launch} {E : qm_E} (σ : qm_M) (v1 : Int32) {x : Bool} (h : fn_X7_can σ v1 = some x) {r : Option Value × qm_M} (hT : (fun x r => (some (.int (qm_b x)), σ) = r) x r) : qm_Wp l E kd_X7_can "HungStreamsModel" cX7_can 2 0 [(0, .ref (qm_a E 210)), (1, .int v1)] [] σ r := by
  unfold fn_X7_can at h
  refine qr_aload_n dX7_can_0 rfl 0 rfl ?_
  refine qr_iload_n dX7_can_1 rfl 1 rfl ?_
  obtain ⟨r1, er1, h⟩ := qm_bind h
  refine qr_call1 (st1 := [.int (qm_b r1)]) rfl (qr_callV (id := 210) (c := 5) (As := [.int v1]) (st := []) rfl (by decide) rfl (ct_X7_isStream (l := l) (E := E) σ v1 er1) qw_692 qw_6 qw_689 qw_691 qs_7 yd_X7_isStream (by decide) (by decide) rfl (Nat.le_of_ble_eq_true rfl) dX7_can_2) ?_
  refine qr_if_eq (tgt := 46) dX7_can_5 (by decide) (fun c8 => ?_) (fun c8 => ?_)
  · rw [if_pos c8] at h
    refine qr_iconst (v := 0) dX7_can_46 (by decide) ?_
    obtain rfl := Option.some.inj h
    cases hT
    exact qr_iret dX7_can_47
  · rw [if_neg c8] at h
    refine qr_aload_n dX7_can_8 rfl 0 rfl ?_
    refine qr_iload_n dX7_can_9 rfl 1 rfl ?_
    refine qr_bipush (v := 7) dX7_can_10 (by decide) ?_
    obtain ⟨r2, er2, h⟩ := qm_bind h
    refine qr_call1 (st1 := [.long r2]) rfl (qr_callV (id := 210) (c := 5) (As := [.int v1, .int 7]) (st := []) rfl (by decide) rfl (ct_X7_its (l := l) (E := E) σ v1 7 er2) qw_696 qw_6 qw_693 qw_695 qs_8 yd_X7_its (by decide) (by decide) rfl (Nat.le_of_ble_eq_true rfl) dX7_can_12) ?_
    refine qr_lconst (v := 1) dX7_can_15 (by decide) ?_
    refine qr_lcmp dX7_can_16 ?_
    refine qr_if_ne (tgt := 46) dX7_can_17 (by decide) (fun c7 => ?_) (fun c7 => ?_)
    · rw [if_neg c7] at h
      refine qr_iconst (v := 0) dX7_can_46 (by decide) ?_
      obtain rfl := Option.some.inj h
      cases hT
      exact qr_iret dX7_can_47
    · rw [if_pos c7] at h
      refine qr_aload_n dX7_can_20 rfl 0 rfl ?_
      refine qr_iload_n dX7_can_21 rfl 1 rfl ?_
      refine qr_iconst (v := 3) dX7_can_22 (by decide) ?_
      obtain ⟨r3, er3, h⟩ := qm_bind h
      refine qr_call1 (st1 := [.long r3]) rfl (qr_callV (id := 210) (c := 5) (As := [.int v1, .int 3]) (st := []) rfl (by decide) rfl (ct_X7_its (l := l) (E := E) σ v1 3 er3) qw_696 qw_6 qw_693 qw_695 qs_8 yd_X7_its (by decide) (by decide) rfl (Nat.le_of_ble_eq_true rfl) dX7_can_23) ?_
      refine qr_lconst (v := 0) dX7_can_26 (by decide) ?_
      refine qr_lcmp dX7_can_27 ?_
      refine qr_if_le (tgt := 46) dX7_can_28 (by decide) (fun c6 => ?_) (fun c6 => ?_)
      · rw [if_pos c6] at h
        refine qr_iconst (v := 0) dX7_can_46 (by decide) ?_
        obtain rfl := Option.some.inj h
        cases hT
        exact qr_iret dX7_can_47
      · rw [if_neg c6] at h
        refine qr_aload_n dX7_can_31 rfl 0 rfl ?_
        refine qr_iload_n dX7_can_32 rfl 1 rfl ?_
        refine qr_iconst (v := 4) dX7_can_33 (by decide) ?_
        obtain ⟨r4, er4, h⟩ := qm_bind h
        refine qr_call1 (st1 := [.long r4]) rfl (qr_callV (id := 210) (c := 5) (As := [.int v1, .int 4]) (st := []) rfl (by decide) rfl (ct_X7_its (l := l) (E := E) σ v1 4 er4) qw_696 qw_6 qw_693 qw_695 qs_8 yd_X7_its (by decide) (by decide) rfl (Nat.le_of_ble_eq_true rfl) dX7_can_34) ?_
        refine qr_lconst (v := 0) dX7_can_37 (by decide) ?_
        refine qr_lcmp dX7_can_38 ?_
        refine qr_if_le (tgt := 46) dX7_can_39 (by decide) (fun c5 => ?_) (fun c5 => ?_)
        · rw [if_pos c5] at h
          refine qr_iconst (v := 0) dX7_can_46 (by decide) ?_
          obtain rfl := Option.some.inj h
          cases hT
          exact qr_iret dX7_can_47
        · rw [if_neg c5] at h
          refine qr_iconst (v := 1) dX7_can_42 (by decide) ?_
          refine qr_goto (tgt := 47) dX7_can_43 (by decide) ?_
          obtain rfl := Option.some.inj h
          cases hT
          exact qr_iret dX7_can_47
theorem ct_X7_can {l : Launch} {E : qm_E} (σ : qm_M) (v1 : Int32) {x : Bool} (h : fn_X7_can σ v1 = some x) : qm_Ct l E kd_X7_can yX7_can cX7_can 2 (some .boolean) [.ref (qm_a E 210), .int v1] σ (some (.int (qm_b x)), σ) := qm_ofWp rfl (Nat.le_of_ble_eq_true rfl) (qm_rtz _) (wf_X7_can σ v1  h rfl)
-- HungStreamsModel.canSet ()I
abbrev kd_X7_canSet : Nat := 4
theorem yd_X7_canSet : (yX7_canSet).cls ≠ "java/lang/invoke/MethodHandle" ∧ (yX7_canSet).cls ≠ "java/lang/invoke/VarHandle" ∧ (parseMethodDescriptor (yX7_canSet).desc).map (fun d => d.parameters.length) = some 0 := by decide +kernel
abbrev pp_X7_canSet_4 (l : Launch) (E : qm_E) (σ : qm_M) : (Int32 × Int32) → Option Value × qm_M → Prop := fun s r => qm_Wp l E kd_X7_canSet "HungStreamsModel" cX7_canSet 3 4 [(0, .ref (qm_a E 210)), (1, .int s.1), (2, .int s.2)] [] σ r
def bb_X7_canSet_4 (σ : qm_M) (v1 : Int32) (v2 : Int32) : Option ((Int32 × Int32) ⊕ (Int32)) :=
  if 12 < v2 then (some v1).bind (fun y => some (.inr y)) else (fn_X7_can σ v2).bind (fun r2 => if (qm_b r2) = 0 then (some (v1 ||| 0)).bind (fun z3 => (some (v2 + 1)).bind (fun z4 => some (.inl (z3, z4)))) else (some (v1 ||| (1 <<< (v2 &&& 31)))).bind (fun z5 => (some (v2 + 1)).bind (fun z6 => some (.inl (z5, z6)))))
set_option maxRecDepth 20000 in
theorem wb_X7_canSet_4 {l : Launch} {E : qm_E} (σ : qm_M) (v1 : Int32) (v2 : Int32) {x : (Int32 × Int32) ⊕ (Int32)} (h : bb_X7_canSet_4 σ v1 v2 = some x) {r : Option Value × qm_M} (hT : (qm_T (pp_X7_canSet_4 l E σ) (fun x r => (some (.int x), σ) = r)) x r) : qm_Wp l E kd_X7_canSet "HungStreamsModel" cX7_canSet 3 4 [(0, .ref (qm_a E 210)), (1, .int v1), (2, .int v2)] [] σ r := by
  unfold bb_X7_canSet_4 at h
  refine qr_iload_n dX7_canSet_4 rfl 2 rfl ?_
  refine qr_bipush (v := 12) dX7_canSet_5 (by decide) ?_
  refine qr_icmp_gt (tgt := 34) dX7_canSet_7 (by decide) (fun c8 => ?_) (fun c8 => ?_)
  · rw [if_pos c8] at h
    obtain ⟨y1, h1, hx⟩ := qm_bind h
    clear h
    cases hx
    have h := h1
    refine qr_iload_n dX7_canSet_34 rfl 1 rfl ?_
    obtain rfl := Option.some.inj h
    cases hT
    exact qr_iret dX7_canSet_35
  · rw [if_neg c8] at h
    refine qr_iload_n dX7_canSet_10 rfl 1 rfl ?_
    refine qr_aload_n dX7_canSet_11 rfl 0 rfl ?_
    refine qr_iload_n dX7_canSet_12 rfl 2 rfl ?_
    obtain ⟨r2, er2, h⟩ := qm_bind h
    refine qr_call1 (st1 := [.int (qm_b r2), .int v1]) rfl (qr_callV (id := 210) (c := 5) (As := [.int v2]) (st := [.int v1]) rfl (by decide) rfl (ct_X7_can (l := l) (E := E) σ v2 er2) qw_790 qw_6 qw_787 qw_789 qs_24 yd_X7_can (by decide) (by decide) rfl (Nat.le_of_ble_eq_true rfl) dX7_canSet_13) ?_
    refine qr_if_eq (tgt := 25) dX7_canSet_16 (by decide) (fun c7 => ?_) (fun c7 => ?_)
    · rw [if_pos c7] at h
      refine qr_iconst (v := 0) dX7_canSet_25 (by decide) ?_
      refine qr_ior dX7_canSet_26 ?_
      obtain ⟨z3, ez3, h⟩ := qm_bind h
      refine qr_eqi (Option.some.inj ez3) ?_
      refine qr_istore_n (lv' := [(1, .int z3), (0, .ref (qm_a E 210)), (2, .int v2)]) dX7_canSet_27 rfl (by decide) rfl ?_
      obtain ⟨z4, ez4, h⟩ := qm_bind h
      refine qr_iinc (q := 2) (v := z4) (lv' := [(2, .int z4), (1, .int z3), (0, .ref (qm_a E 210))]) dX7_canSet_28 rfl (Option.some.inj ez4) (by decide) rfl ?_
      refine qr_goto (tgt := 4) dX7_canSet_31 (by decide) ?_
      obtain rfl := Option.some.inj h
      exact qr_sub [2, 1, 0] rfl hT
    · rw [if_neg c7] at h
      refine qr_iconst (v := 1) dX7_canSet_19 (by decide) ?_
      refine qr_iload_n dX7_canSet_20 rfl 2 rfl ?_
      refine qr_ishl dX7_canSet_21 ?_
      refine qr_goto (tgt := 26) dX7_canSet_22 (by decide) ?_
      refine qr_ior dX7_canSet_26 ?_
      obtain ⟨z5, ez5, h⟩ := qm_bind h
      refine qr_eqi (Option.some.inj ez5) ?_
      refine qr_istore_n (lv' := [(1, .int z5), (0, .ref (qm_a E 210)), (2, .int v2)]) dX7_canSet_27 rfl (by decide) rfl ?_
      obtain ⟨z6, ez6, h⟩ := qm_bind h
      refine qr_iinc (q := 2) (v := z6) (lv' := [(2, .int z6), (1, .int z5), (0, .ref (qm_a E 210))]) dX7_canSet_28 rfl (Option.some.inj ez6) (by decide) rfl ?_
      refine qr_goto (tgt := 4) dX7_canSet_31 (by decide) ?_
      obtain rfl := Option.some.inj h
      exact qr_sub [2, 1, 0] rfl hT
def lp_X7_canSet_4 (σ : qm_M) (v1 : Int32) (v2 : Int32) : Option (Int32) := qm_loop (fun s : Int32 × Int32 => bb_X7_canSet_4 σ s.1 s.2) 1000 (v1, v2)
theorem wl_X7_canSet_4 {l : Launch} {E : qm_E} (σ : qm_M) (v1 : Int32) (v2 : Int32) {x : Int32} (h : lp_X7_canSet_4 σ v1 v2 = some x) {r : Option Value × qm_M} (hT : (fun x r => (some (.int x), σ) = r) x r) : qm_Wp l E kd_X7_canSet "HungStreamsModel" cX7_canSet 3 4 [(0, .ref (qm_a E 210)), (1, .int v1), (2, .int v2)] [] σ r :=
  qm_loop_T (P := pp_X7_canSet_4 l E σ) (T1 := (fun x r => (some (.int x), σ) = r)) (fun s x h r hT => wb_X7_canSet_4 (l := l) (E := E) σ s.1 s.2  h hT) h hT
def fn_X7_canSet (σ : qm_M)  : Option (Int32) :=
  lp_X7_canSet_4 σ 0 1
set_option maxRecDepth 20000 in
theorem wf_X7_canSet {l : Launch} {E : qm_E} (σ : qm_M)  {x : Int32} (h : fn_X7_canSet σ  = some x) {r : Option Value × qm_M} (hT : (fun x r => (some (.int x), σ) = r) x r) : qm_Wp l E kd_X7_canSet "HungStreamsModel" cX7_canSet 3 0 [(0, .ref (qm_a E 210))] [] σ r := by
  unfold fn_X7_canSet at h
  refine qr_iconst (v := 0) dX7_canSet_0 (by decide) ?_
  refine qr_istore_n (lv' := [(1, .int 0), (0, .ref (qm_a E 210))]) dX7_canSet_1 rfl (by decide) rfl ?_
  refine qr_iconst (v := 1) dX7_canSet_2 (by decide) ?_
  refine qr_istore_n (lv' := [(2, .int 1), (1, .int 0), (0, .ref (qm_a E 210))]) dX7_canSet_3 rfl (by decide) rfl ?_
  exact qr_sub [2, 1, 0] rfl (wl_X7_canSet_4 (l := l) (E := E) σ 0 1 h hT)
theorem ct_X7_canSet {l : Launch} {E : qm_E} (σ : qm_M)  {x : Int32} (h : fn_X7_canSet σ  = some x) : qm_Ct l E kd_X7_canSet yX7_canSet cX7_canSet 3 (some .int) [.ref (qm_a E 210)] σ (some (.int x), σ) := qm_ofWp rfl (Nat.le_of_ble_eq_true rfl) (Or.inl rfl) (wf_X7_canSet σ   h rfl)
-- HungStreamsModel.isLive (I)Z
abbrev kd_X7_isLive : Nat := 4
theorem yd_X7_isLive : (yX7_isLive).cls ≠ "java/lang/invoke/MethodHandle" ∧ (yX7_isLive).cls ≠ "java/lang/invoke/VarHandle" ∧ (parseMethodDescriptor (yX7_isLive).desc).map (fun d => d.parameters.length) = some 1 := by decide +kernel
abbrev pp_X7_isLive_8 (l : Launch) (E : qm_E) (σ : qm_M) (v1 : Int32) : (Int32 × Int32) → Option Value × qm_M → Prop := fun s r => qm_Wp l E kd_X7_isLive "HungStreamsModel" cX7_isLive 4 8 [(0, .ref (qm_a E 210)), (1, .int v1), (2, .int s.1), (3, .int s.2)] [] σ r
def bb_X7_isLive_47 (σ : qm_M) (v1 : Int32) (v2 : Int32) : Option (Bool) :=
  if v2 = 0 then some false else (fn_X7_isStream σ v1).bind (fun r3 => if (qm_b r3) = 0 then some false else some true)
set_option maxRecDepth 20000 in
theorem wb_X7_isLive_47 {l : Launch} {E : qm_E} (σ : qm_M) (v1 : Int32) (v2 : Int32) {x : Bool} (h : bb_X7_isLive_47 σ v1 v2 = some x) {r : Option Value × qm_M} (hT : (fun x r => (some (.int (qm_b x)), σ) = r) x r) : qm_Wp l E kd_X7_isLive "HungStreamsModel" cX7_isLive 4 47 [(0, .ref (qm_a E 210)), (1, .int v1), (2, .int v2)] [] σ r := by
  unfold bb_X7_isLive_47 at h
  refine qr_iload_n dX7_isLive_47 rfl 2 rfl ?_
  refine qr_if_eq (tgt := 63) dX7_isLive_48 (by decide) (fun c5 => ?_) (fun c5 => ?_)
  · rw [if_pos c5] at h
    refine qr_iconst (v := 0) dX7_isLive_63 (by decide) ?_
    obtain rfl := Option.some.inj h
    cases hT
    exact qr_iret dX7_isLive_64
  · rw [if_neg c5] at h
    refine qr_aload_n dX7_isLive_51 rfl 0 rfl ?_
    refine qr_iload_n dX7_isLive_52 rfl 1 rfl ?_
    obtain ⟨r3, er3, h⟩ := qm_bind h
    refine qr_call1 (st1 := [.int (qm_b r3)]) rfl (qr_callV (id := 210) (c := 5) (As := [.int v1]) (st := []) rfl (by decide) rfl (ct_X7_isStream (l := l) (E := E) σ v1 er3) qw_692 qw_6 qw_689 qw_691 qs_7 yd_X7_isStream (by decide) (by decide) rfl (Nat.le_of_ble_eq_true rfl) dX7_isLive_53) ?_
    refine qr_if_eq (tgt := 63) dX7_isLive_56 (by decide) (fun c4 => ?_) (fun c4 => ?_)
    · rw [if_pos c4] at h
      refine qr_iconst (v := 0) dX7_isLive_63 (by decide) ?_
      obtain rfl := Option.some.inj h
      cases hT
      exact qr_iret dX7_isLive_64
    · rw [if_neg c4] at h
      refine qr_iconst (v := 1) dX7_isLive_59 (by decide) ?_
      refine qr_goto (tgt := 64) dX7_isLive_60 (by decide) ?_
      obtain rfl := Option.some.inj h
      cases hT
      exact qr_iret dX7_isLive_64
def bb_X7_isLive_8 (σ : qm_M) (v1 : Int32) (v2 : Int32) (v3 : Int32) : Option ((Int32 × Int32) ⊕ (Bool)) :=
  if 12 < v3 then (bb_X7_isLive_47 σ v1 v2).bind (fun y => some (.inr y)) else if v2 = 0 then (fn_X7_can σ v3).bind (fun r8 => if (qm_b r8) = 0 then (some (v3 + 1)).bind (fun z9 => some (.inl (0, z9))) else (fn_X7_isBelow σ v3 v1).bind (fun r10 => if (qm_b r10) = 0 then (some (v3 + 1)).bind (fun z11 => some (.inl (0, z11))) else (some (v3 + 1)).bind (fun z12 => some (.inl (1, z12))))) else (bb_X7_isLive_47 σ v1 v2).bind (fun y => some (.inr y))
set_option maxRecDepth 20000 in
theorem wb_X7_isLive_8 {l : Launch} {E : qm_E} (σ : qm_M) (v1 : Int32) (v2 : Int32) (v3 : Int32) {x : (Int32 × Int32) ⊕ (Bool)} (h : bb_X7_isLive_8 σ v1 v2 v3 = some x) {r : Option Value × qm_M} (hT : (qm_T (pp_X7_isLive_8 l E σ v1) (fun x r => (some (.int (qm_b x)), σ) = r)) x r) : qm_Wp l E kd_X7_isLive "HungStreamsModel" cX7_isLive 4 8 [(0, .ref (qm_a E 210)), (1, .int v1), (2, .int v2), (3, .int v3)] [] σ r := by
  unfold bb_X7_isLive_8 at h
  refine qr_iload_n dX7_isLive_8 rfl 3 rfl ?_
  refine qr_bipush (v := 12) dX7_isLive_9 (by decide) ?_
  refine qr_icmp_gt (tgt := 47) dX7_isLive_11 (by decide) (fun c16 => ?_) (fun c16 => ?_)
  · rw [if_pos c16] at h
    obtain ⟨y6, h1, hx⟩ := qm_bind h
    clear h
    cases hx
    have h := h1
    exact qr_sub [0, 1, 2] rfl (wb_X7_isLive_47 (l := l) (E := E) σ v1 v2 h hT)
  · rw [if_neg c16] at h
    refine qr_iload_n dX7_isLive_14 rfl 2 rfl ?_
    refine qr_if_ne (tgt := 47) dX7_isLive_15 (by decide) (fun c15 => ?_) (fun c15 => ?_)
    · rw [if_neg c15] at h
      obtain ⟨y7, h1, hx⟩ := qm_bind h
      clear h
      cases hx
      have h := h1
      exact qr_sub [0, 1, 2] rfl (wb_X7_isLive_47 (l := l) (E := E) σ v1 v2 h hT)
    · rw [if_pos c15] at h
      refine qr_aload_n dX7_isLive_18 rfl 0 rfl ?_
      refine qr_iload_n dX7_isLive_19 rfl 3 rfl ?_
      obtain ⟨r8, er8, h⟩ := qm_bind h
      refine qr_call1 (st1 := [.int (qm_b r8)]) rfl (qr_callV (id := 210) (c := 5) (As := [.int v3]) (st := []) rfl (by decide) rfl (ct_X7_can (l := l) (E := E) σ v3 er8) qw_790 qw_6 qw_787 qw_789 qs_24 yd_X7_can (by decide) (by decide) rfl (Nat.le_of_ble_eq_true rfl) dX7_isLive_20) ?_
      refine qr_if_eq (tgt := 39) dX7_isLive_23 (by decide) (fun c14 => ?_) (fun c14 => ?_)
      · rw [if_pos c14] at h
        refine qr_iconst (v := 0) dX7_isLive_39 (by decide) ?_
        refine qr_istore_n (lv' := [(2, .int 0), (0, .ref (qm_a E 210)), (1, .int v1), (3, .int v3)]) dX7_isLive_40 rfl (by decide) rfl ?_
        obtain ⟨z9, ez9, h⟩ := qm_bind h
        refine qr_iinc (q := 3) (v := z9) (lv' := [(3, .int z9), (2, .int 0), (0, .ref (qm_a E 210)), (1, .int v1)]) dX7_isLive_41 rfl (Option.some.inj ez9) (by decide) rfl ?_
        refine qr_goto (tgt := 8) dX7_isLive_44 (by decide) ?_
        obtain rfl := Option.some.inj h
        exact qr_sub [2, 3, 1, 0] rfl hT
      · rw [if_neg c14] at h
        refine qr_aload_n dX7_isLive_26 rfl 0 rfl ?_
        refine qr_iload_n dX7_isLive_27 rfl 3 rfl ?_
        refine qr_iload_n dX7_isLive_28 rfl 1 rfl ?_
        obtain ⟨r10, er10, h⟩ := qm_bind h
        refine qr_call1 (st1 := [.int (qm_b r10)]) rfl (qr_callV (id := 210) (c := 5) (As := [.int v3, .int v1]) (st := []) rfl (by decide) rfl (ct_X7_isBelow (l := l) (E := E) σ v3 v1 er10) qw_743 qw_6 qw_740 qw_742 qs_18 yd_X7_isBelow (by decide) (by decide) rfl (Nat.le_of_ble_eq_true rfl) dX7_isLive_29) ?_
        refine qr_if_eq (tgt := 39) dX7_isLive_32 (by decide) (fun c13 => ?_) (fun c13 => ?_)
        · rw [if_pos c13] at h
          refine qr_iconst (v := 0) dX7_isLive_39 (by decide) ?_
          refine qr_istore_n (lv' := [(2, .int 0), (0, .ref (qm_a E 210)), (1, .int v1), (3, .int v3)]) dX7_isLive_40 rfl (by decide) rfl ?_
          obtain ⟨z11, ez11, h⟩ := qm_bind h
          refine qr_iinc (q := 3) (v := z11) (lv' := [(3, .int z11), (2, .int 0), (0, .ref (qm_a E 210)), (1, .int v1)]) dX7_isLive_41 rfl (Option.some.inj ez11) (by decide) rfl ?_
          refine qr_goto (tgt := 8) dX7_isLive_44 (by decide) ?_
          obtain rfl := Option.some.inj h
          exact qr_sub [2, 3, 1, 0] rfl hT
        · rw [if_neg c13] at h
          refine qr_iconst (v := 1) dX7_isLive_35 (by decide) ?_
          refine qr_goto (tgt := 40) dX7_isLive_36 (by decide) ?_
          refine qr_istore_n (lv' := [(2, .int 1), (0, .ref (qm_a E 210)), (1, .int v1), (3, .int v3)]) dX7_isLive_40 rfl (by decide) rfl ?_
          obtain ⟨z12, ez12, h⟩ := qm_bind h
          refine qr_iinc (q := 3) (v := z12) (lv' := [(3, .int z12), (2, .int 1), (0, .ref (qm_a E 210)), (1, .int v1)]) dX7_isLive_41 rfl (Option.some.inj ez12) (by decide) rfl ?_
          refine qr_goto (tgt := 8) dX7_isLive_44 (by decide) ?_
          obtain rfl := Option.some.inj h
          exact qr_sub [2, 3, 1, 0] rfl hT
def lp_X7_isLive_8 (σ : qm_M) (v1 : Int32) (v2 : Int32) (v3 : Int32) : Option (Bool) := qm_loop (fun s : Int32 × Int32 => bb_X7_isLive_8 σ v1 s.1 s.2) 1000 (v2, v3)
theorem wl_X7_isLive_8 {l : Launch} {E : qm_E} (σ : qm_M) (v1 : Int32) (v2 : Int32) (v3 : Int32) {x : Bool} (h : lp_X7_isLive_8 σ v1 v2 v3 = some x) {r : Option Value × qm_M} (hT : (fun x r => (some (.int (qm_b x)), σ) = r) x r) : qm_Wp l E kd_X7_isLive "HungStreamsModel" cX7_isLive 4 8 [(0, .ref (qm_a E 210)), (1, .int v1), (2, .int v2), (3, .int v3)] [] σ r :=
  qm_loop_T (P := pp_X7_isLive_8 l E σ v1) (T1 := (fun x r => (some (.int (qm_b x)), σ) = r)) (fun s x h r hT => wb_X7_isLive_8 (l := l) (E := E) σ v1 s.1 s.2  h hT) h hT
def fn_X7_isLive (σ : qm_M) (v1 : Int32) : Option (Bool) :=
  (fn_X7_can σ v1).bind (fun r1 => (some (qm_b r1)).bind (fun z2 => lp_X7_isLive_8 σ v1 z2 1))
set_option maxRecDepth 20000 in
theorem wf_X7_isLive {l : Launch} {E : qm_E} (σ : qm_M) (v1 : Int32) {x : Bool} (h : fn_X7_isLive σ v1 = some x) {r : Option Value × qm_M} (hT : (fun x r => (some (.int (qm_b x)), σ) = r) x r) : qm_Wp l E kd_X7_isLive "HungStreamsModel" cX7_isLive 4 0 [(0, .ref (qm_a E 210)), (1, .int v1)] [] σ r := by
  unfold fn_X7_isLive at h
  refine qr_aload_n dX7_isLive_0 rfl 0 rfl ?_
  refine qr_iload_n dX7_isLive_1 rfl 1 rfl ?_
  obtain ⟨r1, er1, h⟩ := qm_bind h
  refine qr_call1 (st1 := [.int (qm_b r1)]) rfl (qr_callV (id := 210) (c := 5) (As := [.int v1]) (st := []) rfl (by decide) rfl (ct_X7_can (l := l) (E := E) σ v1 er1) qw_790 qw_6 qw_787 qw_789 qs_24 yd_X7_can (by decide) (by decide) rfl (Nat.le_of_ble_eq_true rfl) dX7_isLive_2) ?_
  obtain ⟨z2, ez2, h⟩ := qm_bind h
  refine qr_eqi (Option.some.inj ez2) ?_
  refine qr_istore_n (lv' := [(2, .int z2), (0, .ref (qm_a E 210)), (1, .int v1)]) dX7_isLive_5 rfl (by decide) rfl ?_
  refine qr_iconst (v := 1) dX7_isLive_6 (by decide) ?_
  refine qr_istore_n (lv' := [(3, .int 1), (2, .int z2), (0, .ref (qm_a E 210)), (1, .int v1)]) dX7_isLive_7 rfl (by decide) rfl ?_
  exact qr_sub [2, 3, 1, 0] rfl (wl_X7_isLive_8 (l := l) (E := E) σ v1 z2 1 h hT)
theorem ct_X7_isLive {l : Launch} {E : qm_E} (σ : qm_M) (v1 : Int32) {x : Bool} (h : fn_X7_isLive σ v1 = some x) : qm_Ct l E kd_X7_isLive yX7_isLive cX7_isLive 4 (some .boolean) [.ref (qm_a E 210), .int v1] σ (some (.int (qm_b x)), σ) := qm_ofWp rfl (Nat.le_of_ble_eq_true rfl) (qm_rtz _) (wf_X7_isLive σ v1  h rfl)
