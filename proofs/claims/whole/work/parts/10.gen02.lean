-- HungStreams$Stream.copyFrom (LHungStreams$Stream;)V
abbrev kd_X2_copyFrom : Nat := 1
theorem yd_X2_copyFrom : (yX2_copyFrom).cls ≠ "java/lang/invoke/MethodHandle" ∧ (yX2_copyFrom).cls ≠ "java/lang/invoke/VarHandle" ∧ (parseMethodDescriptor (yX2_copyFrom).desc).map (fun d => d.parameters.length) = some 1 := by decide +kernel
def fn_X2_copyFrom (σ : qm_M) (v0 : Nat) (v1 : Nat) : Option (qm_M) :=
  (some (qm_si σ v0 0 (σ.1 v1 0))).bind (fun σ1 => (some (qm_si σ1 v0 1 (σ1.1 v1 1))).bind (fun σ2 => (some (qm_si σ2 v0 2 (σ2.1 v1 2))).bind (fun σ3 => (some (qm_si σ3 v0 3 (σ3.1 v1 3))).bind (fun σ4 => (some (qm_si σ4 v0 4 (σ4.1 v1 4))).bind (fun σ5 => (some (qm_si σ5 v0 5 (σ5.1 v1 5))).bind (fun σ6 => if (σ6.1 v1 6) = 0 ∨ (σ6.1 v1 6) = 1 then (some (qm_si σ6 v0 6 (σ6.1 v1 6))).bind (fun σ8 => (some (qm_si σ8 v0 7 (σ8.1 v1 7))).bind (fun σ9 => (some (qm_si σ9 v0 8 (σ9.1 v1 8))).bind (fun σ10 => (some (qm_si σ10 v0 9 (σ10.1 v1 9))).bind (fun σ11 => (some (qm_si σ11 v0 10 (σ11.1 v1 10))).bind (fun σ12 => (some (qm_si σ12 v0 11 (σ12.1 v1 11))).bind (fun σ13 => (some (qm_sl σ13 v0 12 (σ13.2 v1 12))).bind (fun σ14 => (some (qm_sl σ14 v0 13 (σ14.2 v1 13))).bind (fun σ15 => some σ15)))))))) else none))))))
set_option maxRecDepth 20000 in
theorem wf_X2_copyFrom {l : Launch} {E : qm_E} (σ : qm_M) (v0 : Nat) (v1 : Nat) (hk0 : qm_kind v0 = 1) (hk1 : qm_kind v1 = 1) {x : qm_M} (h : fn_X2_copyFrom σ v0 v1 = some x) {r : Option Value × qm_M} (hT : (fun x r => (none, x) = r) x r) : qm_Wp l E kd_X2_copyFrom "HungStreams$Stream" cX2_copyFrom 2 0 [(0, .ref (qm_a E v0)), (1, .ref (qm_a E v1))] [] σ r := by
  unfold fn_X2_copyFrom at h
  refine qr_aload_n dX2_copyFrom_0 rfl 0 rfl ?_
  refine qr_aload_n dX2_copyFrom_1 rfl 1 rfl ?_
  refine qr_get0 (k := 0) (v := .int (σ.1 v1 0)) hk1 (by decide) rfl qw_32 dX2_copyFrom_2 ?_
  obtain ⟨σ1, eσ1, h⟩ := qm_bind h
  refine qr_put0_0 hk0 qw_32 dX2_copyFrom_5 (qr_eqm (Option.some.inj eσ1) ?_)
  refine qr_aload_n dX2_copyFrom_8 rfl 0 rfl ?_
  refine qr_aload_n dX2_copyFrom_9 rfl 1 rfl ?_
  refine qr_get0 (k := 1) (v := .int (σ1.1 v1 1)) hk1 (by decide) rfl qw_37 dX2_copyFrom_10 ?_
  obtain ⟨σ2, eσ2, h⟩ := qm_bind h
  refine qr_put0_1 hk0 qw_37 dX2_copyFrom_13 (qr_eqm (Option.some.inj eσ2) ?_)
  refine qr_aload_n dX2_copyFrom_16 rfl 0 rfl ?_
  refine qr_aload_n dX2_copyFrom_17 rfl 1 rfl ?_
  refine qr_get0 (k := 2) (v := .int (σ2.1 v1 2)) hk1 (by decide) rfl qw_43 dX2_copyFrom_18 ?_
  obtain ⟨σ3, eσ3, h⟩ := qm_bind h
  refine qr_put0_2 hk0 qw_43 dX2_copyFrom_21 (qr_eqm (Option.some.inj eσ3) ?_)
  refine qr_aload_n dX2_copyFrom_24 rfl 0 rfl ?_
  refine qr_aload_n dX2_copyFrom_25 rfl 1 rfl ?_
  refine qr_get0 (k := 3) (v := .int (σ3.1 v1 3)) hk1 (by decide) rfl qw_46 dX2_copyFrom_26 ?_
  obtain ⟨σ4, eσ4, h⟩ := qm_bind h
  refine qr_put0_3 hk0 qw_46 dX2_copyFrom_29 (qr_eqm (Option.some.inj eσ4) ?_)
  refine qr_aload_n dX2_copyFrom_32 rfl 0 rfl ?_
  refine qr_aload_n dX2_copyFrom_33 rfl 1 rfl ?_
  refine qr_get0 (k := 4) (v := .int (σ4.1 v1 4)) hk1 (by decide) rfl qw_49 dX2_copyFrom_34 ?_
  obtain ⟨σ5, eσ5, h⟩ := qm_bind h
  refine qr_put0_4 hk0 qw_49 dX2_copyFrom_37 (qr_eqm (Option.some.inj eσ5) ?_)
  refine qr_aload_n dX2_copyFrom_40 rfl 0 rfl ?_
  refine qr_aload_n dX2_copyFrom_41 rfl 1 rfl ?_
  refine qr_get0 (k := 5) (v := .int (σ5.1 v1 5)) hk1 (by decide) rfl qw_51 dX2_copyFrom_42 ?_
  obtain ⟨σ6, eσ6, h⟩ := qm_bind h
  refine qr_put0_5 hk0 qw_51 dX2_copyFrom_45 (qr_eqm (Option.some.inj eσ6) ?_)
  refine qr_aload_n dX2_copyFrom_48 rfl 0 rfl ?_
  refine qr_aload_n dX2_copyFrom_49 rfl 1 rfl ?_
  refine qr_get0 (k := 6) (v := .int (σ6.1 v1 6)) hk1 (by decide) rfl qw_53 dX2_copyFrom_50 ?_
  obtain ⟨c7, h⟩ := qm_chk h
  obtain ⟨σ8, eσ8, h⟩ := qm_bind h
  refine qr_put0_6 hk0 c7 qw_53 dX2_copyFrom_53 (qr_eqm (Option.some.inj eσ8) ?_)
  refine qr_aload_n dX2_copyFrom_56 rfl 0 rfl ?_
  refine qr_aload_n dX2_copyFrom_57 rfl 1 rfl ?_
  refine qr_get0 (k := 7) (v := .int (σ8.1 v1 7)) hk1 (by decide) rfl qw_57 dX2_copyFrom_58 ?_
  obtain ⟨σ9, eσ9, h⟩ := qm_bind h
  refine qr_put0_7 hk0 qw_57 dX2_copyFrom_61 (qr_eqm (Option.some.inj eσ9) ?_)
  refine qr_aload_n dX2_copyFrom_64 rfl 0 rfl ?_
  refine qr_aload_n dX2_copyFrom_65 rfl 1 rfl ?_
  refine qr_get0 (k := 8) (v := .int (σ9.1 v1 8)) hk1 (by decide) rfl qw_60 dX2_copyFrom_66 ?_
  obtain ⟨σ10, eσ10, h⟩ := qm_bind h
  refine qr_put0_8 hk0 qw_60 dX2_copyFrom_69 (qr_eqm (Option.some.inj eσ10) ?_)
  refine qr_aload_n dX2_copyFrom_72 rfl 0 rfl ?_
  refine qr_aload_n dX2_copyFrom_73 rfl 1 rfl ?_
  refine qr_get0 (k := 9) (v := .int (σ10.1 v1 9)) hk1 (by decide) rfl qw_63 dX2_copyFrom_74 ?_
  obtain ⟨σ11, eσ11, h⟩ := qm_bind h
  refine qr_put0_9 hk0 qw_63 dX2_copyFrom_77 (qr_eqm (Option.some.inj eσ11) ?_)
  refine qr_aload_n dX2_copyFrom_80 rfl 0 rfl ?_
  refine qr_aload_n dX2_copyFrom_81 rfl 1 rfl ?_
  refine qr_get0 (k := 10) (v := .int (σ11.1 v1 10)) hk1 (by decide) rfl qw_65 dX2_copyFrom_82 ?_
  obtain ⟨σ12, eσ12, h⟩ := qm_bind h
  refine qr_put0_10 hk0 qw_65 dX2_copyFrom_85 (qr_eqm (Option.some.inj eσ12) ?_)
  refine qr_aload_n dX2_copyFrom_88 rfl 0 rfl ?_
  refine qr_aload_n dX2_copyFrom_89 rfl 1 rfl ?_
  refine qr_get0 (k := 11) (v := .int (σ12.1 v1 11)) hk1 (by decide) rfl qw_67 dX2_copyFrom_90 ?_
  obtain ⟨σ13, eσ13, h⟩ := qm_bind h
  refine qr_put0_11 hk0 qw_67 dX2_copyFrom_93 (qr_eqm (Option.some.inj eσ13) ?_)
  refine qr_aload_n dX2_copyFrom_96 rfl 0 rfl ?_
  refine qr_aload_n dX2_copyFrom_97 rfl 1 rfl ?_
  refine qr_get0 (k := 12) (v := .long (σ13.2 v1 12)) hk1 (by decide) rfl qw_69 dX2_copyFrom_98 ?_
  obtain ⟨σ14, eσ14, h⟩ := qm_bind h
  refine qr_put0_12 hk0 qw_69 dX2_copyFrom_101 (qr_eqm (Option.some.inj eσ14) ?_)
  refine qr_aload_n dX2_copyFrom_104 rfl 0 rfl ?_
  refine qr_aload_n dX2_copyFrom_105 rfl 1 rfl ?_
  refine qr_get0 (k := 13) (v := .long (σ14.2 v1 13)) hk1 (by decide) rfl qw_73 dX2_copyFrom_106 ?_
  obtain ⟨σ15, eσ15, h⟩ := qm_bind h
  refine qr_put0_13 hk0 qw_73 dX2_copyFrom_109 (qr_eqm (Option.some.inj eσ15) ?_)
  obtain rfl := Option.some.inj h
  cases hT
  exact qr_vret dX2_copyFrom_112
theorem ct_X2_copyFrom {l : Launch} {E : qm_E} (σ : qm_M) (v0 : Nat) (v1 : Nat) (hk0 : qm_kind v0 = 1) (hk1 : qm_kind v1 = 1) {x : qm_M} (h : fn_X2_copyFrom σ v0 v1 = some x) : qm_Ct l E kd_X2_copyFrom yX2_copyFrom cX2_copyFrom 2 none [.ref (qm_a E v0), .ref (qm_a E v1)] σ (none, x) := qm_ofWp rfl (Nat.le_of_ble_eq_true rfl) (rfl) (wf_X2_copyFrom σ v0 v1 hk0 hk1 h rfl)
-- HungStreams$Stream.held (I)I
abbrev kd_X2_held : Nat := 1
theorem yd_X2_held : (yX2_held).cls ≠ "java/lang/invoke/MethodHandle" ∧ (yX2_held).cls ≠ "java/lang/invoke/VarHandle" ∧ (parseMethodDescriptor (yX2_held).desc).map (fun d => d.parameters.length) = some 1 := by decide +kernel
def fn_X2_held (σ : qm_M) (v0 : Nat) (v1 : Int32) : Option (Int32) :=
  if v1 = 0 then some (σ.1 v0 0) else if v1 = 1 then some (σ.1 v0 1) else if v1 = 2 then some (σ.1 v0 2) else if v1 = 3 then some (σ.1 v0 3) else if v1 = 4 then some (σ.1 v0 4) else if v1 = 5 then some (σ.1 v0 5) else if v1 = 6 then if (σ.1 v0 6) = 0 then some 0 else some 1 else if v1 = 7 then some (σ.1 v0 7) else if v1 = 8 then some (σ.1 v0 8) else if v1 = 9 then some (σ.1 v0 9) else if v1 = 10 then some (σ.1 v0 10) else some (σ.1 v0 11)
set_option maxRecDepth 20000 in
theorem wf_X2_held {l : Launch} {E : qm_E} (σ : qm_M) (v0 : Nat) (v1 : Int32) (hk0 : qm_kind v0 = 1) {x : Int32} (h : fn_X2_held σ v0 v1 = some x) {r : Option Value × qm_M} (hT : (fun x r => (some (.int x), σ) = r) x r) : qm_Wp l E kd_X2_held "HungStreams$Stream" cX2_held 2 0 [(0, .ref (qm_a E v0)), (1, .int v1)] [] σ r := by
  unfold fn_X2_held at h
  refine qr_iload_n dX2_held_0 rfl 1 rfl ?_
  by_cases c1 : v1 = 0
  · rw [if_pos c1] at h
    have tc1 : (v1).toInt = 0 := by rw [c1]; rfl
    refine qr_tableIn (tgt := 60) dX2_held_1 (by omega) (by omega) (by rw [tc1]; rfl) (by decide) ?_
    refine qr_aload_n dX2_held_60 rfl 0 rfl ?_
    refine qr_get0 (k := 0) (v := .int (σ.1 v0 0)) hk0 (by decide) rfl qw_32 dX2_held_61 ?_
    obtain rfl := Option.some.inj h
    cases hT
    exact qr_iret dX2_held_64
  rw [if_neg c1] at h
  by_cases c2 : v1 = 1
  · rw [if_pos c2] at h
    have tc2 : (v1).toInt = 1 := by rw [c2]; rfl
    refine qr_tableIn (tgt := 65) dX2_held_1 (by omega) (by omega) (by rw [tc2]; rfl) (by decide) ?_
    refine qr_aload_n dX2_held_65 rfl 0 rfl ?_
    refine qr_get0 (k := 1) (v := .int (σ.1 v0 1)) hk0 (by decide) rfl qw_37 dX2_held_66 ?_
    obtain rfl := Option.some.inj h
    cases hT
    exact qr_iret dX2_held_69
  rw [if_neg c2] at h
  by_cases c3 : v1 = 2
  · rw [if_pos c3] at h
    have tc3 : (v1).toInt = 2 := by rw [c3]; rfl
    refine qr_tableIn (tgt := 70) dX2_held_1 (by omega) (by omega) (by rw [tc3]; rfl) (by decide) ?_
    refine qr_aload_n dX2_held_70 rfl 0 rfl ?_
    refine qr_get0 (k := 2) (v := .int (σ.1 v0 2)) hk0 (by decide) rfl qw_43 dX2_held_71 ?_
    obtain rfl := Option.some.inj h
    cases hT
    exact qr_iret dX2_held_74
  rw [if_neg c3] at h
  by_cases c4 : v1 = 3
  · rw [if_pos c4] at h
    have tc4 : (v1).toInt = 3 := by rw [c4]; rfl
    refine qr_tableIn (tgt := 75) dX2_held_1 (by omega) (by omega) (by rw [tc4]; rfl) (by decide) ?_
    refine qr_aload_n dX2_held_75 rfl 0 rfl ?_
    refine qr_get0 (k := 3) (v := .int (σ.1 v0 3)) hk0 (by decide) rfl qw_46 dX2_held_76 ?_
    obtain rfl := Option.some.inj h
    cases hT
    exact qr_iret dX2_held_79
  rw [if_neg c4] at h
  by_cases c5 : v1 = 4
  · rw [if_pos c5] at h
    have tc5 : (v1).toInt = 4 := by rw [c5]; rfl
    refine qr_tableIn (tgt := 80) dX2_held_1 (by omega) (by omega) (by rw [tc5]; rfl) (by decide) ?_
    refine qr_aload_n dX2_held_80 rfl 0 rfl ?_
    refine qr_get0 (k := 4) (v := .int (σ.1 v0 4)) hk0 (by decide) rfl qw_49 dX2_held_81 ?_
    obtain rfl := Option.some.inj h
    cases hT
    exact qr_iret dX2_held_84
  rw [if_neg c5] at h
  by_cases c6 : v1 = 5
  · rw [if_pos c6] at h
    have tc6 : (v1).toInt = 5 := by rw [c6]; rfl
    refine qr_tableIn (tgt := 85) dX2_held_1 (by omega) (by omega) (by rw [tc6]; rfl) (by decide) ?_
    refine qr_aload_n dX2_held_85 rfl 0 rfl ?_
    refine qr_get0 (k := 5) (v := .int (σ.1 v0 5)) hk0 (by decide) rfl qw_51 dX2_held_86 ?_
    obtain rfl := Option.some.inj h
    cases hT
    exact qr_iret dX2_held_89
  rw [if_neg c6] at h
  by_cases c8 : v1 = 6
  · rw [if_pos c8] at h
    have tc8 : (v1).toInt = 6 := by rw [c8]; rfl
    refine qr_tableIn (tgt := 90) dX2_held_1 (by omega) (by omega) (by rw [tc8]; rfl) (by decide) ?_
    refine qr_aload_n dX2_held_90 rfl 0 rfl ?_
    refine qr_get0 (k := 6) (v := .int (σ.1 v0 6)) hk0 (by decide) rfl qw_53 dX2_held_91 ?_
    refine qr_if_eq (tgt := 101) dX2_held_94 (by decide) (fun c7 => ?_) (fun c7 => ?_)
    · rw [if_pos c7] at h
      refine qr_iconst (v := 0) dX2_held_101 (by decide) ?_
      obtain rfl := Option.some.inj h
      cases hT
      exact qr_iret dX2_held_102
    · rw [if_neg c7] at h
      refine qr_iconst (v := 1) dX2_held_97 (by decide) ?_
      refine qr_goto (tgt := 102) dX2_held_98 (by decide) ?_
      obtain rfl := Option.some.inj h
      cases hT
      exact qr_iret dX2_held_102
  rw [if_neg c8] at h
  by_cases c9 : v1 = 7
  · rw [if_pos c9] at h
    have tc9 : (v1).toInt = 7 := by rw [c9]; rfl
    refine qr_tableIn (tgt := 103) dX2_held_1 (by omega) (by omega) (by rw [tc9]; rfl) (by decide) ?_
    refine qr_aload_n dX2_held_103 rfl 0 rfl ?_
    refine qr_get0 (k := 7) (v := .int (σ.1 v0 7)) hk0 (by decide) rfl qw_57 dX2_held_104 ?_
    obtain rfl := Option.some.inj h
    cases hT
    exact qr_iret dX2_held_107
  rw [if_neg c9] at h
  by_cases c10 : v1 = 8
  · rw [if_pos c10] at h
    have tc10 : (v1).toInt = 8 := by rw [c10]; rfl
    refine qr_tableIn (tgt := 108) dX2_held_1 (by omega) (by omega) (by rw [tc10]; rfl) (by decide) ?_
    refine qr_aload_n dX2_held_108 rfl 0 rfl ?_
    refine qr_get0 (k := 8) (v := .int (σ.1 v0 8)) hk0 (by decide) rfl qw_60 dX2_held_109 ?_
    obtain rfl := Option.some.inj h
    cases hT
    exact qr_iret dX2_held_112
  rw [if_neg c10] at h
  by_cases c11 : v1 = 9
  · rw [if_pos c11] at h
    have tc11 : (v1).toInt = 9 := by rw [c11]; rfl
    refine qr_tableIn (tgt := 113) dX2_held_1 (by omega) (by omega) (by rw [tc11]; rfl) (by decide) ?_
    refine qr_aload_n dX2_held_113 rfl 0 rfl ?_
    refine qr_get0 (k := 9) (v := .int (σ.1 v0 9)) hk0 (by decide) rfl qw_63 dX2_held_114 ?_
    obtain rfl := Option.some.inj h
    cases hT
    exact qr_iret dX2_held_117
  rw [if_neg c11] at h
  by_cases c12 : v1 = 10
  · rw [if_pos c12] at h
    have tc12 : (v1).toInt = 10 := by rw [c12]; rfl
    refine qr_tableIn (tgt := 118) dX2_held_1 (by omega) (by omega) (by rw [tc12]; rfl) (by decide) ?_
    refine qr_aload_n dX2_held_118 rfl 0 rfl ?_
    refine qr_get0 (k := 10) (v := .int (σ.1 v0 10)) hk0 (by decide) rfl qw_65 dX2_held_119 ?_
    obtain rfl := Option.some.inj h
    cases hT
    exact qr_iret dX2_held_122
  rw [if_neg c12] at h
  have nc1 := lv_neT c1 (show (0 : Int32).toInt = 0 from rfl)
  have nc2 := lv_neT c2 (show (1 : Int32).toInt = 1 from rfl)
  have nc3 := lv_neT c3 (show (2 : Int32).toInt = 2 from rfl)
  have nc4 := lv_neT c4 (show (3 : Int32).toInt = 3 from rfl)
  have nc5 := lv_neT c5 (show (4 : Int32).toInt = 4 from rfl)
  have nc6 := lv_neT c6 (show (5 : Int32).toInt = 5 from rfl)
  have nc8 := lv_neT c8 (show (6 : Int32).toInt = 6 from rfl)
  have nc9 := lv_neT c9 (show (7 : Int32).toInt = 7 from rfl)
  have nc10 := lv_neT c10 (show (8 : Int32).toInt = 8 from rfl)
  have nc11 := lv_neT c11 (show (9 : Int32).toInt = 9 from rfl)
  have nc12 := lv_neT c12 (show (10 : Int32).toInt = 10 from rfl)
  refine qr_tableOut (tgt := 123) dX2_held_1 (by omega) (by decide) ?_
  refine qr_aload_n dX2_held_123 rfl 0 rfl ?_
  refine qr_get0 (k := 11) (v := .int (σ.1 v0 11)) hk0 (by decide) rfl qw_67 dX2_held_124 ?_
  obtain rfl := Option.some.inj h
  cases hT
  exact qr_iret dX2_held_127
theorem ct_X2_held {l : Launch} {E : qm_E} (σ : qm_M) (v0 : Nat) (v1 : Int32) (hk0 : qm_kind v0 = 1) {x : Int32} (h : fn_X2_held σ v0 v1 = some x) : qm_Ct l E kd_X2_held yX2_held cX2_held 2 (some .int) [.ref (qm_a E v0), .int v1] σ (some (.int x), σ) := qm_ofWp rfl (Nat.le_of_ble_eq_true rfl) (Or.inl rfl) (wf_X2_held σ v0 v1 hk0 h rfl)
-- HungStreams$Stream.change (II)I
abbrev kd_X2_change : Nat := 1
theorem yd_X2_change : (yX2_change).cls ≠ "java/lang/invoke/MethodHandle" ∧ (yX2_change).cls ≠ "java/lang/invoke/VarHandle" ∧ (parseMethodDescriptor (yX2_change).desc).map (fun d => d.parameters.length) = some 2 := by decide +kernel
def fn_X2_change (σ : qm_M) (v0 : Nat) (v1 : Int32) (v2 : Int32) : Option (Int32 × qm_M) :=
  if v1 = 0 then (some (σ.1 v0 1)).bind (fun z6 => (some (qm_si σ v0 1 v2)).bind (fun σ7 => some (z6, σ7))) else if v1 = 1 then (some (σ.1 v0 4)).bind (fun z3 => (some (qm_si σ v0 4 v2)).bind (fun σ4 => some (z3, σ4))) else (some (σ.1 v0 5)).bind (fun z1 => (some (qm_si σ v0 5 v2)).bind (fun σ2 => some (z1, σ2)))
set_option maxRecDepth 20000 in
theorem wf_X2_change {l : Launch} {E : qm_E} (σ : qm_M) (v0 : Nat) (v1 : Int32) (v2 : Int32) (hk0 : qm_kind v0 = 1) {x : Int32 × qm_M} (h : fn_X2_change σ v0 v1 v2 = some x) {r : Option Value × qm_M} (hT : (fun x r => (some (.int x.1), x.2) = r) x r) : qm_Wp l E kd_X2_change "HungStreams$Stream" cX2_change 4 0 [(0, .ref (qm_a E v0)), (1, .int v1), (2, .int v2)] [] σ r := by
  unfold fn_X2_change at h
  refine qr_iload_n dX2_change_0 rfl 1 rfl ?_
  refine qr_if_ne (tgt := 17) dX2_change_1 (by decide) (fun c8 => ?_) (fun c8 => ?_)
  · rw [if_neg c8] at h
    refine qr_iload_n dX2_change_17 rfl 1 rfl ?_
    refine qr_iconst (v := 1) dX2_change_18 (by decide) ?_
    refine qr_icmp_ne (tgt := 35) dX2_change_19 (by decide) (fun c5 => ?_) (fun c5 => ?_)
    · rw [if_neg c5] at h
      refine qr_aload_n dX2_change_35 rfl 0 rfl ?_
      refine qr_get0 (k := 5) (v := .int (σ.1 v0 5)) hk0 (by decide) rfl qw_51 dX2_change_36 ?_
      obtain ⟨z1, ez1, h⟩ := qm_bind h
      refine qr_eqi (Option.some.inj ez1) ?_
      refine qr_istore_n (lv' := [(3, .int z1), (0, .ref (qm_a E v0)), (1, .int v1), (2, .int v2)]) dX2_change_39 rfl (by decide) rfl ?_
      refine qr_aload_n dX2_change_40 rfl 1 rfl ?_
      refine qr_iload_n dX2_change_41 rfl 3 rfl ?_
      obtain ⟨σ2, eσ2, h⟩ := qm_bind h
      refine qr_put0_5 hk0 qw_51 dX2_change_42 (qr_eqm (Option.some.inj eσ2) ?_)
      refine qr_iload_n dX2_change_45 rfl 0 rfl ?_
      obtain rfl := Option.some.inj h
      cases hT
      exact qr_iret dX2_change_46
    · rw [if_pos c5] at h
      refine qr_aload_n dX2_change_22 rfl 0 rfl ?_
      refine qr_get0 (k := 4) (v := .int (σ.1 v0 4)) hk0 (by decide) rfl qw_49 dX2_change_23 ?_
      obtain ⟨z3, ez3, h⟩ := qm_bind h
      refine qr_eqi (Option.some.inj ez3) ?_
      refine qr_istore_n (lv' := [(3, .int z3), (0, .ref (qm_a E v0)), (1, .int v1), (2, .int v2)]) dX2_change_26 rfl (by decide) rfl ?_
      refine qr_aload_n dX2_change_27 rfl 1 rfl ?_
      refine qr_iload_n dX2_change_28 rfl 3 rfl ?_
      obtain ⟨σ4, eσ4, h⟩ := qm_bind h
      refine qr_put0_4 hk0 qw_49 dX2_change_29 (qr_eqm (Option.some.inj eσ4) ?_)
      refine qr_goto (tgt := 45) dX2_change_32 (by decide) ?_
      refine qr_iload_n dX2_change_45 rfl 0 rfl ?_
      obtain rfl := Option.some.inj h
      cases hT
      exact qr_iret dX2_change_46
  · rw [if_pos c8] at h
    refine qr_aload_n dX2_change_4 rfl 0 rfl ?_
    refine qr_get0 (k := 1) (v := .int (σ.1 v0 1)) hk0 (by decide) rfl qw_37 dX2_change_5 ?_
    obtain ⟨z6, ez6, h⟩ := qm_bind h
    refine qr_eqi (Option.some.inj ez6) ?_
    refine qr_istore_n (lv' := [(3, .int z6), (0, .ref (qm_a E v0)), (1, .int v1), (2, .int v2)]) dX2_change_8 rfl (by decide) rfl ?_
    refine qr_aload_n dX2_change_9 rfl 1 rfl ?_
    refine qr_iload_n dX2_change_10 rfl 3 rfl ?_
    obtain ⟨σ7, eσ7, h⟩ := qm_bind h
    refine qr_put0_1 hk0 qw_37 dX2_change_11 (qr_eqm (Option.some.inj eσ7) ?_)
    refine qr_goto (tgt := 45) dX2_change_14 (by decide) ?_
    refine qr_iload_n dX2_change_45 rfl 0 rfl ?_
    obtain rfl := Option.some.inj h
    cases hT
    exact qr_iret dX2_change_46
theorem ct_X2_change {l : Launch} {E : qm_E} (σ : qm_M) (v0 : Nat) (v1 : Int32) (v2 : Int32) (hk0 : qm_kind v0 = 1) {x : Int32 × qm_M} (h : fn_X2_change σ v0 v1 v2 = some x) : qm_Ct l E kd_X2_change yX2_change cX2_change 4 (some .int) [.ref (qm_a E v0), .int v1, .int v2] σ (some (.int x.1), x.2) := qm_ofWp rfl (Nat.le_of_ble_eq_true rfl) (Or.inl rfl) (wf_X2_change σ v0 v1 v2 hk0 h rfl)
-- HungStreams$Tree.copyFrom (LHungStreams$Tree;)V
abbrev kd_X3_copyFrom : Nat := 2
theorem yd_X3_copyFrom : (yX3_copyFrom).cls ≠ "java/lang/invoke/MethodHandle" ∧ (yX3_copyFrom).cls ≠ "java/lang/invoke/VarHandle" ∧ (parseMethodDescriptor (yX3_copyFrom).desc).map (fun d => d.parameters.length) = some 1 := by decide +kernel
abbrev pp_X3_copyFrom_2 (l : Launch) (E : qm_E) (v0 : Nat) (v1 : Nat) : (Int32 × qm_M) → Option Value × qm_M → Prop := fun s r => qm_Wp l E kd_X3_copyFrom "HungStreams$Tree" cX3_copyFrom 3 2 [(0, .ref (qm_a E v0)), (1, .ref (qm_a E v1)), (2, .int s.1)] [] s.2 r
def bb_X3_copyFrom_2 (σ : qm_M) (v0 : Nat) (v1 : Nat) (v2 : Int32) : Option ((Int32 × qm_M) ⊕ (qm_M)) :=
  if 12 < v2 then ((some (qm_si σ v0 1 (σ.1 v1 1))).bind (fun σ1 => (some (qm_si σ1 v0 2 (σ1.1 v1 2))).bind (fun σ2 => (some (qm_si σ2 v0 3 (σ2.1 v1 3))).bind (fun σ3 => (some (qm_si σ3 v0 4 (σ3.1 v1 4))).bind (fun σ4 => (some (qm_si σ4 v0 5 (σ4.1 v1 5))).bind (fun σ5 => (some (qm_si σ5 v0 6 (σ5.1 v1 6))).bind (fun σ6 => (some (qm_si σ6 v0 7 (σ6.1 v1 7))).bind (fun σ7 => (some (qm_si σ7 v0 8 (σ7.1 v1 8))).bind (fun σ8 => (some (qm_si σ8 v0 9 (σ8.1 v1 9))).bind (fun σ9 => some σ9)))))))))).bind (fun y => some (.inr y)) else if ¬ (v2 < 0 ∨ 13 ≤ v2.toNatClampNeg) then if ¬ (v2 < 0 ∨ 13 ≤ v2.toNatClampNeg) then (fn_X2_copyFrom σ (v0 + 1 + 1 + v2.toNatClampNeg) (v1 + 1 + 1 + v2.toNatClampNeg)).bind (fun r13 => (some (v2 + 1)).bind (fun z14 => some (.inl (z14, r13)))) else none else none
set_option maxRecDepth 20000 in
theorem wb_X3_copyFrom_2 {l : Launch} {E : qm_E} (σ : qm_M) (v0 : Nat) (v1 : Nat) (v2 : Int32) (hk0 : qm_kind v0 = 2) (hk1 : qm_kind v1 = 2) {x : (Int32 × qm_M) ⊕ (qm_M)} (h : bb_X3_copyFrom_2 σ v0 v1 v2 = some x) {r : Option Value × qm_M} (hT : (qm_T (pp_X3_copyFrom_2 l E v0 v1) (fun x r => (none, x) = r)) x r) : qm_Wp l E kd_X3_copyFrom "HungStreams$Tree" cX3_copyFrom 3 2 [(0, .ref (qm_a E v0)), (1, .ref (qm_a E v1)), (2, .int v2)] [] σ r := by
  unfold bb_X3_copyFrom_2 at h
  refine qr_iload_n dX3_copyFrom_2 rfl 2 rfl ?_
  refine qr_bipush (v := 12) dX3_copyFrom_3 (by decide) ?_
  refine qr_icmp_gt (tgt := 29) dX3_copyFrom_5 (by decide) (fun c15 => ?_) (fun c15 => ?_)
  · rw [if_pos c15] at h
    obtain ⟨y10, h1, hx⟩ := qm_bind h
    clear h
    cases hx
    have h := h1
    refine qr_aload_n dX3_copyFrom_29 rfl 0 rfl ?_
    refine qr_aload_n dX3_copyFrom_30 rfl 1 rfl ?_
    refine qr_get1 (k := 1) (v := .int (σ.1 v1 1)) hk1 (by decide) rfl qw_111 dX3_copyFrom_31 ?_
    obtain ⟨σ1, eσ1, h⟩ := qm_bind h
    refine qr_put1_1 hk0 qw_111 dX3_copyFrom_34 (qr_eqm (Option.some.inj eσ1) ?_)
    refine qr_aload_n dX3_copyFrom_37 rfl 0 rfl ?_
    refine qr_aload_n dX3_copyFrom_38 rfl 1 rfl ?_
    refine qr_get1 (k := 2) (v := .int (σ1.1 v1 2)) hk1 (by decide) rfl qw_114 dX3_copyFrom_39 ?_
    obtain ⟨σ2, eσ2, h⟩ := qm_bind h
    refine qr_put1_2 hk0 qw_114 dX3_copyFrom_42 (qr_eqm (Option.some.inj eσ2) ?_)
    refine qr_aload_n dX3_copyFrom_45 rfl 0 rfl ?_
    refine qr_aload_n dX3_copyFrom_46 rfl 1 rfl ?_
    refine qr_get1 (k := 3) (v := .int (σ2.1 v1 3)) hk1 (by decide) rfl qw_116 dX3_copyFrom_47 ?_
    obtain ⟨σ3, eσ3, h⟩ := qm_bind h
    refine qr_put1_3 hk0 qw_116 dX3_copyFrom_50 (qr_eqm (Option.some.inj eσ3) ?_)
    refine qr_aload_n dX3_copyFrom_53 rfl 0 rfl ?_
    refine qr_aload_n dX3_copyFrom_54 rfl 1 rfl ?_
    refine qr_get1 (k := 4) (v := .int (σ3.1 v1 4)) hk1 (by decide) rfl qw_119 dX3_copyFrom_55 ?_
    obtain ⟨σ4, eσ4, h⟩ := qm_bind h
    refine qr_put1_4 hk0 qw_119 dX3_copyFrom_58 (qr_eqm (Option.some.inj eσ4) ?_)
    refine qr_aload_n dX3_copyFrom_61 rfl 0 rfl ?_
    refine qr_aload_n dX3_copyFrom_62 rfl 1 rfl ?_
    refine qr_get1 (k := 5) (v := .int (σ4.1 v1 5)) hk1 (by decide) rfl qw_122 dX3_copyFrom_63 ?_
    obtain ⟨σ5, eσ5, h⟩ := qm_bind h
    refine qr_put1_5 hk0 qw_122 dX3_copyFrom_66 (qr_eqm (Option.some.inj eσ5) ?_)
    refine qr_aload_n dX3_copyFrom_69 rfl 0 rfl ?_
    refine qr_aload_n dX3_copyFrom_70 rfl 1 rfl ?_
    refine qr_get1 (k := 6) (v := .int (σ5.1 v1 6)) hk1 (by decide) rfl qw_124 dX3_copyFrom_71 ?_
    obtain ⟨σ6, eσ6, h⟩ := qm_bind h
    refine qr_put1_6 hk0 qw_124 dX3_copyFrom_74 (qr_eqm (Option.some.inj eσ6) ?_)
    refine qr_aload_n dX3_copyFrom_77 rfl 0 rfl ?_
    refine qr_aload_n dX3_copyFrom_78 rfl 1 rfl ?_
    refine qr_get1 (k := 7) (v := .int (σ6.1 v1 7)) hk1 (by decide) rfl qw_127 dX3_copyFrom_79 ?_
    obtain ⟨σ7, eσ7, h⟩ := qm_bind h
    refine qr_put1_7 hk0 qw_127 dX3_copyFrom_82 (qr_eqm (Option.some.inj eσ7) ?_)
    refine qr_aload_n dX3_copyFrom_85 rfl 0 rfl ?_
    refine qr_aload_n dX3_copyFrom_86 rfl 1 rfl ?_
    refine qr_get1 (k := 8) (v := .int (σ7.1 v1 8)) hk1 (by decide) rfl qw_130 dX3_copyFrom_87 ?_
    obtain ⟨σ8, eσ8, h⟩ := qm_bind h
    refine qr_put1_8 hk0 qw_130 dX3_copyFrom_90 (qr_eqm (Option.some.inj eσ8) ?_)
    refine qr_aload_n dX3_copyFrom_93 rfl 0 rfl ?_
    refine qr_aload_n dX3_copyFrom_94 rfl 1 rfl ?_
    refine qr_get1 (k := 9) (v := .int (σ8.1 v1 9)) hk1 (by decide) rfl qw_133 dX3_copyFrom_95 ?_
    obtain ⟨σ9, eσ9, h⟩ := qm_bind h
    refine qr_put1_9 hk0 qw_133 dX3_copyFrom_98 (qr_eqm (Option.some.inj eσ9) ?_)
    obtain rfl := Option.some.inj h
    cases hT
    exact qr_vret dX3_copyFrom_101
  · rw [if_neg c15] at h
    refine qr_aload_n dX3_copyFrom_8 rfl 0 rfl ?_
    refine qr_get1 (k := 0) (v := .ref (qm_a E (v0 + 1))) hk0 (by decide) rfl qw_106 dX3_copyFrom_9 ?_
    refine qr_iload_n dX3_copyFrom_12 rfl 2 rfl ?_
    obtain ⟨c11, h⟩ := qm_chk h
    refine qr_aalds (qm_k_arr hk0) c11 dX3_copyFrom_13 ?_
    refine qr_aload_n dX3_copyFrom_14 rfl 1 rfl ?_
    refine qr_get1 (k := 0) (v := .ref (qm_a E (v1 + 1))) hk1 (by decide) rfl qw_106 dX3_copyFrom_15 ?_
    refine qr_iload_n dX3_copyFrom_18 rfl 2 rfl ?_
    obtain ⟨c12, h⟩ := qm_chk h
    refine qr_aalds (qm_k_arr hk1) c12 dX3_copyFrom_19 ?_
    obtain ⟨r13, er13, h⟩ := qm_bind h
    refine qr_call1 (st1 := []) rfl (qr_callV (id := v0 + 1 + 1 + v2.toNatClampNeg) (c := 0) (As := [.ref (qm_a E (v1 + 1 + 1 + v2.toNatClampNeg))]) (st := []) (qm_k_str (qm_k_arr hk0) c11) (by decide) rfl (ct_X2_copyFrom (l := l) (E := E) σ (v0 + 1 + 1 + v2.toNatClampNeg) (v1 + 1 + 1 + v2.toNatClampNeg) (qm_k_str (qm_k_arr hk0) c11) (qm_k_str (qm_k_arr hk1) c12) er13) qw_279 qw_3 qw_276 qw_277 qw_278 yd_X2_copyFrom (by decide) (by decide) rfl (Nat.le_of_ble_eq_true rfl) dX3_copyFrom_20) ?_
    obtain ⟨z14, ez14, h⟩ := qm_bind h
    refine qr_iinc (q := 2) (v := z14) (lv' := [(2, .int z14), (0, .ref (qm_a E v0)), (1, .ref (qm_a E v1))]) dX3_copyFrom_23 rfl (Option.some.inj ez14) (by decide) rfl ?_
    refine qr_goto (tgt := 2) dX3_copyFrom_26 (by decide) ?_
    obtain rfl := Option.some.inj h
    exact qr_sub [1, 2, 0] rfl hT
def lp_X3_copyFrom_2 (σ : qm_M) (v0 : Nat) (v1 : Nat) (v2 : Int32) : Option (qm_M) := qm_loop (fun s : Int32 × qm_M => bb_X3_copyFrom_2 s.2 v0 v1 s.1) 1000 (v2, σ)
theorem wl_X3_copyFrom_2 {l : Launch} {E : qm_E} (σ : qm_M) (v0 : Nat) (v1 : Nat) (v2 : Int32) (hk0 : qm_kind v0 = 2) (hk1 : qm_kind v1 = 2) {x : qm_M} (h : lp_X3_copyFrom_2 σ v0 v1 v2 = some x) {r : Option Value × qm_M} (hT : (fun x r => (none, x) = r) x r) : qm_Wp l E kd_X3_copyFrom "HungStreams$Tree" cX3_copyFrom 3 2 [(0, .ref (qm_a E v0)), (1, .ref (qm_a E v1)), (2, .int v2)] [] σ r :=
  qm_loop_T (P := pp_X3_copyFrom_2 l E v0 v1) (T1 := (fun x r => (none, x) = r)) (fun s x h r hT => wb_X3_copyFrom_2 (l := l) (E := E) s.2 v0 v1 s.1 hk0 hk1 h hT) h hT
def fn_X3_copyFrom (σ : qm_M) (v0 : Nat) (v1 : Nat) : Option (qm_M) :=
  lp_X3_copyFrom_2 σ v0 v1 0
set_option maxRecDepth 20000 in
theorem wf_X3_copyFrom {l : Launch} {E : qm_E} (σ : qm_M) (v0 : Nat) (v1 : Nat) (hk0 : qm_kind v0 = 2) (hk1 : qm_kind v1 = 2) {x : qm_M} (h : fn_X3_copyFrom σ v0 v1 = some x) {r : Option Value × qm_M} (hT : (fun x r => (none, x) = r) x r) : qm_Wp l E kd_X3_copyFrom "HungStreams$Tree" cX3_copyFrom 3 0 [(0, .ref (qm_a E v0)), (1, .ref (qm_a E v1))] [] σ r := by
  unfold fn_X3_copyFrom at h
  refine qr_iconst (v := 0) dX3_copyFrom_0 (by decide) ?_
  refine qr_istore_n (lv' := [(2, .int 0), (0, .ref (qm_a E v0)), (1, .ref (qm_a E v1))]) dX3_copyFrom_1 rfl (by decide) rfl ?_
  exact qr_sub [1, 2, 0] rfl (wl_X3_copyFrom_2 (l := l) (E := E) σ v0 v1 0 hk0 hk1 h hT)
theorem ct_X3_copyFrom {l : Launch} {E : qm_E} (σ : qm_M) (v0 : Nat) (v1 : Nat) (hk0 : qm_kind v0 = 2) (hk1 : qm_kind v1 = 2) {x : qm_M} (h : fn_X3_copyFrom σ v0 v1 = some x) : qm_Ct l E kd_X3_copyFrom yX3_copyFrom cX3_copyFrom 3 none [.ref (qm_a E v0), .ref (qm_a E v1)] σ (none, x) := qm_ofWp rfl (Nat.le_of_ble_eq_true rfl) (rfl) (wf_X3_copyFrom σ v0 v1 hk0 hk1 h rfl)
-- HungStreams.within (III)Z
abbrev kd_X6_within : Nat := 1
theorem yd_X6_within : (yX6_within).cls ≠ "java/lang/invoke/MethodHandle" ∧ (yX6_within).cls ≠ "java/lang/invoke/VarHandle" ∧ (parseMethodDescriptor (yX6_within).desc).map (fun d => d.parameters.length) = some 3 := by decide +kernel
def fn_X6_within (σ : qm_M) (v0 : Int32) (v1 : Int32) (v2 : Int32) : Option (Bool) :=
  if v0 < v1 then some false else if v2 < v0 then some false else some true
set_option maxRecDepth 20000 in
theorem wf_X6_within {l : Launch} {E : qm_E} (σ : qm_M) (v0 : Int32) (v1 : Int32) (v2 : Int32) {x : Bool} (h : fn_X6_within σ v0 v1 v2 = some x) {r : Option Value × qm_M} (hT : (fun x r => (some (.int (qm_b x)), σ) = r) x r) : qm_Wp l E kd_X6_within "HungStreams" cX6_within 3 0 [(0, .int v0), (1, .int v1), (2, .int v2)] [] σ r := by
  unfold fn_X6_within at h
  refine qr_iload_n dX6_within_0 rfl 0 rfl ?_
  refine qr_iload_n dX6_within_1 rfl 1 rfl ?_
  refine qr_icmp_lt (tgt := 14) dX6_within_2 (by decide) (fun c2 => ?_) (fun c2 => ?_)
  · rw [if_pos c2] at h
    refine qr_iconst (v := 0) dX6_within_14 (by decide) ?_
    obtain rfl := Option.some.inj h
    cases hT
    exact qr_iret dX6_within_15
  · rw [if_neg c2] at h
    refine qr_iload_n dX6_within_5 rfl 0 rfl ?_
    refine qr_iload_n dX6_within_6 rfl 2 rfl ?_
    refine qr_icmp_gt (tgt := 14) dX6_within_7 (by decide) (fun c1 => ?_) (fun c1 => ?_)
    · rw [if_pos c1] at h
      refine qr_iconst (v := 0) dX6_within_14 (by decide) ?_
      obtain rfl := Option.some.inj h
      cases hT
      exact qr_iret dX6_within_15
    · rw [if_neg c1] at h
      refine qr_iconst (v := 1) dX6_within_10 (by decide) ?_
      refine qr_goto (tgt := 15) dX6_within_11 (by decide) ?_
      obtain rfl := Option.some.inj h
      cases hT
      exact qr_iret dX6_within_15
theorem ct_X6_within {l : Launch} {E : qm_E} (σ : qm_M) (v0 : Int32) (v1 : Int32) (v2 : Int32) {x : Bool} (h : fn_X6_within σ v0 v1 v2 = some x) : qm_Ct l E kd_X6_within yX6_within cX6_within 3 (some .boolean) [.int v0, .int v1, .int v2] σ (some (.int (qm_b x)), σ) := qm_ofWp rfl (Nat.le_of_ble_eq_true rfl) (qm_rtz _) (wf_X6_within σ v0 v1 v2  h rfl)
-- HungStreams$Tree.isThere (I)Z
abbrev kd_X3_isThere : Nat := 2
theorem yd_X3_isThere : (yX3_isThere).cls ≠ "java/lang/invoke/MethodHandle" ∧ (yX3_isThere).cls ≠ "java/lang/invoke/VarHandle" ∧ (parseMethodDescriptor (yX3_isThere).desc).map (fun d => d.parameters.length) = some 1 := by decide +kernel
def fn_X3_isThere (σ : qm_M) (v0 : Nat) (v1 : Int32) : Option (Bool) :=
  (fn_X6_within σ v1 1 12).bind (fun r1 => if (qm_b r1) = 0 then some false else (fn_X6_has σ (σ.1 v0 1) v1).bind (fun r2 => if (qm_b r2) = 0 then some false else some true))
set_option maxRecDepth 20000 in
theorem wf_X3_isThere {l : Launch} {E : qm_E} (σ : qm_M) (v0 : Nat) (v1 : Int32) (hk0 : qm_kind v0 = 2) {x : Bool} (h : fn_X3_isThere σ v0 v1 = some x) {r : Option Value × qm_M} (hT : (fun x r => (some (.int (qm_b x)), σ) = r) x r) : qm_Wp l E kd_X3_isThere "HungStreams$Tree" cX3_isThere 2 0 [(0, .ref (qm_a E v0)), (1, .int v1)] [] σ r := by
  unfold fn_X3_isThere at h
  refine qr_iload_n dX3_isThere_0 rfl 1 rfl ?_
  refine qr_iconst (v := 1) dX3_isThere_1 (by decide) ?_
  refine qr_bipush (v := 12) dX3_isThere_2 (by decide) ?_
  obtain ⟨r1, er1, h⟩ := qm_bind h
  refine qr_call1 (st1 := [.int (qm_b r1)]) rfl (qr_callN (host := "HungStreams") (As := [.int v1, .int 1, .int 12]) (st := []) (ct_X6_within (l := l) (E := E) σ v1 1 12 er1) qw_250 qw_1 (List.mem_of_getElem? (i := 1) rfl) qw_249 yd_X6_within (by decide) (by decide) rfl (Nat.le_of_ble_eq_true rfl) dX3_isThere_4) ?_
  refine qr_if_eq (tgt := 25) dX3_isThere_7 (by decide) (fun c4 => ?_) (fun c4 => ?_)
  · rw [if_pos c4] at h
    refine qr_iconst (v := 0) dX3_isThere_25 (by decide) ?_
    obtain rfl := Option.some.inj h
    cases hT
    exact qr_iret dX3_isThere_26
  · rw [if_neg c4] at h
    refine qr_aload_n dX3_isThere_10 rfl 0 rfl ?_
    refine qr_get1 (k := 1) (v := .int (σ.1 v0 1)) hk0 (by decide) rfl qw_111 dX3_isThere_11 ?_
    refine qr_iload_n dX3_isThere_14 rfl 1 rfl ?_
    obtain ⟨r2, er2, h⟩ := qm_bind h
    refine qr_call1 (st1 := [.int (qm_b r2)]) rfl (qr_callN (host := "HungStreams") (As := [.int (σ.1 v0 1), .int v1]) (st := []) (ct_X6_has (l := l) (E := E) σ (σ.1 v0 1) v1 er2) qw_262 qw_1 (List.mem_of_getElem? (i := 2) rfl) qw_261 yd_X6_has (by decide) (by decide) rfl (Nat.le_of_ble_eq_true rfl) dX3_isThere_15) ?_
    refine qr_if_eq (tgt := 25) dX3_isThere_18 (by decide) (fun c3 => ?_) (fun c3 => ?_)
    · rw [if_pos c3] at h
      refine qr_iconst (v := 0) dX3_isThere_25 (by decide) ?_
      obtain rfl := Option.some.inj h
      cases hT
      exact qr_iret dX3_isThere_26
    · rw [if_neg c3] at h
      refine qr_iconst (v := 1) dX3_isThere_21 (by decide) ?_
      refine qr_goto (tgt := 26) dX3_isThere_22 (by decide) ?_
      obtain rfl := Option.some.inj h
      cases hT
      exact qr_iret dX3_isThere_26
theorem ct_X3_isThere {l : Launch} {E : qm_E} (σ : qm_M) (v0 : Nat) (v1 : Int32) (hk0 : qm_kind v0 = 2) {x : Bool} (h : fn_X3_isThere σ v0 v1 = some x) : qm_Ct l E kd_X3_isThere yX3_isThere cX3_isThere 2 (some .boolean) [.ref (qm_a E v0), .int v1] σ (some (.int (qm_b x)), σ) := qm_ofWp rfl (Nat.le_of_ble_eq_true rfl) (qm_rtz _) (wf_X3_isThere σ v0 v1 hk0 h rfl)
-- HungStreams$Tree.isNode (I)Z
abbrev kd_X3_isNode : Nat := 3
theorem yd_X3_isNode : (yX3_isNode).cls ≠ "java/lang/invoke/MethodHandle" ∧ (yX3_isNode).cls ≠ "java/lang/invoke/VarHandle" ∧ (parseMethodDescriptor (yX3_isNode).desc).map (fun d => d.parameters.length) = some 1 := by decide +kernel
def fn_X3_isNode (σ : qm_M) (v0 : Nat) (v1 : Int32) : Option (Bool) :=
  if v1 = 0 then some true else (fn_X3_isThere σ v0 v1).bind (fun r1 => if (qm_b r1) = 0 then some false else some true)
set_option maxRecDepth 20000 in
theorem wf_X3_isNode {l : Launch} {E : qm_E} (σ : qm_M) (v0 : Nat) (v1 : Int32) (hk0 : qm_kind v0 = 2) {x : Bool} (h : fn_X3_isNode σ v0 v1 = some x) {r : Option Value × qm_M} (hT : (fun x r => (some (.int (qm_b x)), σ) = r) x r) : qm_Wp l E kd_X3_isNode "HungStreams$Tree" cX3_isNode 2 0 [(0, .ref (qm_a E v0)), (1, .int v1)] [] σ r := by
  unfold fn_X3_isNode at h
  refine qr_iload_n dX3_isNode_0 rfl 1 rfl ?_
  refine qr_if_eq (tgt := 12) dX3_isNode_1 (by decide) (fun c3 => ?_) (fun c3 => ?_)
  · rw [if_pos c3] at h
    refine qr_iconst (v := 1) dX3_isNode_12 (by decide) ?_
    refine qr_goto (tgt := 17) dX3_isNode_13 (by decide) ?_
    obtain rfl := Option.some.inj h
    cases hT
    exact qr_iret dX3_isNode_17
  · rw [if_neg c3] at h
    refine qr_aload_n dX3_isNode_4 rfl 0 rfl ?_
    refine qr_iload_n dX3_isNode_5 rfl 1 rfl ?_
    obtain ⟨r1, er1, h⟩ := qm_bind h
    refine qr_call1 (st1 := [.int (qm_b r1)]) rfl (qr_callV (id := v0) (c := 1) (As := [.int v1]) (st := []) hk0 (by decide) rfl (ct_X3_isThere (l := l) (E := E) σ v0 v1 hk0 er1) qw_258 qw_2 qw_255 qw_256 qw_257 yd_X3_isThere (by decide) (by decide) rfl (Nat.le_of_ble_eq_true rfl) dX3_isNode_6) ?_
    refine qr_if_eq (tgt := 16) dX3_isNode_9 (by decide) (fun c2 => ?_) (fun c2 => ?_)
    · rw [if_pos c2] at h
      refine qr_iconst (v := 0) dX3_isNode_16 (by decide) ?_
      obtain rfl := Option.some.inj h
      cases hT
      exact qr_iret dX3_isNode_17
    · rw [if_neg c2] at h
      refine qr_iconst (v := 1) dX3_isNode_12 (by decide) ?_
      refine qr_goto (tgt := 17) dX3_isNode_13 (by decide) ?_
      obtain rfl := Option.some.inj h
      cases hT
      exact qr_iret dX3_isNode_17
theorem ct_X3_isNode {l : Launch} {E : qm_E} (σ : qm_M) (v0 : Nat) (v1 : Int32) (hk0 : qm_kind v0 = 2) {x : Bool} (h : fn_X3_isNode σ v0 v1 = some x) : qm_Ct l E kd_X3_isNode yX3_isNode cX3_isNode 2 (some .boolean) [.ref (qm_a E v0), .int v1] σ (some (.int (qm_b x)), σ) := qm_ofWp rfl (Nat.le_of_ble_eq_true rfl) (qm_rtz _) (wf_X3_isNode σ v0 v1 hk0 h rfl)
-- HungStreams$Tree.childCount (I)I
abbrev kd_X3_childCount : Nat := 3
theorem yd_X3_childCount : (yX3_childCount).cls ≠ "java/lang/invoke/MethodHandle" ∧ (yX3_childCount).cls ≠ "java/lang/invoke/VarHandle" ∧ (parseMethodDescriptor (yX3_childCount).desc).map (fun d => d.parameters.length) = some 1 := by decide +kernel
abbrev pp_X3_childCount_4 (l : Launch) (E : qm_E) (σ : qm_M) (v0 : Nat) (v1 : Int32) : (Int32 × Int32) → Option Value × qm_M → Prop := fun s r => qm_Wp l E kd_X3_childCount "HungStreams$Tree" cX3_childCount 4 4 [(0, .ref (qm_a E v0)), (1, .int v1), (2, .int s.1), (3, .int s.2)] [] σ r
def bb_X3_childCount_4 (σ : qm_M) (v0 : Nat) (v1 : Int32) (v2 : Int32) (v3 : Int32) : Option ((Int32 × Int32) ⊕ (Int32)) :=
  if 12 < v3 then (some v2).bind (fun y => some (.inr y)) else (fn_X3_isChild σ v0 v3 v1).bind (fun r2 => if (qm_b r2) = 0 then (some (v3 + 1)).bind (fun z3 => some (.inl (v2, z3))) else (some (v2 + 1)).bind (fun z4 => (some (v3 + 1)).bind (fun z5 => some (.inl (z4, z5)))))
set_option maxRecDepth 20000 in
theorem wb_X3_childCount_4 {l : Launch} {E : qm_E} (σ : qm_M) (v0 : Nat) (v1 : Int32) (v2 : Int32) (v3 : Int32) (hk0 : qm_kind v0 = 2) {x : (Int32 × Int32) ⊕ (Int32)} (h : bb_X3_childCount_4 σ v0 v1 v2 v3 = some x) {r : Option Value × qm_M} (hT : (qm_T (pp_X3_childCount_4 l E σ v0 v1) (fun x r => (some (.int x), σ) = r)) x r) : qm_Wp l E kd_X3_childCount "HungStreams$Tree" cX3_childCount 4 4 [(0, .ref (qm_a E v0)), (1, .int v1), (2, .int v2), (3, .int v3)] [] σ r := by
  unfold bb_X3_childCount_4 at h
  refine qr_iload_n dX3_childCount_4 rfl 3 rfl ?_
  refine qr_bipush (v := 12) dX3_childCount_5 (by decide) ?_
  refine qr_icmp_gt (tgt := 28) dX3_childCount_7 (by decide) (fun c7 => ?_) (fun c7 => ?_)
  · rw [if_pos c7] at h
    obtain ⟨y1, h1, hx⟩ := qm_bind h
    clear h
    cases hx
    have h := h1
    refine qr_iload_n dX3_childCount_28 rfl 2 rfl ?_
    obtain rfl := Option.some.inj h
    cases hT
    exact qr_iret dX3_childCount_29
  · rw [if_neg c7] at h
    refine qr_aload_n dX3_childCount_10 rfl 0 rfl ?_
    refine qr_iload_n dX3_childCount_11 rfl 3 rfl ?_
    refine qr_iload_n dX3_childCount_12 rfl 1 rfl ?_
    obtain ⟨r2, er2, h⟩ := qm_bind h
    refine qr_call1 (st1 := [.int (qm_b r2)]) rfl (qr_callV (id := v0) (c := 1) (As := [.int v3, .int v1]) (st := []) hk0 (by decide) rfl (ct_X3_isChild (l := l) (E := E) σ v0 v3 v1 hk0 er2) qw_299 qw_2 qw_296 qw_297 qw_298 yd_X3_isChild (by decide) (by decide) rfl (Nat.le_of_ble_eq_true rfl) dX3_childCount_13) ?_
    refine qr_if_eq (tgt := 22) dX3_childCount_16 (by decide) (fun c6 => ?_) (fun c6 => ?_)
    · rw [if_pos c6] at h
      obtain ⟨z3, ez3, h⟩ := qm_bind h
      refine qr_iinc (q := 3) (v := z3) (lv' := [(3, .int z3), (0, .ref (qm_a E v0)), (1, .int v1), (2, .int v2)]) dX3_childCount_22 rfl (Option.some.inj ez3) (by decide) rfl ?_
      refine qr_goto (tgt := 4) dX3_childCount_25 (by decide) ?_
      obtain rfl := Option.some.inj h
      exact qr_sub [1, 2, 3, 0] rfl hT
    · rw [if_neg c6] at h
      obtain ⟨z4, ez4, h⟩ := qm_bind h
      refine qr_iinc (q := 2) (v := z4) (lv' := [(2, .int z4), (0, .ref (qm_a E v0)), (1, .int v1), (3, .int v3)]) dX3_childCount_19 rfl (Option.some.inj ez4) (by decide) rfl ?_
      obtain ⟨z5, ez5, h⟩ := qm_bind h
      refine qr_iinc (q := 3) (v := z5) (lv' := [(3, .int z5), (2, .int z4), (0, .ref (qm_a E v0)), (1, .int v1)]) dX3_childCount_22 rfl (Option.some.inj ez5) (by decide) rfl ?_
      refine qr_goto (tgt := 4) dX3_childCount_25 (by decide) ?_
      obtain rfl := Option.some.inj h
      exact qr_sub [2, 3, 1, 0] rfl hT
def lp_X3_childCount_4 (σ : qm_M) (v0 : Nat) (v1 : Int32) (v2 : Int32) (v3 : Int32) : Option (Int32) := qm_loop (fun s : Int32 × Int32 => bb_X3_childCount_4 σ v0 v1 s.1 s.2) 1000 (v2, v3)
theorem wl_X3_childCount_4 {l : Launch} {E : qm_E} (σ : qm_M) (v0 : Nat) (v1 : Int32) (v2 : Int32) (v3 : Int32) (hk0 : qm_kind v0 = 2) {x : Int32} (h : lp_X3_childCount_4 σ v0 v1 v2 v3 = some x) {r : Option Value × qm_M} (hT : (fun x r => (some (.int x), σ) = r) x r) : qm_Wp l E kd_X3_childCount "HungStreams$Tree" cX3_childCount 4 4 [(0, .ref (qm_a E v0)), (1, .int v1), (2, .int v2), (3, .int v3)] [] σ r :=
  qm_loop_T (P := pp_X3_childCount_4 l E σ v0 v1) (T1 := (fun x r => (some (.int x), σ) = r)) (fun s x h r hT => wb_X3_childCount_4 (l := l) (E := E) σ v0 v1 s.1 s.2 hk0 h hT) h hT
def fn_X3_childCount (σ : qm_M) (v0 : Nat) (v1 : Int32) : Option (Int32) :=
  lp_X3_childCount_4 σ v0 v1 0 1
set_option maxRecDepth 20000 in
theorem wf_X3_childCount {l : Launch} {E : qm_E} (σ : qm_M) (v0 : Nat) (v1 : Int32) (hk0 : qm_kind v0 = 2) {x : Int32} (h : fn_X3_childCount σ v0 v1 = some x) {r : Option Value × qm_M} (hT : (fun x r => (some (.int x), σ) = r) x r) : qm_Wp l E kd_X3_childCount "HungStreams$Tree" cX3_childCount 4 0 [(0, .ref (qm_a E v0)), (1, .int v1)] [] σ r := by
  unfold fn_X3_childCount at h
  refine qr_iconst (v := 0) dX3_childCount_0 (by decide) ?_
  refine qr_istore_n (lv' := [(2, .int 0), (0, .ref (qm_a E v0)), (1, .int v1)]) dX3_childCount_1 rfl (by decide) rfl ?_
  refine qr_iconst (v := 1) dX3_childCount_2 (by decide) ?_
  refine qr_istore_n (lv' := [(3, .int 1), (2, .int 0), (0, .ref (qm_a E v0)), (1, .int v1)]) dX3_childCount_3 rfl (by decide) rfl ?_
  exact qr_sub [2, 3, 1, 0] rfl (wl_X3_childCount_4 (l := l) (E := E) σ v0 v1 0 1 hk0 h hT)
theorem ct_X3_childCount {l : Launch} {E : qm_E} (σ : qm_M) (v0 : Nat) (v1 : Int32) (hk0 : qm_kind v0 = 2) {x : Int32} (h : fn_X3_childCount σ v0 v1 = some x) : qm_Ct l E kd_X3_childCount yX3_childCount cX3_childCount 4 (some .int) [.ref (qm_a E v0), .int v1] σ (some (.int x), σ) := qm_ofWp rfl (Nat.le_of_ble_eq_true rfl) (Or.inl rfl) (wf_X3_childCount σ v0 v1 hk0 h rfl)
-- HungStreams$Tree.childAt (II)I
abbrev kd_X3_childAt : Nat := 3
theorem yd_X3_childAt : (yX3_childAt).cls ≠ "java/lang/invoke/MethodHandle" ∧ (yX3_childAt).cls ≠ "java/lang/invoke/VarHandle" ∧ (parseMethodDescriptor (yX3_childAt).desc).map (fun d => d.parameters.length) = some 2 := by decide +kernel
abbrev pp_X3_childAt_5 (l : Launch) (E : qm_E) (σ : qm_M) (v0 : Nat) (v1 : Int32) (v2 : Int32) : (Int32 × Int32) → Option Value × qm_M → Prop := fun s r => qm_Wp l E kd_X3_childAt "HungStreams$Tree" cX3_childAt 5 5 [(0, .ref (qm_a E v0)), (1, .int v1), (2, .int v2), (3, .int s.1), (4, .int s.2)] [] σ r
def bb_X3_childAt_5 (σ : qm_M) (v0 : Nat) (v1 : Int32) (v2 : Int32) (v3 : Int32) (v4 : Int32) : Option ((Int32 × Int32) ⊕ (Int32)) :=
  if 12 < v4 then (some (-1)).bind (fun y => some (.inr y)) else (fn_X3_isChild σ v0 v4 v1).bind (fun r2 => if (qm_b r2) = 0 then (some (v4 + 1)).bind (fun z3 => some (.inl (v3, z3))) else if v3 = v2 then (some v4).bind (fun y => some (.inr y)) else (some (v3 + 1)).bind (fun z4 => (some (v4 + 1)).bind (fun z5 => some (.inl (z4, z5)))))
set_option maxRecDepth 20000 in
theorem wb_X3_childAt_5 {l : Launch} {E : qm_E} (σ : qm_M) (v0 : Nat) (v1 : Int32) (v2 : Int32) (v3 : Int32) (v4 : Int32) (hk0 : qm_kind v0 = 2) {x : (Int32 × Int32) ⊕ (Int32)} (h : bb_X3_childAt_5 σ v0 v1 v2 v3 v4 = some x) {r : Option Value × qm_M} (hT : (qm_T (pp_X3_childAt_5 l E σ v0 v1 v2) (fun x r => (some (.int x), σ) = r)) x r) : qm_Wp l E kd_X3_childAt "HungStreams$Tree" cX3_childAt 5 5 [(0, .ref (qm_a E v0)), (1, .int v1), (2, .int v2), (3, .int v3), (4, .int v4)] [] σ r := by
  unfold bb_X3_childAt_5 at h
  refine qr_iload dX3_childAt_5 4 rfl ?_
  refine qr_bipush (v := 12) dX3_childAt_7 (by decide) ?_
  refine qr_icmp_gt (tgt := 39) dX3_childAt_9 (by decide) (fun c9 => ?_) (fun c9 => ?_)
  · rw [if_pos c9] at h
    obtain ⟨y1, h1, hx⟩ := qm_bind h
    clear h
    cases hx
    have h := h1
    refine qr_iconst (v := (-1)) dX3_childAt_39 (by decide) ?_
    obtain rfl := Option.some.inj h
    cases hT
    exact qr_iret dX3_childAt_40
  · rw [if_neg c9] at h
    refine qr_aload_n dX3_childAt_12 rfl 0 rfl ?_
    refine qr_iload dX3_childAt_13 4 rfl ?_
    refine qr_iload_n dX3_childAt_15 rfl 1 rfl ?_
    obtain ⟨r2, er2, h⟩ := qm_bind h
    refine qr_call1 (st1 := [.int (qm_b r2)]) rfl (qr_callV (id := v0) (c := 1) (As := [.int v4, .int v1]) (st := []) hk0 (by decide) rfl (ct_X3_isChild (l := l) (E := E) σ v0 v4 v1 hk0 er2) qw_299 qw_2 qw_296 qw_297 qw_298 yd_X3_isChild (by decide) (by decide) rfl (Nat.le_of_ble_eq_true rfl) dX3_childAt_16) ?_
    refine qr_if_eq (tgt := 33) dX3_childAt_19 (by decide) (fun c8 => ?_) (fun c8 => ?_)
    · rw [if_pos c8] at h
      obtain ⟨z3, ez3, h⟩ := qm_bind h
      refine qr_iinc (q := 4) (v := z3) (lv' := [(4, .int z3), (0, .ref (qm_a E v0)), (1, .int v1), (2, .int v2), (3, .int v3)]) dX3_childAt_33 rfl (Option.some.inj ez3) (by decide) rfl ?_
      refine qr_goto (tgt := 5) dX3_childAt_36 (by decide) ?_
      obtain rfl := Option.some.inj h
      exact qr_sub [1, 2, 3, 4, 0] rfl hT
    · rw [if_neg c8] at h
      refine qr_iload_n dX3_childAt_22 rfl 3 rfl ?_
      refine qr_iload_n dX3_childAt_23 rfl 2 rfl ?_
      refine qr_icmp_ne (tgt := 30) dX3_childAt_24 (by decide) (fun c7 => ?_) (fun c7 => ?_)
      · rw [if_neg c7] at h
        obtain ⟨z4, ez4, h⟩ := qm_bind h
        refine qr_iinc (q := 3) (v := z4) (lv' := [(3, .int z4), (0, .ref (qm_a E v0)), (1, .int v1), (2, .int v2), (4, .int v4)]) dX3_childAt_30 rfl (Option.some.inj ez4) (by decide) rfl ?_
        obtain ⟨z5, ez5, h⟩ := qm_bind h
        refine qr_iinc (q := 4) (v := z5) (lv' := [(4, .int z5), (3, .int z4), (0, .ref (qm_a E v0)), (1, .int v1), (2, .int v2)]) dX3_childAt_33 rfl (Option.some.inj ez5) (by decide) rfl ?_
        refine qr_goto (tgt := 5) dX3_childAt_36 (by decide) ?_
        obtain rfl := Option.some.inj h
        exact qr_sub [2, 3, 4, 1, 0] rfl hT
      · rw [if_pos c7] at h
        obtain ⟨y6, h1, hx⟩ := qm_bind h
        clear h
        cases hx
        have h := h1
        refine qr_iload dX3_childAt_27 4 rfl ?_
        obtain rfl := Option.some.inj h
        cases hT
        exact qr_iret dX3_childAt_29
def lp_X3_childAt_5 (σ : qm_M) (v0 : Nat) (v1 : Int32) (v2 : Int32) (v3 : Int32) (v4 : Int32) : Option (Int32) := qm_loop (fun s : Int32 × Int32 => bb_X3_childAt_5 σ v0 v1 v2 s.1 s.2) 1000 (v3, v4)
theorem wl_X3_childAt_5 {l : Launch} {E : qm_E} (σ : qm_M) (v0 : Nat) (v1 : Int32) (v2 : Int32) (v3 : Int32) (v4 : Int32) (hk0 : qm_kind v0 = 2) {x : Int32} (h : lp_X3_childAt_5 σ v0 v1 v2 v3 v4 = some x) {r : Option Value × qm_M} (hT : (fun x r => (some (.int x), σ) = r) x r) : qm_Wp l E kd_X3_childAt "HungStreams$Tree" cX3_childAt 5 5 [(0, .ref (qm_a E v0)), (1, .int v1), (2, .int v2), (3, .int v3), (4, .int v4)] [] σ r :=
  qm_loop_T (P := pp_X3_childAt_5 l E σ v0 v1 v2) (T1 := (fun x r => (some (.int x), σ) = r)) (fun s x h r hT => wb_X3_childAt_5 (l := l) (E := E) σ v0 v1 v2 s.1 s.2 hk0 h hT) h hT
def fn_X3_childAt (σ : qm_M) (v0 : Nat) (v1 : Int32) (v2 : Int32) : Option (Int32) :=
  lp_X3_childAt_5 σ v0 v1 v2 0 1
set_option maxRecDepth 20000 in
theorem wf_X3_childAt {l : Launch} {E : qm_E} (σ : qm_M) (v0 : Nat) (v1 : Int32) (v2 : Int32) (hk0 : qm_kind v0 = 2) {x : Int32} (h : fn_X3_childAt σ v0 v1 v2 = some x) {r : Option Value × qm_M} (hT : (fun x r => (some (.int x), σ) = r) x r) : qm_Wp l E kd_X3_childAt "HungStreams$Tree" cX3_childAt 5 0 [(0, .ref (qm_a E v0)), (1, .int v1), (2, .int v2)] [] σ r := by
  unfold fn_X3_childAt at h
  refine qr_iconst (v := 0) dX3_childAt_0 (by decide) ?_
  refine qr_istore_n (lv' := [(3, .int 0), (0, .ref (qm_a E v0)), (1, .int v1), (2, .int v2)]) dX3_childAt_1 rfl (by decide) rfl ?_
  refine qr_iconst (v := 1) dX3_childAt_2 (by decide) ?_
  refine qr_istore (lv' := [(4, .int 1), (3, .int 0), (0, .ref (qm_a E v0)), (1, .int v1), (2, .int v2)]) dX3_childAt_3 (by decide) rfl ?_
  exact qr_sub [2, 3, 4, 1, 0] rfl (wl_X3_childAt_5 (l := l) (E := E) σ v0 v1 v2 0 1 hk0 h hT)
theorem ct_X3_childAt {l : Launch} {E : qm_E} (σ : qm_M) (v0 : Nat) (v1 : Int32) (v2 : Int32) (hk0 : qm_kind v0 = 2) {x : Int32} (h : fn_X3_childAt σ v0 v1 v2 = some x) : qm_Ct l E kd_X3_childAt yX3_childAt cX3_childAt 5 (some .int) [.ref (qm_a E v0), .int v1, .int v2] σ (some (.int x), σ) := qm_ofWp rfl (Nat.le_of_ble_eq_true rfl) (Or.inl rfl) (wf_X3_childAt σ v0 v1 v2 hk0 h rfl)
-- HungStreams$Tree.isBelow (II)Z
abbrev kd_X3_isBelow : Nat := 2
theorem yd_X3_isBelow : (yX3_isBelow).cls ≠ "java/lang/invoke/MethodHandle" ∧ (yX3_isBelow).cls ≠ "java/lang/invoke/VarHandle" ∧ (parseMethodDescriptor (yX3_isBelow).desc).map (fun d => d.parameters.length) = some 2 := by decide +kernel
def fn_X3_isBelow (σ : qm_M) (v0 : Nat) (v1 : Int32) (v2 : Int32) : Option (Bool) :=
  if v1 = v2 then some false else (fn_X3_lineBits σ v0 v1).bind (fun r1 => (fn_X6_has σ r1 v2).bind (fun r2 => if (qm_b r2) = 0 then some false else some true))
set_option maxRecDepth 20000 in
theorem wf_X3_isBelow {l : Launch} {E : qm_E} (σ : qm_M) (v0 : Nat) (v1 : Int32) (v2 : Int32) (hk0 : qm_kind v0 = 2) {x : Bool} (h : fn_X3_isBelow σ v0 v1 v2 = some x) {r : Option Value × qm_M} (hT : (fun x r => (some (.int (qm_b x)), σ) = r) x r) : qm_Wp l E kd_X3_isBelow "HungStreams$Tree" cX3_isBelow 3 0 [(0, .ref (qm_a E v0)), (1, .int v1), (2, .int v2)] [] σ r := by
  unfold fn_X3_isBelow at h
  refine qr_iload_n dX3_isBelow_0 rfl 1 rfl ?_
  refine qr_iload_n dX3_isBelow_1 rfl 2 rfl ?_
  refine qr_icmp_eq (tgt := 21) dX3_isBelow_2 (by decide) (fun c4 => ?_) (fun c4 => ?_)
  · rw [if_pos c4] at h
    refine qr_iconst (v := 0) dX3_isBelow_21 (by decide) ?_
    obtain rfl := Option.some.inj h
    cases hT
    exact qr_iret dX3_isBelow_22
  · rw [if_neg c4] at h
    refine qr_aload_n dX3_isBelow_5 rfl 0 rfl ?_
    refine qr_iload_n dX3_isBelow_6 rfl 1 rfl ?_
    obtain ⟨r1, er1, h⟩ := qm_bind h
    refine qr_call1 (st1 := [.int r1]) rfl (qr_callV (id := v0) (c := 1) (As := [.int v1]) (st := []) hk0 (by decide) rfl (ct_X3_lineBits (l := l) (E := E) σ v0 v1 hk0 er1) qw_319 qw_2 qw_316 qw_317 qw_318 yd_X3_lineBits (by decide) (by decide) rfl (Nat.le_of_ble_eq_true rfl) dX3_isBelow_7) ?_
    refine qr_iload_n dX3_isBelow_10 rfl 2 rfl ?_
    obtain ⟨r2, er2, h⟩ := qm_bind h
    refine qr_call1 (st1 := [.int (qm_b r2)]) rfl (qr_callN (host := "HungStreams") (As := [.int r1, .int v2]) (st := []) (ct_X6_has (l := l) (E := E) σ r1 v2 er2) qw_262 qw_1 (List.mem_of_getElem? (i := 2) rfl) qw_261 yd_X6_has (by decide) (by decide) rfl (Nat.le_of_ble_eq_true rfl) dX3_isBelow_11) ?_
    refine qr_if_eq (tgt := 21) dX3_isBelow_14 (by decide) (fun c3 => ?_) (fun c3 => ?_)
    · rw [if_pos c3] at h
      refine qr_iconst (v := 0) dX3_isBelow_21 (by decide) ?_
      obtain rfl := Option.some.inj h
      cases hT
      exact qr_iret dX3_isBelow_22
    · rw [if_neg c3] at h
      refine qr_iconst (v := 1) dX3_isBelow_17 (by decide) ?_
      refine qr_goto (tgt := 22) dX3_isBelow_18 (by decide) ?_
      obtain rfl := Option.some.inj h
      cases hT
      exact qr_iret dX3_isBelow_22
theorem ct_X3_isBelow {l : Launch} {E : qm_E} (σ : qm_M) (v0 : Nat) (v1 : Int32) (v2 : Int32) (hk0 : qm_kind v0 = 2) {x : Bool} (h : fn_X3_isBelow σ v0 v1 v2 = some x) : qm_Ct l E kd_X3_isBelow yX3_isBelow cX3_isBelow 3 (some .boolean) [.ref (qm_a E v0), .int v1, .int v2] σ (some (.int (qm_b x)), σ) := qm_ofWp rfl (Nat.le_of_ble_eq_true rfl) (qm_rtz _) (wf_X3_isBelow σ v0 v1 v2 hk0 h rfl)
-- HungStreams$Tree.belowCount (I)I
abbrev kd_X3_belowCount : Nat := 3
theorem yd_X3_belowCount : (yX3_belowCount).cls ≠ "java/lang/invoke/MethodHandle" ∧ (yX3_belowCount).cls ≠ "java/lang/invoke/VarHandle" ∧ (parseMethodDescriptor (yX3_belowCount).desc).map (fun d => d.parameters.length) = some 1 := by decide +kernel
abbrev pp_X3_belowCount_4 (l : Launch) (E : qm_E) (σ : qm_M) (v0 : Nat) (v1 : Int32) : (Int32 × Int32) → Option Value × qm_M → Prop := fun s r => qm_Wp l E kd_X3_belowCount "HungStreams$Tree" cX3_belowCount 4 4 [(0, .ref (qm_a E v0)), (1, .int v1), (2, .int s.1), (3, .int s.2)] [] σ r
def bb_X3_belowCount_4 (σ : qm_M) (v0 : Nat) (v1 : Int32) (v2 : Int32) (v3 : Int32) : Option ((Int32 × Int32) ⊕ (Int32)) :=
  if 12 < v3 then (some v2).bind (fun y => some (.inr y)) else (fn_X6_has σ (σ.1 v0 1) v3).bind (fun r2 => if (qm_b r2) = 0 then (some (v3 + 1)).bind (fun z3 => some (.inl (v2, z3))) else (fn_X3_isBelow σ v0 v3 v1).bind (fun r4 => if (qm_b r4) = 0 then (some (v3 + 1)).bind (fun z5 => some (.inl (v2, z5))) else (some (v2 + 1)).bind (fun z6 => (some (v3 + 1)).bind (fun z7 => some (.inl (z6, z7))))))
set_option maxRecDepth 20000 in
theorem wb_X3_belowCount_4 {l : Launch} {E : qm_E} (σ : qm_M) (v0 : Nat) (v1 : Int32) (v2 : Int32) (v3 : Int32) (hk0 : qm_kind v0 = 2) {x : (Int32 × Int32) ⊕ (Int32)} (h : bb_X3_belowCount_4 σ v0 v1 v2 v3 = some x) {r : Option Value × qm_M} (hT : (qm_T (pp_X3_belowCount_4 l E σ v0 v1) (fun x r => (some (.int x), σ) = r)) x r) : qm_Wp l E kd_X3_belowCount "HungStreams$Tree" cX3_belowCount 4 4 [(0, .ref (qm_a E v0)), (1, .int v1), (2, .int v2), (3, .int v3)] [] σ r := by
  unfold bb_X3_belowCount_4 at h
  refine qr_iload_n dX3_belowCount_4 rfl 3 rfl ?_
  refine qr_bipush (v := 12) dX3_belowCount_5 (by decide) ?_
  refine qr_icmp_gt (tgt := 39) dX3_belowCount_7 (by decide) (fun c10 => ?_) (fun c10 => ?_)
  · rw [if_pos c10] at h
    obtain ⟨y1, h1, hx⟩ := qm_bind h
    clear h
    cases hx
    have h := h1
    refine qr_iload_n dX3_belowCount_39 rfl 2 rfl ?_
    obtain rfl := Option.some.inj h
    cases hT
    exact qr_iret dX3_belowCount_40
  · rw [if_neg c10] at h
    refine qr_aload_n dX3_belowCount_10 rfl 0 rfl ?_
    refine qr_get1 (k := 1) (v := .int (σ.1 v0 1)) hk0 (by decide) rfl qw_111 dX3_belowCount_11 ?_
    refine qr_iload_n dX3_belowCount_14 rfl 3 rfl ?_
    obtain ⟨r2, er2, h⟩ := qm_bind h
    refine qr_call1 (st1 := [.int (qm_b r2)]) rfl (qr_callN (host := "HungStreams") (As := [.int (σ.1 v0 1), .int v3]) (st := []) (ct_X6_has (l := l) (E := E) σ (σ.1 v0 1) v3 er2) qw_262 qw_1 (List.mem_of_getElem? (i := 2) rfl) qw_261 yd_X6_has (by decide) (by decide) rfl (Nat.le_of_ble_eq_true rfl) dX3_belowCount_15) ?_
    refine qr_if_eq (tgt := 33) dX3_belowCount_18 (by decide) (fun c9 => ?_) (fun c9 => ?_)
    · rw [if_pos c9] at h
      obtain ⟨z3, ez3, h⟩ := qm_bind h
      refine qr_iinc (q := 3) (v := z3) (lv' := [(3, .int z3), (0, .ref (qm_a E v0)), (1, .int v1), (2, .int v2)]) dX3_belowCount_33 rfl (Option.some.inj ez3) (by decide) rfl ?_
      refine qr_goto (tgt := 4) dX3_belowCount_36 (by decide) ?_
      obtain rfl := Option.some.inj h
      exact qr_sub [1, 2, 3, 0] rfl hT
    · rw [if_neg c9] at h
      refine qr_aload_n dX3_belowCount_21 rfl 0 rfl ?_
      refine qr_iload_n dX3_belowCount_22 rfl 3 rfl ?_
      refine qr_iload_n dX3_belowCount_23 rfl 1 rfl ?_
      obtain ⟨r4, er4, h⟩ := qm_bind h
      refine qr_call1 (st1 := [.int (qm_b r4)]) rfl (qr_callV (id := v0) (c := 1) (As := [.int v3, .int v1]) (st := []) hk0 (by decide) rfl (ct_X3_isBelow (l := l) (E := E) σ v0 v3 v1 hk0 er4) qw_315 qw_2 qw_369 qw_313 qw_314 yd_X3_isBelow (by decide) (by decide) rfl (Nat.le_of_ble_eq_true rfl) dX3_belowCount_24) ?_
      refine qr_if_eq (tgt := 33) dX3_belowCount_27 (by decide) (fun c8 => ?_) (fun c8 => ?_)
      · rw [if_pos c8] at h
        obtain ⟨z5, ez5, h⟩ := qm_bind h
        refine qr_iinc (q := 3) (v := z5) (lv' := [(3, .int z5), (0, .ref (qm_a E v0)), (1, .int v1), (2, .int v2)]) dX3_belowCount_33 rfl (Option.some.inj ez5) (by decide) rfl ?_
        refine qr_goto (tgt := 4) dX3_belowCount_36 (by decide) ?_
        obtain rfl := Option.some.inj h
        exact qr_sub [1, 2, 3, 0] rfl hT
      · rw [if_neg c8] at h
        obtain ⟨z6, ez6, h⟩ := qm_bind h
        refine qr_iinc (q := 2) (v := z6) (lv' := [(2, .int z6), (0, .ref (qm_a E v0)), (1, .int v1), (3, .int v3)]) dX3_belowCount_30 rfl (Option.some.inj ez6) (by decide) rfl ?_
        obtain ⟨z7, ez7, h⟩ := qm_bind h
        refine qr_iinc (q := 3) (v := z7) (lv' := [(3, .int z7), (2, .int z6), (0, .ref (qm_a E v0)), (1, .int v1)]) dX3_belowCount_33 rfl (Option.some.inj ez7) (by decide) rfl ?_
        refine qr_goto (tgt := 4) dX3_belowCount_36 (by decide) ?_
        obtain rfl := Option.some.inj h
        exact qr_sub [2, 3, 1, 0] rfl hT
def lp_X3_belowCount_4 (σ : qm_M) (v0 : Nat) (v1 : Int32) (v2 : Int32) (v3 : Int32) : Option (Int32) := qm_loop (fun s : Int32 × Int32 => bb_X3_belowCount_4 σ v0 v1 s.1 s.2) 1000 (v2, v3)
theorem wl_X3_belowCount_4 {l : Launch} {E : qm_E} (σ : qm_M) (v0 : Nat) (v1 : Int32) (v2 : Int32) (v3 : Int32) (hk0 : qm_kind v0 = 2) {x : Int32} (h : lp_X3_belowCount_4 σ v0 v1 v2 v3 = some x) {r : Option Value × qm_M} (hT : (fun x r => (some (.int x), σ) = r) x r) : qm_Wp l E kd_X3_belowCount "HungStreams$Tree" cX3_belowCount 4 4 [(0, .ref (qm_a E v0)), (1, .int v1), (2, .int v2), (3, .int v3)] [] σ r :=
  qm_loop_T (P := pp_X3_belowCount_4 l E σ v0 v1) (T1 := (fun x r => (some (.int x), σ) = r)) (fun s x h r hT => wb_X3_belowCount_4 (l := l) (E := E) σ v0 v1 s.1 s.2 hk0 h hT) h hT
def fn_X3_belowCount (σ : qm_M) (v0 : Nat) (v1 : Int32) : Option (Int32) :=
  lp_X3_belowCount_4 σ v0 v1 0 1
set_option maxRecDepth 20000 in
theorem wf_X3_belowCount {l : Launch} {E : qm_E} (σ : qm_M) (v0 : Nat) (v1 : Int32) (hk0 : qm_kind v0 = 2) {x : Int32} (h : fn_X3_belowCount σ v0 v1 = some x) {r : Option Value × qm_M} (hT : (fun x r => (some (.int x), σ) = r) x r) : qm_Wp l E kd_X3_belowCount "HungStreams$Tree" cX3_belowCount 4 0 [(0, .ref (qm_a E v0)), (1, .int v1)] [] σ r := by
  unfold fn_X3_belowCount at h
  refine qr_iconst (v := 0) dX3_belowCount_0 (by decide) ?_
  refine qr_istore_n (lv' := [(2, .int 0), (0, .ref (qm_a E v0)), (1, .int v1)]) dX3_belowCount_1 rfl (by decide) rfl ?_
  refine qr_iconst (v := 1) dX3_belowCount_2 (by decide) ?_
  refine qr_istore_n (lv' := [(3, .int 1), (2, .int 0), (0, .ref (qm_a E v0)), (1, .int v1)]) dX3_belowCount_3 rfl (by decide) rfl ?_
  exact qr_sub [2, 3, 1, 0] rfl (wl_X3_belowCount_4 (l := l) (E := E) σ v0 v1 0 1 hk0 h hT)
theorem ct_X3_belowCount {l : Launch} {E : qm_E} (σ : qm_M) (v0 : Nat) (v1 : Int32) (hk0 : qm_kind v0 = 2) {x : Int32} (h : fn_X3_belowCount σ v0 v1 = some x) : qm_Ct l E kd_X3_belowCount yX3_belowCount cX3_belowCount 4 (some .int) [.ref (qm_a E v0), .int v1] σ (some (.int x), σ) := qm_ofWp rfl (Nat.le_of_ble_eq_true rfl) (Or.inl rfl) (wf_X3_belowCount σ v0 v1 hk0 h rfl)
-- HungStreams$Tree.deepestShared (II)I
abbrev kd_X3_deepestShared : Nat := 2
theorem yd_X3_deepestShared : (yX3_deepestShared).cls ≠ "java/lang/invoke/MethodHandle" ∧ (yX3_deepestShared).cls ≠ "java/lang/invoke/VarHandle" ∧ (parseMethodDescriptor (yX3_deepestShared).desc).map (fun d => d.parameters.length) = some 2 := by decide +kernel
abbrev pp_X3_deepestShared_12 (l : Launch) (E : qm_E) (σ : qm_M) (v0 : Nat) (v3 : Int32) : (Int32 × Int32) → Option Value × qm_M → Prop := fun s r => qm_Wp l E kd_X3_deepestShared "HungStreams$Tree" cX3_deepestShared 6 12 [(0, .ref (qm_a E v0)), (3, .int v3), (4, .int s.1), (5, .int s.2)] [] σ r
def bb_X3_deepestShared_12 (σ : qm_M) (v0 : Nat) (v3 : Int32) (v4 : Int32) (v5 : Int32) : Option ((Int32 × Int32) ⊕ (Int32)) :=
  if 12 ≤ v5 then (some v4).bind (fun y => some (.inr y)) else if v4 = 0 then (some v4).bind (fun y => some (.inr y)) else (fn_X6_has σ v3 v4).bind (fun r4 => if (qm_b r4) = 0 then if ¬ (v4 < 0 ∨ 13 ≤ v4.toNatClampNeg) then (some (σ.1 (v0 + 1 + 1 + v4.toNatClampNeg) 0)).bind (fun z7 => (some (v5 + 1)).bind (fun z8 => some (.inl (z7, z8)))) else none else (some v4).bind (fun y => some (.inr y)))
set_option maxRecDepth 20000 in
theorem wb_X3_deepestShared_12 {l : Launch} {E : qm_E} (σ : qm_M) (v0 : Nat) (v3 : Int32) (v4 : Int32) (v5 : Int32) (hk0 : qm_kind v0 = 2) {x : (Int32 × Int32) ⊕ (Int32)} (h : bb_X3_deepestShared_12 σ v0 v3 v4 v5 = some x) {r : Option Value × qm_M} (hT : (qm_T (pp_X3_deepestShared_12 l E σ v0 v3) (fun x r => (some (.int x), σ) = r)) x r) : qm_Wp l E kd_X3_deepestShared "HungStreams$Tree" cX3_deepestShared 6 12 [(0, .ref (qm_a E v0)), (3, .int v3), (4, .int v4), (5, .int v5)] [] σ r := by
  unfold bb_X3_deepestShared_12 at h
  refine qr_iload dX3_deepestShared_12 3 rfl ?_
  refine qr_bipush (v := 12) dX3_deepestShared_14 (by decide) ?_
  refine qr_icmp_ge (tgt := 51) dX3_deepestShared_16 (by decide) (fun c11 => ?_) (fun c11 => ?_)
  · rw [if_pos c11] at h
    obtain ⟨y2, h1, hx⟩ := qm_bind h
    clear h
    cases hx
    have h := h1
    refine qr_iload dX3_deepestShared_51 2 rfl ?_
    obtain rfl := Option.some.inj h
    cases hT
    exact qr_iret dX3_deepestShared_53
  · rw [if_neg c11] at h
    refine qr_iload dX3_deepestShared_19 2 rfl ?_
    refine qr_if_eq (tgt := 51) dX3_deepestShared_21 (by decide) (fun c10 => ?_) (fun c10 => ?_)
    · rw [if_pos c10] at h
      obtain ⟨y3, h1, hx⟩ := qm_bind h
      clear h
      cases hx
      have h := h1
      refine qr_iload dX3_deepestShared_51 2 rfl ?_
      obtain rfl := Option.some.inj h
      cases hT
      exact qr_iret dX3_deepestShared_53
    · rw [if_neg c10] at h
      refine qr_iload_n dX3_deepestShared_24 rfl 1 rfl ?_
      refine qr_iload dX3_deepestShared_25 2 rfl ?_
      obtain ⟨r4, er4, h⟩ := qm_bind h
      refine qr_call1 (st1 := [.int (qm_b r4)]) rfl (qr_callN (host := "HungStreams") (As := [.int v3, .int v4]) (st := []) (ct_X6_has (l := l) (E := E) σ v3 v4 er4) qw_262 qw_1 (List.mem_of_getElem? (i := 2) rfl) qw_261 yd_X6_has (by decide) (by decide) rfl (Nat.le_of_ble_eq_true rfl) dX3_deepestShared_27) ?_
      refine qr_if_ne (tgt := 51) dX3_deepestShared_30 (by decide) (fun c9 => ?_) (fun c9 => ?_)
      · rw [if_neg c9] at h
        obtain ⟨y5, h1, hx⟩ := qm_bind h
        clear h
        cases hx
        have h := h1
        refine qr_iload dX3_deepestShared_51 2 rfl ?_
        obtain rfl := Option.some.inj h
        cases hT
        exact qr_iret dX3_deepestShared_53
      · rw [if_pos c9] at h
        refine qr_aload_n dX3_deepestShared_33 rfl 0 rfl ?_
        refine qr_get1 (k := 0) (v := .ref (qm_a E (v0 + 1))) hk0 (by decide) rfl qw_106 dX3_deepestShared_34 ?_
        refine qr_iload dX3_deepestShared_37 2 rfl ?_
        obtain ⟨c6, h⟩ := qm_chk h
        refine qr_aalds (qm_k_arr hk0) c6 dX3_deepestShared_39 ?_
        refine qr_get0 (k := 0) (v := .int (σ.1 (v0 + 1 + 1 + v4.toNatClampNeg) 0)) (qm_k_str (qm_k_arr hk0) c6) (by decide) rfl qw_36 dX3_deepestShared_40 ?_
        obtain ⟨z7, ez7, h⟩ := qm_bind h
        refine qr_eqi (Option.some.inj ez7) ?_
        refine qr_istore (lv' := [(4, .int z7), (0, .ref (qm_a E v0)), (3, .int v3), (5, .int v5)]) dX3_deepestShared_43 (by decide) rfl ?_
        obtain ⟨z8, ez8, h⟩ := qm_bind h
        refine qr_iinc (q := 3) (v := z8) (lv' := [(5, .int z8), (4, .int z7), (0, .ref (qm_a E v0)), (3, .int v3)]) dX3_deepestShared_45 rfl (Option.some.inj ez8) (by decide) rfl ?_
        refine qr_goto (tgt := 12) dX3_deepestShared_48 (by decide) ?_
        obtain rfl := Option.some.inj h
        exact qr_sub [2, 3, 1, 0] rfl hT
def lp_X3_deepestShared_12 (σ : qm_M) (v0 : Nat) (v3 : Int32) (v4 : Int32) (v5 : Int32) : Option (Int32) := qm_loop (fun s : Int32 × Int32 => bb_X3_deepestShared_12 σ v0 v3 s.1 s.2) 1000 (v4, v5)
theorem wl_X3_deepestShared_12 {l : Launch} {E : qm_E} (σ : qm_M) (v0 : Nat) (v3 : Int32) (v4 : Int32) (v5 : Int32) (hk0 : qm_kind v0 = 2) {x : Int32} (h : lp_X3_deepestShared_12 σ v0 v3 v4 v5 = some x) {r : Option Value × qm_M} (hT : (fun x r => (some (.int x), σ) = r) x r) : qm_Wp l E kd_X3_deepestShared "HungStreams$Tree" cX3_deepestShared 6 12 [(0, .ref (qm_a E v0)), (3, .int v3), (4, .int v4), (5, .int v5)] [] σ r :=
  qm_loop_T (P := pp_X3_deepestShared_12 l E σ v0 v3) (T1 := (fun x r => (some (.int x), σ) = r)) (fun s x h r hT => wb_X3_deepestShared_12 (l := l) (E := E) σ v0 v3 s.1 s.2 hk0 h hT) h hT
def fn_X3_deepestShared (σ : qm_M) (v0 : Nat) (v1 : Int32) (v2 : Int32) : Option (Int32) :=
  (fn_X3_lineBits σ v0 v2).bind (fun r1 => lp_X3_deepestShared_12 σ v0 r1 v1 0)
set_option maxRecDepth 20000 in
theorem wf_X3_deepestShared {l : Launch} {E : qm_E} (σ : qm_M) (v0 : Nat) (v1 : Int32) (v2 : Int32) (hk0 : qm_kind v0 = 2) {x : Int32} (h : fn_X3_deepestShared σ v0 v1 v2 = some x) {r : Option Value × qm_M} (hT : (fun x r => (some (.int x), σ) = r) x r) : qm_Wp l E kd_X3_deepestShared "HungStreams$Tree" cX3_deepestShared 6 0 [(0, .ref (qm_a E v0)), (1, .int v1), (2, .int v2)] [] σ r := by
  unfold fn_X3_deepestShared at h
  refine qr_aload_n dX3_deepestShared_0 rfl 0 rfl ?_
  refine qr_iload_n dX3_deepestShared_1 rfl 2 rfl ?_
  obtain ⟨r1, er1, h⟩ := qm_bind h
  refine qr_call1 (st1 := [.int r1]) rfl (qr_callV (id := v0) (c := 1) (As := [.int v2]) (st := []) hk0 (by decide) rfl (ct_X3_lineBits (l := l) (E := E) σ v0 v2 hk0 er1) qw_319 qw_2 qw_316 qw_317 qw_318 yd_X3_lineBits (by decide) (by decide) rfl (Nat.le_of_ble_eq_true rfl) dX3_deepestShared_2) ?_
  refine qr_istore_n (lv' := [(3, .int r1), (0, .ref (qm_a E v0)), (1, .int v1), (2, .int v2)]) dX3_deepestShared_5 rfl (by decide) rfl ?_
  refine qr_iload_n dX3_deepestShared_6 rfl 2 rfl ?_
  refine qr_istore (lv' := [(4, .int v1), (3, .int r1), (0, .ref (qm_a E v0)), (1, .int v1), (2, .int v2)]) dX3_deepestShared_7 (by decide) rfl ?_
  refine qr_iconst (v := 0) dX3_deepestShared_9 (by decide) ?_
  refine qr_istore (lv' := [(5, .int 0), (4, .int v1), (3, .int r1), (0, .ref (qm_a E v0)), (1, .int v1), (2, .int v2)]) dX3_deepestShared_10 (by decide) rfl ?_
  exact qr_sub [3, 2, 1, 0] rfl (wl_X3_deepestShared_12 (l := l) (E := E) σ v0 r1 v1 0 hk0 h hT)
theorem ct_X3_deepestShared {l : Launch} {E : qm_E} (σ : qm_M) (v0 : Nat) (v1 : Int32) (v2 : Int32) (hk0 : qm_kind v0 = 2) {x : Int32} (h : fn_X3_deepestShared σ v0 v1 v2 = some x) : qm_Ct l E kd_X3_deepestShared yX3_deepestShared cX3_deepestShared 6 (some .int) [.ref (qm_a E v0), .int v1, .int v2] σ (some (.int x), σ) := qm_ofWp rfl (Nat.le_of_ble_eq_true rfl) (Or.inl rfl) (wf_X3_deepestShared σ v0 v1 v2 hk0 h rfl)
-- HungStreams$Tree.sentTogether ()I
abbrev kd_X3_sentTogether : Nat := 2
theorem yd_X3_sentTogether : (yX3_sentTogether).cls ≠ "java/lang/invoke/MethodHandle" ∧ (yX3_sentTogether).cls ≠ "java/lang/invoke/VarHandle" ∧ (parseMethodDescriptor (yX3_sentTogether).desc).map (fun d => d.parameters.length) = some 0 := by decide +kernel
abbrev pp_X3_sentTogether_4 (l : Launch) (E : qm_E) (σ : qm_M) (v0 : Nat) : (Int32 × Int32) → Option Value × qm_M → Prop := fun s r => qm_Wp l E kd_X3_sentTogether "HungStreams$Tree" cX3_sentTogether 3 4 [(0, .ref (qm_a E v0)), (1, .int s.1), (2, .int s.2)] [] σ r
def bb_X3_sentTogether_4 (σ : qm_M) (v0 : Nat) (v1 : Int32) (v2 : Int32) : Option ((Int32 × Int32) ⊕ (Int32)) :=
  if 12 < v2 then (some v1).bind (fun y => some (.inr y)) else (fn_X6_has σ (σ.1 v0 1) v2).bind (fun r2 => if (qm_b r2) = 0 then (some (v2 + 1)).bind (fun z3 => some (.inl (v1, z3))) else if ¬ (v2 < 0 ∨ 13 ≤ v2.toNatClampNeg) then (some (v1 + (σ.1 (v0 + 1 + 1 + v2.toNatClampNeg) 8))).bind (fun z5 => (some (v2 + 1)).bind (fun z6 => some (.inl (z5, z6)))) else none)
set_option maxRecDepth 20000 in
theorem wb_X3_sentTogether_4 {l : Launch} {E : qm_E} (σ : qm_M) (v0 : Nat) (v1 : Int32) (v2 : Int32) (hk0 : qm_kind v0 = 2) {x : (Int32 × Int32) ⊕ (Int32)} (h : bb_X3_sentTogether_4 σ v0 v1 v2 = some x) {r : Option Value × qm_M} (hT : (qm_T (pp_X3_sentTogether_4 l E σ v0) (fun x r => (some (.int x), σ) = r)) x r) : qm_Wp l E kd_X3_sentTogether "HungStreams$Tree" cX3_sentTogether 3 4 [(0, .ref (qm_a E v0)), (1, .int v1), (2, .int v2)] [] σ r := by
  unfold bb_X3_sentTogether_4 at h
  refine qr_iload_n dX3_sentTogether_4 rfl 2 rfl ?_
  refine qr_bipush (v := 12) dX3_sentTogether_5 (by decide) ?_
  refine qr_icmp_gt (tgt := 39) dX3_sentTogether_7 (by decide) (fun c8 => ?_) (fun c8 => ?_)
  · rw [if_pos c8] at h
    obtain ⟨y1, h1, hx⟩ := qm_bind h
    clear h
    cases hx
    have h := h1
    refine qr_iload_n dX3_sentTogether_39 rfl 1 rfl ?_
    obtain rfl := Option.some.inj h
    cases hT
    exact qr_iret dX3_sentTogether_40
  · rw [if_neg c8] at h
    refine qr_aload_n dX3_sentTogether_10 rfl 0 rfl ?_
    refine qr_get1 (k := 1) (v := .int (σ.1 v0 1)) hk0 (by decide) rfl qw_111 dX3_sentTogether_11 ?_
    refine qr_iload_n dX3_sentTogether_14 rfl 2 rfl ?_
    obtain ⟨r2, er2, h⟩ := qm_bind h
    refine qr_call1 (st1 := [.int (qm_b r2)]) rfl (qr_callN (host := "HungStreams") (As := [.int (σ.1 v0 1), .int v2]) (st := []) (ct_X6_has (l := l) (E := E) σ (σ.1 v0 1) v2 er2) qw_262 qw_1 (List.mem_of_getElem? (i := 2) rfl) qw_261 yd_X6_has (by decide) (by decide) rfl (Nat.le_of_ble_eq_true rfl) dX3_sentTogether_15) ?_
    refine qr_if_eq (tgt := 33) dX3_sentTogether_18 (by decide) (fun c7 => ?_) (fun c7 => ?_)
    · rw [if_pos c7] at h
      obtain ⟨z3, ez3, h⟩ := qm_bind h
      refine qr_iinc (q := 2) (v := z3) (lv' := [(2, .int z3), (0, .ref (qm_a E v0)), (1, .int v1)]) dX3_sentTogether_33 rfl (Option.some.inj ez3) (by decide) rfl ?_
      refine qr_goto (tgt := 4) dX3_sentTogether_36 (by decide) ?_
      obtain rfl := Option.some.inj h
      exact qr_sub [1, 2, 0] rfl hT
    · rw [if_neg c7] at h
      refine qr_iload_n dX3_sentTogether_21 rfl 1 rfl ?_
      refine qr_aload_n dX3_sentTogether_22 rfl 0 rfl ?_
      refine qr_get1 (k := 0) (v := .ref (qm_a E (v0 + 1))) hk0 (by decide) rfl qw_106 dX3_sentTogether_23 ?_
      refine qr_iload_n dX3_sentTogether_26 rfl 2 rfl ?_
      obtain ⟨c4, h⟩ := qm_chk h
      refine qr_aalds (qm_k_arr hk0) c4 dX3_sentTogether_27 ?_
      refine qr_get0 (k := 8) (v := .int (σ.1 (v0 + 1 + 1 + v2.toNatClampNeg) 8)) (qm_k_str (qm_k_arr hk0) c4) (by decide) rfl qw_62 dX3_sentTogether_28 ?_
      refine qr_iadd dX3_sentTogether_31 ?_
      obtain ⟨z5, ez5, h⟩ := qm_bind h
      refine qr_eqi (Option.some.inj ez5) ?_
      refine qr_istore_n (lv' := [(1, .int z5), (0, .ref (qm_a E v0)), (2, .int v2)]) dX3_sentTogether_32 rfl (by decide) rfl ?_
      obtain ⟨z6, ez6, h⟩ := qm_bind h
      refine qr_iinc (q := 2) (v := z6) (lv' := [(2, .int z6), (1, .int z5), (0, .ref (qm_a E v0))]) dX3_sentTogether_33 rfl (Option.some.inj ez6) (by decide) rfl ?_
      refine qr_goto (tgt := 4) dX3_sentTogether_36 (by decide) ?_
      obtain rfl := Option.some.inj h
      exact qr_sub [2, 1, 0] rfl hT
def lp_X3_sentTogether_4 (σ : qm_M) (v0 : Nat) (v1 : Int32) (v2 : Int32) : Option (Int32) := qm_loop (fun s : Int32 × Int32 => bb_X3_sentTogether_4 σ v0 s.1 s.2) 1000 (v1, v2)
theorem wl_X3_sentTogether_4 {l : Launch} {E : qm_E} (σ : qm_M) (v0 : Nat) (v1 : Int32) (v2 : Int32) (hk0 : qm_kind v0 = 2) {x : Int32} (h : lp_X3_sentTogether_4 σ v0 v1 v2 = some x) {r : Option Value × qm_M} (hT : (fun x r => (some (.int x), σ) = r) x r) : qm_Wp l E kd_X3_sentTogether "HungStreams$Tree" cX3_sentTogether 3 4 [(0, .ref (qm_a E v0)), (1, .int v1), (2, .int v2)] [] σ r :=
  qm_loop_T (P := pp_X3_sentTogether_4 l E σ v0) (T1 := (fun x r => (some (.int x), σ) = r)) (fun s x h r hT => wb_X3_sentTogether_4 (l := l) (E := E) σ v0 s.1 s.2 hk0 h hT) h hT
def fn_X3_sentTogether (σ : qm_M) (v0 : Nat) : Option (Int32) :=
  lp_X3_sentTogether_4 σ v0 0 1
set_option maxRecDepth 20000 in
theorem wf_X3_sentTogether {l : Launch} {E : qm_E} (σ : qm_M) (v0 : Nat) (hk0 : qm_kind v0 = 2) {x : Int32} (h : fn_X3_sentTogether σ v0 = some x) {r : Option Value × qm_M} (hT : (fun x r => (some (.int x), σ) = r) x r) : qm_Wp l E kd_X3_sentTogether "HungStreams$Tree" cX3_sentTogether 3 0 [(0, .ref (qm_a E v0))] [] σ r := by
  unfold fn_X3_sentTogether at h
  refine qr_iconst (v := 0) dX3_sentTogether_0 (by decide) ?_
  refine qr_istore_n (lv' := [(1, .int 0), (0, .ref (qm_a E v0))]) dX3_sentTogether_1 rfl (by decide) rfl ?_
  refine qr_iconst (v := 1) dX3_sentTogether_2 (by decide) ?_
  refine qr_istore_n (lv' := [(2, .int 1), (1, .int 0), (0, .ref (qm_a E v0))]) dX3_sentTogether_3 rfl (by decide) rfl ?_
  exact qr_sub [2, 1, 0] rfl (wl_X3_sentTogether_4 (l := l) (E := E) σ v0 0 1 hk0 h hT)
theorem ct_X3_sentTogether {l : Launch} {E : qm_E} (σ : qm_M) (v0 : Nat) (hk0 : qm_kind v0 = 2) {x : Int32} (h : fn_X3_sentTogether σ v0 = some x) : qm_Ct l E kd_X3_sentTogether yX3_sentTogether cX3_sentTogether 3 (some .int) [.ref (qm_a E v0)] σ (some (.int x), σ) := qm_ofWp rfl (Nat.le_of_ble_eq_true rfl) (Or.inl rfl) (wf_X3_sentTogether σ v0 hk0 h rfl)
-- HungStreams$Tree.greatestLongest ()I
abbrev kd_X3_greatestLongest : Nat := 2
theorem yd_X3_greatestLongest : (yX3_greatestLongest).cls ≠ "java/lang/invoke/MethodHandle" ∧ (yX3_greatestLongest).cls ≠ "java/lang/invoke/VarHandle" ∧ (parseMethodDescriptor (yX3_greatestLongest).desc).map (fun d => d.parameters.length) = some 0 := by decide +kernel
abbrev pp_X3_greatestLongest_4 (l : Launch) (E : qm_E) (σ : qm_M) (v0 : Nat) : (Int32 × Int32) → Option Value × qm_M → Prop := fun s r => qm_Wp l E kd_X3_greatestLongest "HungStreams$Tree" cX3_greatestLongest 3 4 [(0, .ref (qm_a E v0)), (1, .int s.1), (2, .int s.2)] [] σ r
def bb_X3_greatestLongest_4 (σ : qm_M) (v0 : Nat) (v1 : Int32) (v2 : Int32) : Option ((Int32 × Int32) ⊕ (Int32)) :=
  if 12 < v2 then (some v1).bind (fun y => some (.inr y)) else (fn_X6_has σ (σ.1 v0 1) v2).bind (fun r2 => if (qm_b r2) = 0 then (some (v2 + 1)).bind (fun z3 => some (.inl (v1, z3))) else if ¬ (v2 < 0 ∨ 13 ≤ v2.toNatClampNeg) then (fn_J_max σ v1 (σ.1 (v0 + 1 + 1 + v2.toNatClampNeg) 10)).bind (fun r5 => (some (v2 + 1)).bind (fun z6 => some (.inl (r5, z6)))) else none)
set_option maxRecDepth 20000 in
theorem wb_X3_greatestLongest_4 {l : Launch} {E : qm_E} (σ : qm_M) (v0 : Nat) (v1 : Int32) (v2 : Int32) (hk0 : qm_kind v0 = 2) {x : (Int32 × Int32) ⊕ (Int32)} (h : bb_X3_greatestLongest_4 σ v0 v1 v2 = some x) {r : Option Value × qm_M} (hT : (qm_T (pp_X3_greatestLongest_4 l E σ v0) (fun x r => (some (.int x), σ) = r)) x r) : qm_Wp l E kd_X3_greatestLongest "HungStreams$Tree" cX3_greatestLongest 3 4 [(0, .ref (qm_a E v0)), (1, .int v1), (2, .int v2)] [] σ r := by
  unfold bb_X3_greatestLongest_4 at h
  refine qr_iload_n dX3_greatestLongest_4 rfl 2 rfl ?_
  refine qr_bipush (v := 12) dX3_greatestLongest_5 (by decide) ?_
  refine qr_icmp_gt (tgt := 41) dX3_greatestLongest_7 (by decide) (fun c8 => ?_) (fun c8 => ?_)
  · rw [if_pos c8] at h
    obtain ⟨y1, h1, hx⟩ := qm_bind h
    clear h
    cases hx
    have h := h1
    refine qr_iload_n dX3_greatestLongest_41 rfl 1 rfl ?_
    obtain rfl := Option.some.inj h
    cases hT
    exact qr_iret dX3_greatestLongest_42
  · rw [if_neg c8] at h
    refine qr_aload_n dX3_greatestLongest_10 rfl 0 rfl ?_
    refine qr_get1 (k := 1) (v := .int (σ.1 v0 1)) hk0 (by decide) rfl qw_111 dX3_greatestLongest_11 ?_
    refine qr_iload_n dX3_greatestLongest_14 rfl 2 rfl ?_
    obtain ⟨r2, er2, h⟩ := qm_bind h
    refine qr_call1 (st1 := [.int (qm_b r2)]) rfl (qr_callN (host := "HungStreams") (As := [.int (σ.1 v0 1), .int v2]) (st := []) (ct_X6_has (l := l) (E := E) σ (σ.1 v0 1) v2 er2) qw_262 qw_1 (List.mem_of_getElem? (i := 2) rfl) qw_261 yd_X6_has (by decide) (by decide) rfl (Nat.le_of_ble_eq_true rfl) dX3_greatestLongest_15) ?_
    refine qr_if_eq (tgt := 35) dX3_greatestLongest_18 (by decide) (fun c7 => ?_) (fun c7 => ?_)
    · rw [if_pos c7] at h
      obtain ⟨z3, ez3, h⟩ := qm_bind h
      refine qr_iinc (q := 2) (v := z3) (lv' := [(2, .int z3), (0, .ref (qm_a E v0)), (1, .int v1)]) dX3_greatestLongest_35 rfl (Option.some.inj ez3) (by decide) rfl ?_
      refine qr_goto (tgt := 4) dX3_greatestLongest_38 (by decide) ?_
      obtain rfl := Option.some.inj h
      exact qr_sub [1, 2, 0] rfl hT
    · rw [if_neg c7] at h
      refine qr_iload_n dX3_greatestLongest_21 rfl 1 rfl ?_
      refine qr_aload_n dX3_greatestLongest_22 rfl 0 rfl ?_
      refine qr_get1 (k := 0) (v := .ref (qm_a E (v0 + 1))) hk0 (by decide) rfl qw_106 dX3_greatestLongest_23 ?_
      refine qr_iload_n dX3_greatestLongest_26 rfl 2 rfl ?_
      obtain ⟨c4, h⟩ := qm_chk h
      refine qr_aalds (qm_k_arr hk0) c4 dX3_greatestLongest_27 ?_
      refine qr_get0 (k := 10) (v := .int (σ.1 (v0 + 1 + 1 + v2.toNatClampNeg) 10)) (qm_k_str (qm_k_arr hk0) c4) (by decide) rfl qw_66 dX3_greatestLongest_28 ?_
      obtain ⟨r5, er5, h⟩ := qm_bind h
      refine qr_call1 (st1 := [.int r5]) rfl (qr_callS (As := [.int v1, .int (σ.1 (v0 + 1 + 1 + v2.toNatClampNeg) 10)]) (st := []) (ct_J_max (l := l) (E := E) σ v1 (σ.1 (v0 + 1 + 1 + v2.toNatClampNeg) 10) er5) qw_481 qw_7 qw_519 qw_480 yd_J_max (by decide) (by decide) rfl (Nat.le_of_ble_eq_true rfl) dX3_greatestLongest_31) ?_
      refine qr_istore_n (lv' := [(1, .int r5), (0, .ref (qm_a E v0)), (2, .int v2)]) dX3_greatestLongest_34 rfl (by decide) rfl ?_
      obtain ⟨z6, ez6, h⟩ := qm_bind h
      refine qr_iinc (q := 2) (v := z6) (lv' := [(2, .int z6), (1, .int r5), (0, .ref (qm_a E v0))]) dX3_greatestLongest_35 rfl (Option.some.inj ez6) (by decide) rfl ?_
      refine qr_goto (tgt := 4) dX3_greatestLongest_38 (by decide) ?_
      obtain rfl := Option.some.inj h
      exact qr_sub [2, 1, 0] rfl hT
def lp_X3_greatestLongest_4 (σ : qm_M) (v0 : Nat) (v1 : Int32) (v2 : Int32) : Option (Int32) := qm_loop (fun s : Int32 × Int32 => bb_X3_greatestLongest_4 σ v0 s.1 s.2) 1000 (v1, v2)
theorem wl_X3_greatestLongest_4 {l : Launch} {E : qm_E} (σ : qm_M) (v0 : Nat) (v1 : Int32) (v2 : Int32) (hk0 : qm_kind v0 = 2) {x : Int32} (h : lp_X3_greatestLongest_4 σ v0 v1 v2 = some x) {r : Option Value × qm_M} (hT : (fun x r => (some (.int x), σ) = r) x r) : qm_Wp l E kd_X3_greatestLongest "HungStreams$Tree" cX3_greatestLongest 3 4 [(0, .ref (qm_a E v0)), (1, .int v1), (2, .int v2)] [] σ r :=
  qm_loop_T (P := pp_X3_greatestLongest_4 l E σ v0) (T1 := (fun x r => (some (.int x), σ) = r)) (fun s x h r hT => wb_X3_greatestLongest_4 (l := l) (E := E) σ v0 s.1 s.2 hk0 h hT) h hT
def fn_X3_greatestLongest (σ : qm_M) (v0 : Nat) : Option (Int32) :=
  lp_X3_greatestLongest_4 σ v0 0 1
set_option maxRecDepth 20000 in
theorem wf_X3_greatestLongest {l : Launch} {E : qm_E} (σ : qm_M) (v0 : Nat) (hk0 : qm_kind v0 = 2) {x : Int32} (h : fn_X3_greatestLongest σ v0 = some x) {r : Option Value × qm_M} (hT : (fun x r => (some (.int x), σ) = r) x r) : qm_Wp l E kd_X3_greatestLongest "HungStreams$Tree" cX3_greatestLongest 3 0 [(0, .ref (qm_a E v0))] [] σ r := by
  unfold fn_X3_greatestLongest at h
  refine qr_iconst (v := 0) dX3_greatestLongest_0 (by decide) ?_
  refine qr_istore_n (lv' := [(1, .int 0), (0, .ref (qm_a E v0))]) dX3_greatestLongest_1 rfl (by decide) rfl ?_
  refine qr_iconst (v := 1) dX3_greatestLongest_2 (by decide) ?_
  refine qr_istore_n (lv' := [(2, .int 1), (1, .int 0), (0, .ref (qm_a E v0))]) dX3_greatestLongest_3 rfl (by decide) rfl ?_
  exact qr_sub [2, 1, 0] rfl (wl_X3_greatestLongest_4 (l := l) (E := E) σ v0 0 1 hk0 h hT)
theorem ct_X3_greatestLongest {l : Launch} {E : qm_E} (σ : qm_M) (v0 : Nat) (hk0 : qm_kind v0 = 2) {x : Int32} (h : fn_X3_greatestLongest σ v0 = some x) : qm_Ct l E kd_X3_greatestLongest yX3_greatestLongest cX3_greatestLongest 3 (some .int) [.ref (qm_a E v0)] σ (some (.int x), σ) := qm_ofWp rfl (Nat.le_of_ble_eq_true rfl) (Or.inl rfl) (wf_X3_greatestLongest σ v0 hk0 h rfl)
-- HungStreams$Tree.enter (II)V
abbrev kd_X3_enter : Nat := 2
theorem yd_X3_enter : (yX3_enter).cls ≠ "java/lang/invoke/MethodHandle" ∧ (yX3_enter).cls ≠ "java/lang/invoke/VarHandle" ∧ (parseMethodDescriptor (yX3_enter).desc).map (fun d => d.parameters.length) = some 2 := by decide +kernel
def fn_X3_enter (σ : qm_M) (v0 : Nat) (v1 : Int32) (v2 : Int32) : Option (qm_M) :=
  if ¬ (v1 < 0 ∨ 13 ≤ v1.toNatClampNeg) then (fn_X2_begin σ (v0 + 1 + 1 + v1.toNatClampNeg) v2).bind (fun r2 => (some (qm_si r2 v0 1 ((r2.1 v0 1) ||| (1 <<< (v1 &&& 31))))).bind (fun σ3 => (some (qm_si σ3 v0 2 ((σ3.1 v0 2) &&& ((1 <<< (v1 &&& 31)) ^^^ (-1))))).bind (fun σ4 => some σ4))) else none
set_option maxRecDepth 20000 in
theorem wf_X3_enter {l : Launch} {E : qm_E} (σ : qm_M) (v0 : Nat) (v1 : Int32) (v2 : Int32) (hk0 : qm_kind v0 = 2) {x : qm_M} (h : fn_X3_enter σ v0 v1 v2 = some x) {r : Option Value × qm_M} (hT : (fun x r => (none, x) = r) x r) : qm_Wp l E kd_X3_enter "HungStreams$Tree" cX3_enter 3 0 [(0, .ref (qm_a E v0)), (1, .int v1), (2, .int v2)] [] σ r := by
  unfold fn_X3_enter at h
  refine qr_aload_n dX3_enter_0 rfl 0 rfl ?_
  refine qr_get1 (k := 0) (v := .ref (qm_a E (v0 + 1))) hk0 (by decide) rfl qw_106 dX3_enter_1 ?_
  refine qr_iload_n dX3_enter_4 rfl 1 rfl ?_
  obtain ⟨c1, h⟩ := qm_chk h
  refine qr_aalds (qm_k_arr hk0) c1 dX3_enter_5 ?_
  refine qr_iload_n dX3_enter_6 rfl 2 rfl ?_
  obtain ⟨r2, er2, h⟩ := qm_bind h
  refine qr_call1 (st1 := []) rfl (qr_callV (id := v0 + 1 + 1 + v1.toNatClampNeg) (c := 0) (As := [.int v2]) (st := []) (qm_k_str (qm_k_arr hk0) c1) (by decide) rfl (ct_X2_begin (l := l) (E := E) σ (v0 + 1 + 1 + v1.toNatClampNeg) v2 (qm_k_str (qm_k_arr hk0) c1) er2) qw_287 qw_3 qw_284 qw_285 qw_286 yd_X2_begin (by decide) (by decide) rfl (Nat.le_of_ble_eq_true rfl) dX3_enter_7) ?_
  refine qr_aload_n dX3_enter_10 rfl 0 rfl ?_
  refine qr_dup dX3_enter_11 rfl ?_
  refine qr_get1 (k := 1) (v := .int (r2.1 v0 1)) hk0 (by decide) rfl qw_111 dX3_enter_12 ?_
  refine qr_iconst (v := 1) dX3_enter_15 (by decide) ?_
  refine qr_iload_n dX3_enter_16 rfl 1 rfl ?_
  refine qr_ishl dX3_enter_17 ?_
  refine qr_ior dX3_enter_18 ?_
  obtain ⟨σ3, eσ3, h⟩ := qm_bind h
  refine qr_put1_1 hk0 qw_111 dX3_enter_19 (qr_eqm (Option.some.inj eσ3) ?_)
  refine qr_aload_n dX3_enter_22 rfl 0 rfl ?_
  refine qr_dup dX3_enter_23 rfl ?_
  refine qr_get1 (k := 2) (v := .int (σ3.1 v0 2)) hk0 (by decide) rfl qw_114 dX3_enter_24 ?_
  refine qr_iconst (v := 1) dX3_enter_27 (by decide) ?_
  refine qr_iload_n dX3_enter_28 rfl 1 rfl ?_
  refine qr_ishl dX3_enter_29 ?_
  refine qr_iconst (v := (-1)) dX3_enter_30 (by decide) ?_
  refine qr_ixor dX3_enter_31 ?_
  refine qr_iand dX3_enter_32 ?_
  obtain ⟨σ4, eσ4, h⟩ := qm_bind h
  refine qr_put1_2 hk0 qw_114 dX3_enter_33 (qr_eqm (Option.some.inj eσ4) ?_)
  obtain rfl := Option.some.inj h
  cases hT
  exact qr_vret dX3_enter_36
theorem ct_X3_enter {l : Launch} {E : qm_E} (σ : qm_M) (v0 : Nat) (v1 : Int32) (v2 : Int32) (hk0 : qm_kind v0 = 2) {x : qm_M} (h : fn_X3_enter σ v0 v1 v2 = some x) : qm_Ct l E kd_X3_enter yX3_enter cX3_enter 3 none [.ref (qm_a E v0), .int v1, .int v2] σ (none, x) := qm_ofWp rfl (Nat.le_of_ble_eq_true rfl) (rfl) (wf_X3_enter σ v0 v1 v2 hk0 h rfl)
-- HungStreams$Tree.attach (IIZ)V
abbrev kd_X3_attach : Nat := 4
theorem yd_X3_attach : (yX3_attach).cls ≠ "java/lang/invoke/MethodHandle" ∧ (yX3_attach).cls ≠ "java/lang/invoke/VarHandle" ∧ (parseMethodDescriptor (yX3_attach).desc).map (fun d => d.parameters.length) = some 3 := by decide +kernel
def fn_X3_attach (σ : qm_M) (v0 : Nat) (v1 : Int32) (v2 : Int32) (v3 : Int32) : Option (qm_M) :=
  if v3 = 0 then (fn_X3_hang σ v0 v1 v2).bind (fun r1 => some r1) else (fn_X3_hangChildren σ v0 v2 v1).bind (fun r2 => (fn_X3_hang r2 v0 v1 v2).bind (fun r3 => some r3))
set_option maxRecDepth 20000 in
theorem wf_X3_attach {l : Launch} {E : qm_E} (σ : qm_M) (v0 : Nat) (v1 : Int32) (v2 : Int32) (v3 : Int32) (hk0 : qm_kind v0 = 2) {x : qm_M} (h : fn_X3_attach σ v0 v1 v2 v3 = some x) {r : Option Value × qm_M} (hT : (fun x r => (none, x) = r) x r) : qm_Wp l E kd_X3_attach "HungStreams$Tree" cX3_attach 4 0 [(0, .ref (qm_a E v0)), (1, .int v1), (2, .int v2), (3, .int v3)] [] σ r := by
  unfold fn_X3_attach at h
  refine qr_iload_n dX3_attach_0 rfl 3 rfl ?_
  refine qr_if_eq (tgt := 10) dX3_attach_1 (by decide) (fun c4 => ?_) (fun c4 => ?_)
  · rw [if_pos c4] at h
    refine qr_aload_n dX3_attach_10 rfl 0 rfl ?_
    refine qr_iload_n dX3_attach_11 rfl 1 rfl ?_
    refine qr_iload_n dX3_attach_12 rfl 2 rfl ?_
    obtain ⟨r1, er1, h⟩ := qm_bind h
    refine qr_call1 (st1 := []) rfl (qr_callV (id := v0) (c := 1) (As := [.int v1, .int v2]) (st := []) hk0 (by decide) rfl (ct_X3_hang (l := l) (E := E) σ v0 v1 v2 hk0 er1) qw_303 qw_2 qw_300 qw_301 qw_302 yd_X3_hang (by decide) (by decide) rfl (Nat.le_of_ble_eq_true rfl) dX3_attach_13) ?_
    obtain rfl := Option.some.inj h
    cases hT
    exact qr_vret dX3_attach_16
  · rw [if_neg c4] at h
    refine qr_aload_n dX3_attach_4 rfl 0 rfl ?_
    refine qr_iload_n dX3_attach_5 rfl 2 rfl ?_
    refine qr_iload_n dX3_attach_6 rfl 1 rfl ?_
    obtain ⟨r2, er2, h⟩ := qm_bind h
    refine qr_call1 (st1 := []) rfl (qr_callV (id := v0) (c := 1) (As := [.int v2, .int v1]) (st := []) hk0 (by decide) rfl (ct_X3_hangChildren (l := l) (E := E) σ v0 v2 v1 hk0 er2) qw_295 qw_2 qw_292 qw_293 qw_294 yd_X3_hangChildren (by decide) (by decide) rfl (Nat.le_of_ble_eq_true rfl) dX3_attach_7) ?_
    refine qr_aload_n dX3_attach_10 rfl 0 rfl ?_
    refine qr_iload_n dX3_attach_11 rfl 1 rfl ?_
    refine qr_iload_n dX3_attach_12 rfl 2 rfl ?_
    obtain ⟨r3, er3, h⟩ := qm_bind h
    refine qr_call1 (st1 := []) rfl (qr_callV (id := v0) (c := 1) (As := [.int v1, .int v2]) (st := []) hk0 (by decide) rfl (ct_X3_hang (l := l) (E := E) r2 v0 v1 v2 hk0 er3) qw_303 qw_2 qw_300 qw_301 qw_302 yd_X3_hang (by decide) (by decide) rfl (Nat.le_of_ble_eq_true rfl) dX3_attach_13) ?_
    obtain rfl := Option.some.inj h
    cases hT
    exact qr_vret dX3_attach_16
theorem ct_X3_attach {l : Launch} {E : qm_E} (σ : qm_M) (v0 : Nat) (v1 : Int32) (v2 : Int32) (v3 : Int32) (hk0 : qm_kind v0 = 2) {x : qm_M} (h : fn_X3_attach σ v0 v1 v2 v3 = some x) : qm_Ct l E kd_X3_attach yX3_attach cX3_attach 4 none [.ref (qm_a E v0), .int v1, .int v2, .int v3] σ (none, x) := qm_ofWp rfl (Nat.le_of_ble_eq_true rfl) (rfl) (wf_X3_attach σ v0 v1 v2 v3 hk0 h rfl)
-- HungStreams$Tree.changeSetting (II)I
abbrev kd_X3_changeSetting : Nat := 6
theorem yd_X3_changeSetting : (yX3_changeSetting).cls ≠ "java/lang/invoke/MethodHandle" ∧ (yX3_changeSetting).cls ≠ "java/lang/invoke/VarHandle" ∧ (parseMethodDescriptor (yX3_changeSetting).desc).map (fun d => d.parameters.length) = some 2 := by decide +kernel
def fn_X3_changeSetting (σ : qm_M) (v0 : Nat) (v1 : Int32) (v2 : Int32) : Option (Int32 × qm_M) :=
  if v1 = 0 then (some (σ.1 v0 3)).bind (fun z10 => (some (qm_si σ v0 3 v2)).bind (fun σ11 => some (z10, σ11))) else if v1 = 1 then (some (σ.1 v0 4)).bind (fun z7 => (some (qm_si σ v0 4 v2)).bind (fun σ8 => some (z7, σ8))) else if v1 = 2 then (some (σ.1 v0 5)).bind (fun z3 => (some (qm_si σ v0 5 v2)).bind (fun σ4 => (fn_X3_letGo σ4 v0).bind (fun r5 => some (z3, r5)))) else (some (σ.1 v0 6)).bind (fun z1 => (some (qm_si σ v0 6 v2)).bind (fun σ2 => some (z1, σ2)))
set_option maxRecDepth 20000 in
theorem wf_X3_changeSetting {l : Launch} {E : qm_E} (σ : qm_M) (v0 : Nat) (v1 : Int32) (v2 : Int32) (hk0 : qm_kind v0 = 2) {x : Int32 × qm_M} (h : fn_X3_changeSetting σ v0 v1 v2 = some x) {r : Option Value × qm_M} (hT : (fun x r => (some (.int x.1), x.2) = r) x r) : qm_Wp l E kd_X3_changeSetting "HungStreams$Tree" cX3_changeSetting 4 0 [(0, .ref (qm_a E v0)), (1, .int v1), (2, .int v2)] [] σ r := by
  unfold fn_X3_changeSetting at h
  refine qr_iload_n dX3_changeSetting_0 rfl 1 rfl ?_
  refine qr_if_ne (tgt := 17) dX3_changeSetting_1 (by decide) (fun c12 => ?_) (fun c12 => ?_)
  · rw [if_neg c12] at h
    refine qr_iload_n dX3_changeSetting_17 rfl 1 rfl ?_
    refine qr_iconst (v := 1) dX3_changeSetting_18 (by decide) ?_
    refine qr_icmp_ne (tgt := 35) dX3_changeSetting_19 (by decide) (fun c9 => ?_) (fun c9 => ?_)
    · rw [if_neg c9] at h
      refine qr_iload_n dX3_changeSetting_35 rfl 1 rfl ?_
      refine qr_iconst (v := 2) dX3_changeSetting_36 (by decide) ?_
      refine qr_icmp_ne (tgt := 57) dX3_changeSetting_37 (by decide) (fun c6 => ?_) (fun c6 => ?_)
      · rw [if_neg c6] at h
        refine qr_aload_n dX3_changeSetting_57 rfl 0 rfl ?_
        refine qr_get1 (k := 6) (v := .int (σ.1 v0 6)) hk0 (by decide) rfl qw_124 dX3_changeSetting_58 ?_
        obtain ⟨z1, ez1, h⟩ := qm_bind h
        refine qr_eqi (Option.some.inj ez1) ?_
        refine qr_istore_n (lv' := [(3, .int z1), (0, .ref (qm_a E v0)), (1, .int v1), (2, .int v2)]) dX3_changeSetting_61 rfl (by decide) rfl ?_
        refine qr_aload_n dX3_changeSetting_62 rfl 1 rfl ?_
        refine qr_iload_n dX3_changeSetting_63 rfl 3 rfl ?_
        obtain ⟨σ2, eσ2, h⟩ := qm_bind h
        refine qr_put1_6 hk0 qw_124 dX3_changeSetting_64 (qr_eqm (Option.some.inj eσ2) ?_)
        refine qr_iload_n dX3_changeSetting_67 rfl 0 rfl ?_
        obtain rfl := Option.some.inj h
        cases hT
        exact qr_iret dX3_changeSetting_68
      · rw [if_pos c6] at h
        refine qr_aload_n dX3_changeSetting_40 rfl 0 rfl ?_
        refine qr_get1 (k := 5) (v := .int (σ.1 v0 5)) hk0 (by decide) rfl qw_122 dX3_changeSetting_41 ?_
        obtain ⟨z3, ez3, h⟩ := qm_bind h
        refine qr_eqi (Option.some.inj ez3) ?_
        refine qr_istore_n (lv' := [(3, .int z3), (0, .ref (qm_a E v0)), (1, .int v1), (2, .int v2)]) dX3_changeSetting_44 rfl (by decide) rfl ?_
        refine qr_aload_n dX3_changeSetting_45 rfl 1 rfl ?_
        refine qr_iload_n dX3_changeSetting_46 rfl 3 rfl ?_
        obtain ⟨σ4, eσ4, h⟩ := qm_bind h
        refine qr_put1_5 hk0 qw_122 dX3_changeSetting_47 (qr_eqm (Option.some.inj eσ4) ?_)
        refine qr_aload_n dX3_changeSetting_50 rfl 1 rfl ?_
        obtain ⟨r5, er5, h⟩ := qm_bind h
        refine qr_call1 (st1 := []) rfl (qr_callV (id := v0) (c := 1) (As := []) (st := []) hk0 (by decide) rfl (ct_X3_letGo (l := l) (E := E) σ4 v0 hk0 er5) qw_340 qw_2 qw_428 qw_338 qw_339 yd_X3_letGo (by decide) (by decide) rfl (Nat.le_of_ble_eq_true rfl) dX3_changeSetting_51) ?_
        refine qr_goto (tgt := 67) dX3_changeSetting_54 (by decide) ?_
        refine qr_iload_n dX3_changeSetting_67 rfl 0 rfl ?_
        obtain rfl := Option.some.inj h
        cases hT
        exact qr_iret dX3_changeSetting_68
    · rw [if_pos c9] at h
      refine qr_aload_n dX3_changeSetting_22 rfl 0 rfl ?_
      refine qr_get1 (k := 4) (v := .int (σ.1 v0 4)) hk0 (by decide) rfl qw_119 dX3_changeSetting_23 ?_
      obtain ⟨z7, ez7, h⟩ := qm_bind h
      refine qr_eqi (Option.some.inj ez7) ?_
      refine qr_istore_n (lv' := [(3, .int z7), (0, .ref (qm_a E v0)), (1, .int v1), (2, .int v2)]) dX3_changeSetting_26 rfl (by decide) rfl ?_
      refine qr_aload_n dX3_changeSetting_27 rfl 1 rfl ?_
      refine qr_iload_n dX3_changeSetting_28 rfl 3 rfl ?_
      obtain ⟨σ8, eσ8, h⟩ := qm_bind h
      refine qr_put1_4 hk0 qw_119 dX3_changeSetting_29 (qr_eqm (Option.some.inj eσ8) ?_)
      refine qr_goto (tgt := 67) dX3_changeSetting_32 (by decide) ?_
      refine qr_iload_n dX3_changeSetting_67 rfl 0 rfl ?_
      obtain rfl := Option.some.inj h
      cases hT
      exact qr_iret dX3_changeSetting_68
  · rw [if_pos c12] at h
    refine qr_aload_n dX3_changeSetting_4 rfl 0 rfl ?_
    refine qr_get1 (k := 3) (v := .int (σ.1 v0 3)) hk0 (by decide) rfl qw_116 dX3_changeSetting_5 ?_
    obtain ⟨z10, ez10, h⟩ := qm_bind h
    refine qr_eqi (Option.some.inj ez10) ?_
    refine qr_istore_n (lv' := [(3, .int z10), (0, .ref (qm_a E v0)), (1, .int v1), (2, .int v2)]) dX3_changeSetting_8 rfl (by decide) rfl ?_
    refine qr_aload_n dX3_changeSetting_9 rfl 1 rfl ?_
    refine qr_iload_n dX3_changeSetting_10 rfl 3 rfl ?_
    obtain ⟨σ11, eσ11, h⟩ := qm_bind h
    refine qr_put1_3 hk0 qw_116 dX3_changeSetting_11 (qr_eqm (Option.some.inj eσ11) ?_)
    refine qr_goto (tgt := 67) dX3_changeSetting_14 (by decide) ?_
    refine qr_iload_n dX3_changeSetting_67 rfl 0 rfl ?_
    obtain rfl := Option.some.inj h
    cases hT
    exact qr_iret dX3_changeSetting_68
theorem ct_X3_changeSetting {l : Launch} {E : qm_E} (σ : qm_M) (v0 : Nat) (v1 : Int32) (v2 : Int32) (hk0 : qm_kind v0 = 2) {x : Int32 × qm_M} (h : fn_X3_changeSetting σ v0 v1 v2 = some x) : qm_Ct l E kd_X3_changeSetting yX3_changeSetting cX3_changeSetting 4 (some .int) [.ref (qm_a E v0), .int v1, .int v2] σ (some (.int x.1), x.2) := qm_ofWp rfl (Nat.le_of_ble_eq_true rfl) (Or.inl rfl) (wf_X3_changeSetting σ v0 v1 v2 hk0 h rfl)
