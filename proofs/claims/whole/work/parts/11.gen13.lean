abbrev kd_L_law : Nat := 27
abbrev pp_L_law_18 (l : Launch) (E : qm_E) : (Int32 × qm_M) → Option Value × qm_M → Prop := fun s r => qm_Wp l E kd_L_law "HungStreamsLaw" cL_law 4 18 [(0, .ref (qm_a E 222)), (1, .ref (qm_a E 200)), (2, .ref (qm_a E 210)), (3, .int s.1)] [] s.2 r
def bb_L_law_18 (E : qm_E) (σ : qm_M) (v3 : Int32) : Option ((Int32 × qm_M) ⊕ (Bool × qm_M)) :=
  if ((Int32.ofNat E.2.2.2.2.1) - 5) < v3 then (some (true, σ)).bind (fun y => some (.inr y)) else if ¬ (v3 < 0 ∨ E.2.2.2.2.1 ≤ v3.toNatClampNeg) then if ((E.2.2.2.2.2 v3.toNatClampNeg) &&& 31) = 0 then if ¬ ((v3 + 1) < 0 ∨ E.2.2.2.2.1 ≤ (v3 + 1).toNatClampNeg) then if ¬ ((v3 + 2) < 0 ∨ E.2.2.2.2.1 ≤ (v3 + 2).toNatClampNeg) then if ¬ ((v3 + 3) < 0 ∨ E.2.2.2.2.1 ≤ (v3 + 3).toNatClampNeg) then if ¬ ((v3 + 4) < 0 ∨ E.2.2.2.2.1 ≤ (v3 + 4).toNatClampNeg) then (fn_X6_comes σ (E.2.2.2.2.2 (v3 + 1).toNatClampNeg) (E.2.2.2.2.2 (v3 + 2).toNatClampNeg) (E.2.2.2.2.2 (v3 + 3).toNatClampNeg) (E.2.2.2.2.2 (v3 + 4).toNatClampNeg)).bind (fun r7 => if ¬ ((v3 + 1) < 0 ∨ E.2.2.2.2.1 ≤ (v3 + 1).toNatClampNeg) then if ¬ ((v3 + 2) < 0 ∨ E.2.2.2.2.1 ≤ (v3 + 2).toNatClampNeg) then if ¬ ((v3 + 3) < 0 ∨ E.2.2.2.2.1 ≤ (v3 + 3).toNatClampNeg) then if ¬ ((v3 + 4) < 0 ∨ E.2.2.2.2.1 ≤ (v3 + 4).toNatClampNeg) then (fn_X7_comes r7.2 (E.2.2.2.2.2 (v3 + 1).toNatClampNeg) (E.2.2.2.2.2 (v3 + 2).toNatClampNeg) (E.2.2.2.2.2 (v3 + 3).toNatClampNeg) (E.2.2.2.2.2 (v3 + 4).toNatClampNeg)).bind (fun r12 => if r7.1 = r12.1 then (some (v3 + 5)).bind (fun z13 => some (.inl (z13, r12.2))) else (some (false, r12.2)).bind (fun y => some (.inr y))) else none else none else none else none) else none else none else none else none else if ((E.2.2.2.2.2 v3.toNatClampNeg) &&& 31) = 1 then if ¬ ((v3 + 1) < 0 ∨ E.2.2.2.2.1 ≤ (v3 + 1).toNatClampNeg) then if ¬ ((v3 + 2) < 0 ∨ E.2.2.2.2.1 ≤ (v3 + 2).toNatClampNeg) then if ¬ ((v3 + 3) < 0 ∨ E.2.2.2.2.1 ≤ (v3 + 3).toNatClampNeg) then if ¬ ((v3 + 4) < 0 ∨ E.2.2.2.2.1 ≤ (v3 + 4).toNatClampNeg) then (fn_X6_moves σ (E.2.2.2.2.2 (v3 + 1).toNatClampNeg) (E.2.2.2.2.2 (v3 + 2).toNatClampNeg) (E.2.2.2.2.2 (v3 + 3).toNatClampNeg) (E.2.2.2.2.2 (v3 + 4).toNatClampNeg)).bind (fun r21 => if ¬ ((v3 + 1) < 0 ∨ E.2.2.2.2.1 ≤ (v3 + 1).toNatClampNeg) then if ¬ ((v3 + 2) < 0 ∨ E.2.2.2.2.1 ≤ (v3 + 2).toNatClampNeg) then if ¬ ((v3 + 3) < 0 ∨ E.2.2.2.2.1 ≤ (v3 + 3).toNatClampNeg) then if ¬ ((v3 + 4) < 0 ∨ E.2.2.2.2.1 ≤ (v3 + 4).toNatClampNeg) then (fn_X7_moves r21.2 (E.2.2.2.2.2 (v3 + 1).toNatClampNeg) (E.2.2.2.2.2 (v3 + 2).toNatClampNeg) (E.2.2.2.2.2 (v3 + 3).toNatClampNeg) (E.2.2.2.2.2 (v3 + 4).toNatClampNeg)).bind (fun r26 => if r21.1 = r26.1 then (some (v3 + 5)).bind (fun z27 => some (.inl (z27, r26.2))) else (some (false, r26.2)).bind (fun y => some (.inr y))) else none else none else none else none) else none else none else none else none else if ((E.2.2.2.2.2 v3.toNatClampNeg) &&& 31) = 2 then if ¬ ((v3 + 1) < 0 ∨ E.2.2.2.2.1 ≤ (v3 + 1).toNatClampNeg) then if ¬ ((v3 + 2) < 0 ∨ E.2.2.2.2.1 ≤ (v3 + 2).toNatClampNeg) then if ¬ ((v3 + 3) < 0 ∨ E.2.2.2.2.1 ≤ (v3 + 3).toNatClampNeg) then (fn_X6_sets σ (E.2.2.2.2.2 (v3 + 1).toNatClampNeg) (E.2.2.2.2.2 (v3 + 2).toNatClampNeg) (E.2.2.2.2.2 (v3 + 3).toNatClampNeg)).bind (fun r34 => if ¬ ((v3 + 1) < 0 ∨ E.2.2.2.2.1 ≤ (v3 + 1).toNatClampNeg) then if ¬ ((v3 + 2) < 0 ∨ E.2.2.2.2.1 ≤ (v3 + 2).toNatClampNeg) then if ¬ ((v3 + 3) < 0 ∨ E.2.2.2.2.1 ≤ (v3 + 3).toNatClampNeg) then (fn_X7_sets r34.2 (E.2.2.2.2.2 (v3 + 1).toNatClampNeg) (E.2.2.2.2.2 (v3 + 2).toNatClampNeg) (E.2.2.2.2.2 (v3 + 3).toNatClampNeg)).bind (fun r38 => if r34.1 = r38.1 then (some (v3 + 5)).bind (fun z39 => some (.inl (z39, r38.2))) else (some (false, r38.2)).bind (fun y => some (.inr y))) else none else none else none) else none else none else none else if ((E.2.2.2.2.2 v3.toNatClampNeg) &&& 31) = 3 then if ¬ ((v3 + 1) < 0 ∨ E.2.2.2.2.1 ≤ (v3 + 1).toNatClampNeg) then (fn_X6_closes σ (E.2.2.2.2.2 (v3 + 1).toNatClampNeg)).bind (fun r44 => if ¬ ((v3 + 1) < 0 ∨ E.2.2.2.2.1 ≤ (v3 + 1).toNatClampNeg) then (fn_X7_closes r44.2 (E.2.2.2.2.2 (v3 + 1).toNatClampNeg)).bind (fun r46 => if r44.1 = r46.1 then (some (v3 + 5)).bind (fun z47 => some (.inl (z47, r46.2))) else (some (false, r46.2)).bind (fun y => some (.inr y))) else none) else none else if ((E.2.2.2.2.2 v3.toNatClampNeg) &&& 31) = 4 then if ¬ ((v3 + 1) < 0 ∨ E.2.2.2.2.1 ≤ (v3 + 1).toNatClampNeg) then if ¬ ((v3 + 2) < 0 ∨ E.2.2.2.2.1 ≤ (v3 + 2).toNatClampNeg) then (fn_X6_of σ (E.2.2.2.2.2 (v3 + 1).toNatClampNeg) (E.2.2.2.2.2 (v3 + 2).toNatClampNeg)).bind (fun r53 => if ¬ ((v3 + 1) < 0 ∨ E.2.2.2.2.1 ≤ (v3 + 1).toNatClampNeg) then if ¬ ((v3 + 2) < 0 ∨ E.2.2.2.2.1 ≤ (v3 + 2).toNatClampNeg) then (fn_X7_of r53.2 (E.2.2.2.2.2 (v3 + 1).toNatClampNeg) (E.2.2.2.2.2 (v3 + 2).toNatClampNeg)).bind (fun r56 => if r53.1 = r56.1 then (some (v3 + 5)).bind (fun z57 => some (.inl (z57, r56.2))) else (some (false, r56.2)).bind (fun y => some (.inr y))) else none else none) else none else none else if ((E.2.2.2.2.2 v3.toNatClampNeg) &&& 31) = 5 then if ¬ ((v3 + 1) < 0 ∨ E.2.2.2.2.1 ≤ (v3 + 1).toNatClampNeg) then if ¬ ((v3 + 2) < 0 ∨ E.2.2.2.2.1 ≤ (v3 + 2).toNatClampNeg) then (fn_X6_turn σ (E.2.2.2.2.2 (v3 + 1).toNatClampNeg) (E.2.2.2.2.2 (v3 + 2).toNatClampNeg)).bind (fun r63 => if ¬ ((v3 + 1) < 0 ∨ E.2.2.2.2.1 ≤ (v3 + 1).toNatClampNeg) then if ¬ ((v3 + 2) < 0 ∨ E.2.2.2.2.1 ≤ (v3 + 2).toNatClampNeg) then (fn_X7_turn r63.2 (E.2.2.2.2.2 (v3 + 1).toNatClampNeg) (E.2.2.2.2.2 (v3 + 2).toNatClampNeg)).bind (fun r66 => if (lg_cmp r63.1 r66.1) = 0 then (some (v3 + 5)).bind (fun z67 => some (.inl (z67, r66.2))) else (some (false, r66.2)).bind (fun y => some (.inr y))) else none else none) else none else none else if ((E.2.2.2.2.2 v3.toNatClampNeg) &&& 31) = 6 then if ¬ ((v3 + 1) < 0 ∨ E.2.2.2.2.1 ≤ (v3 + 1).toNatClampNeg) then if ¬ ((v3 + 2) < 0 ∨ E.2.2.2.2.1 ≤ (v3 + 2).toNatClampNeg) then (fn_X6_child σ (E.2.2.2.2.2 (v3 + 1).toNatClampNeg) (E.2.2.2.2.2 (v3 + 2).toNatClampNeg)).bind (fun r73 => if ¬ ((v3 + 1) < 0 ∨ E.2.2.2.2.1 ≤ (v3 + 1).toNatClampNeg) then if ¬ ((v3 + 2) < 0 ∨ E.2.2.2.2.1 ≤ (v3 + 2).toNatClampNeg) then (fn_X7_child r73.2 (E.2.2.2.2.2 (v3 + 1).toNatClampNeg) (E.2.2.2.2.2 (v3 + 2).toNatClampNeg)).bind (fun r76 => if r73.1 = r76.1 then (some (v3 + 5)).bind (fun z77 => some (.inl (z77, r76.2))) else (some (false, r76.2)).bind (fun y => some (.inr y))) else none else none) else none else none else if ((E.2.2.2.2.2 v3.toNatClampNeg) &&& 31) = 7 then if ¬ ((v3 + 1) < 0 ∨ E.2.2.2.2.1 ≤ (v3 + 1).toNatClampNeg) then if ¬ ((v3 + 2) < 0 ∨ E.2.2.2.2.1 ≤ (v3 + 2).toNatClampNeg) then (fn_X6_common σ (E.2.2.2.2.2 (v3 + 1).toNatClampNeg) (E.2.2.2.2.2 (v3 + 2).toNatClampNeg)).bind (fun r83 => if ¬ ((v3 + 1) < 0 ∨ E.2.2.2.2.1 ≤ (v3 + 1).toNatClampNeg) then if ¬ ((v3 + 2) < 0 ∨ E.2.2.2.2.1 ≤ (v3 + 2).toNatClampNeg) then (fn_X7_common r83.2 (E.2.2.2.2.2 (v3 + 1).toNatClampNeg) (E.2.2.2.2.2 (v3 + 2).toNatClampNeg)).bind (fun r86 => if r83.1 = r86.1 then (some (v3 + 5)).bind (fun z87 => some (.inl (z87, r86.2))) else (some (false, r86.2)).bind (fun y => some (.inr y))) else none else none) else none else none else if ((E.2.2.2.2.2 v3.toNatClampNeg) &&& 31) = 8 then if ¬ ((v3 + 1) < 0 ∨ E.2.2.2.2.1 ≤ (v3 + 1).toNatClampNeg) then if ¬ ((v3 + 2) < 0 ∨ E.2.2.2.2.1 ≤ (v3 + 2).toNatClampNeg) then (fn_X6_readies σ (E.2.2.2.2.2 (v3 + 1).toNatClampNeg) (E.2.2.2.2.2 (v3 + 2).toNatClampNeg)).bind (fun r93 => if ¬ ((v3 + 1) < 0 ∨ E.2.2.2.2.1 ≤ (v3 + 1).toNatClampNeg) then if ¬ ((v3 + 2) < 0 ∨ E.2.2.2.2.1 ≤ (v3 + 2).toNatClampNeg) then (fn_X7_readies r93.2 (E.2.2.2.2.2 (v3 + 1).toNatClampNeg) (E.2.2.2.2.2 (v3 + 2).toNatClampNeg)).bind (fun r96 => if r93.1 = r96.1 then (some (v3 + 5)).bind (fun z97 => some (.inl (z97, r96.2))) else (some (false, r96.2)).bind (fun y => some (.inr y))) else none else none) else none else none else if ((E.2.2.2.2.2 v3.toNatClampNeg) &&& 31) = 9 then if ¬ ((v3 + 1) < 0 ∨ E.2.2.2.2.1 ≤ (v3 + 1).toNatClampNeg) then if ¬ ((v3 + 2) < 0 ∨ E.2.2.2.2.1 ≤ (v3 + 2).toNatClampNeg) then (fn_X6_window σ (E.2.2.2.2.2 (v3 + 1).toNatClampNeg) (E.2.2.2.2.2 (v3 + 2).toNatClampNeg)).bind (fun r103 => if ¬ ((v3 + 1) < 0 ∨ E.2.2.2.2.1 ≤ (v3 + 1).toNatClampNeg) then if ¬ ((v3 + 2) < 0 ∨ E.2.2.2.2.1 ≤ (v3 + 2).toNatClampNeg) then (fn_X7_window r103.2 (E.2.2.2.2.2 (v3 + 1).toNatClampNeg) (E.2.2.2.2.2 (v3 + 2).toNatClampNeg)).bind (fun r106 => if r103.1 = r106.1 then (some (v3 + 5)).bind (fun z107 => some (.inl (z107, r106.2))) else (some (false, r106.2)).bind (fun y => some (.inr y))) else none else none) else none else none else if ((E.2.2.2.2.2 v3.toNatClampNeg) &&& 31) = 10 then if ¬ ((v3 + 1) < 0 ∨ E.2.2.2.2.1 ≤ (v3 + 1).toNatClampNeg) then if ¬ ((v3 + 2) < 0 ∨ E.2.2.2.2.1 ≤ (v3 + 2).toNatClampNeg) then (fn_X6_settings σ (E.2.2.2.2.2 (v3 + 1).toNatClampNeg) (E.2.2.2.2.2 (v3 + 2).toNatClampNeg)).bind (fun r113 => if ¬ ((v3 + 1) < 0 ∨ E.2.2.2.2.1 ≤ (v3 + 1).toNatClampNeg) then if ¬ ((v3 + 2) < 0 ∨ E.2.2.2.2.1 ≤ (v3 + 2).toNatClampNeg) then (fn_X7_settings r113.2 (E.2.2.2.2.2 (v3 + 1).toNatClampNeg) (E.2.2.2.2.2 (v3 + 2).toNatClampNeg)).bind (fun r116 => if r113.1 = r116.1 then (some (v3 + 5)).bind (fun z117 => some (.inl (z117, r116.2))) else (some (false, r116.2)).bind (fun y => some (.inr y))) else none else none) else none else none else if ((E.2.2.2.2.2 v3.toNatClampNeg) &&& 31) = 11 then if ¬ ((v3 + 1) < 0 ∨ E.2.2.2.2.1 ≤ (v3 + 1).toNatClampNeg) then (fn_X6_sends σ (E.2.2.2.2.2 (v3 + 1).toNatClampNeg)).bind (fun r122 => if ¬ ((v3 + 1) < 0 ∨ E.2.2.2.2.1 ≤ (v3 + 1).toNatClampNeg) then (fn_X7_sends r122.2 (E.2.2.2.2.2 (v3 + 1).toNatClampNeg)).bind (fun r124 => if r122.1 = r124.1 then (some (v3 + 5)).bind (fun z125 => some (.inl (z125, r124.2))) else (some (false, r124.2)).bind (fun y => some (.inr y))) else none) else none else if ((E.2.2.2.2.2 v3.toNatClampNeg) &&& 31) = 12 then (fn_X6_next σ ).bind (fun r129 => (fn_X7_next σ ).bind (fun r130 => if r129 = r130 then (some (v3 + 5)).bind (fun z131 => some (.inl (z131, σ))) else (some (false, σ)).bind (fun y => some (.inr y)))) else if ((E.2.2.2.2.2 v3.toNatClampNeg) &&& 31) = 13 then if ¬ ((v3 + 1) < 0 ∨ E.2.2.2.2.1 ≤ (v3 + 1).toNatClampNeg) then if ¬ ((v3 + 2) < 0 ∨ E.2.2.2.2.1 ≤ (v3 + 2).toNatClampNeg) then (fn_X6_share σ (E.2.2.2.2.2 (v3 + 1).toNatClampNeg) (E.2.2.2.2.2 (v3 + 2).toNatClampNeg)).bind (fun r137 => if ¬ ((v3 + 1) < 0 ∨ E.2.2.2.2.1 ≤ (v3 + 1).toNatClampNeg) then if ¬ ((v3 + 2) < 0 ∨ E.2.2.2.2.1 ≤ (v3 + 2).toNatClampNeg) then (fn_X7_share r137.2 (E.2.2.2.2.2 (v3 + 1).toNatClampNeg) (E.2.2.2.2.2 (v3 + 2).toNatClampNeg)).bind (fun r140 => if (lg_cmp r137.1 r140.1) = 0 then (some (v3 + 5)).bind (fun z141 => some (.inl (z141, r140.2))) else (some (false, r140.2)).bind (fun y => some (.inr y))) else none else none) else none else none else if ((E.2.2.2.2.2 v3.toNatClampNeg) &&& 31) = 14 then if ¬ ((v3 + 1) < 0 ∨ E.2.2.2.2.1 ≤ (v3 + 1).toNatClampNeg) then (fn_X6_all σ (E.2.2.2.2.2 (v3 + 1).toNatClampNeg)).bind (fun r146 => if ¬ ((v3 + 1) < 0 ∨ E.2.2.2.2.1 ≤ (v3 + 1).toNatClampNeg) then (fn_X7_all r146.2 (E.2.2.2.2.2 (v3 + 1).toNatClampNeg)).bind (fun r148 => if r146.1 = r148.1 then (some (v3 + 5)).bind (fun z149 => some (.inl (z149, r148.2))) else (some (false, r148.2)).bind (fun y => some (.inr y))) else none) else none else if ((E.2.2.2.2.2 v3.toNatClampNeg) &&& 31) = 15 then if ¬ ((v3 + 1) < 0 ∨ E.2.2.2.2.1 ≤ (v3 + 1).toNatClampNeg) then (fn_X6_type σ (E.2.2.2.2.2 (v3 + 1).toNatClampNeg)).bind (fun r154 => if ¬ ((v3 + 1) < 0 ∨ E.2.2.2.2.1 ≤ (v3 + 1).toNatClampNeg) then (fn_X7_type r154.2 (E.2.2.2.2.2 (v3 + 1).toNatClampNeg)).bind (fun r156 => if r154.1 = r156.1 then (some (v3 + 5)).bind (fun z157 => some (.inl (z157, r156.2))) else (some (false, r156.2)).bind (fun y => some (.inr y))) else none) else none else if ((E.2.2.2.2.2 v3.toNatClampNeg) &&& 31) = 16 then (fn_X6_clear σ ).bind (fun r161 => (fn_X7_clear r161.2 ).bind (fun r162 => if r161.1 = r162.1 then (some (v3 + 5)).bind (fun z163 => some (.inl (z163, r162.2))) else (some (false, r162.2)).bind (fun y => some (.inr y)))) else if ((E.2.2.2.2.2 v3.toNatClampNeg) &&& 31) = 17 then (fn_X6_builds σ ).bind (fun r167 => (fn_X7_builds r167.2 ).bind (fun r168 => if r167.1 = r168.1 then (some (v3 + 5)).bind (fun z169 => some (.inl (z169, r168.2))) else (some (false, r168.2)).bind (fun y => some (.inr y)))) else if ((E.2.2.2.2.2 v3.toNatClampNeg) &&& 31) = 18 then if ¬ ((v3 + 1) < 0 ∨ E.2.2.2.2.1 ≤ (v3 + 1).toNatClampNeg) then (fn_X6_shown σ (E.2.2.2.2.2 (v3 + 1).toNatClampNeg)).bind (fun r174 => if ¬ ((v3 + 1) < 0 ∨ E.2.2.2.2.1 ≤ (v3 + 1).toNatClampNeg) then (fn_X7_shown r174.2 (E.2.2.2.2.2 (v3 + 1).toNatClampNeg)).bind (fun r176 => if r174.1 = r176.1 then (some (v3 + 5)).bind (fun z177 => some (.inl (z177, r176.2))) else (some (false, r176.2)).bind (fun y => some (.inr y))) else none) else none else if ((E.2.2.2.2.2 v3.toNatClampNeg) &&& 31) = 19 then (fn_X6_back σ ).bind (fun r181 => (fn_X7_back r181.2 ).bind (fun r182 => if r181.1 = r182.1 then (some (v3 + 5)).bind (fun z183 => some (.inl (z183, r182.2))) else (some (false, r182.2)).bind (fun y => some (.inr y)))) else if ((E.2.2.2.2.2 v3.toNatClampNeg) &&& 31) = 20 then if ¬ ((v3 + 1) < 0 ∨ E.2.2.2.2.1 ≤ (v3 + 1).toNatClampNeg) then (fn_X6_told σ (E.2.2.2.2.2 (v3 + 1).toNatClampNeg)).bind (fun r188 => if ¬ ((v3 + 1) < 0 ∨ E.2.2.2.2.1 ≤ (v3 + 1).toNatClampNeg) then (fn_X7_told r188.2 (E.2.2.2.2.2 (v3 + 1).toNatClampNeg)).bind (fun r190 => if r188.1 = r190.1 then (some (v3 + 5)).bind (fun z191 => some (.inl (z191, r190.2))) else (some (false, r190.2)).bind (fun y => some (.inr y))) else none) else none else if ((E.2.2.2.2.2 v3.toNatClampNeg) &&& 31) = 21 then (fn_X6_digest σ ).bind (fun r195 => (fn_X7_digest r195.2 ).bind (fun r196 => if (lg_cmp r195.1 r196) = 0 then (some (v3 + 5)).bind (fun z197 => some (.inl (z197, r195.2))) else (some (false, r195.2)).bind (fun y => some (.inr y)))) else (some (v3 + 5)).bind (fun z201 => some (.inl (z201, σ))) else none
set_option maxRecDepth 20000 in
theorem wb_L_law_18 {l : Launch} {E : qm_E} (σ : qm_M) (v3 : Int32) {x : (Int32 × qm_M) ⊕ (Bool × qm_M)} (h : bb_L_law_18 E σ v3 = some x) {r : Option Value × qm_M} (hT : (qm_T (pp_L_law_18 l E) (fun x r => (some (.int (qm_b x.1)), x.2) = r)) x r) : qm_Wp l E kd_L_law "HungStreamsLaw" cL_law 4 18 [(0, .ref (qm_a E 222)), (1, .ref (qm_a E 200)), (2, .ref (qm_a E 210)), (3, .int v3)] [] σ r := by
  unfold bb_L_law_18 at h
  refine qr_iload_n dL_law_18 rfl 3 rfl ?_
  refine qr_aload_n dL_law_19 rfl 0 rfl ?_
  refine qr_scl dL_law_20 ?_
  refine qr_iconst (v := 5) dL_law_21 (by decide) ?_
  refine qr_isub dL_law_22 ?_
  refine qr_icmp_gt (tgt := 761) dL_law_23 (by decide) (fun c202 => ?_) (fun c202 => ?_)
  · rw [if_pos c202] at h
    obtain ⟨y1, h1, hx⟩ := qm_bind h
    clear h
    cases hx
    have h := h1
    refine qr_iconst (v := 1) dL_law_761 (by decide) ?_
    obtain rfl := Option.some.inj h
    cases hT
    exact qr_iret dL_law_762
  · rw [if_neg c202] at h
    refine qr_aload_n dL_law_26 rfl 0 rfl ?_
    refine qr_iload_n dL_law_27 rfl 3 rfl ?_
    obtain ⟨c2, h⟩ := qm_chk h
    refine qr_scd c2 dL_law_28 ?_
    refine qr_bipush (v := 31) dL_law_29 (by decide) ?_
    refine qr_iand dL_law_31 ?_
    by_cases c16 : ((E.2.2.2.2.2 v3.toNatClampNeg) &&& 31) = 0
    · rw [if_pos c16] at h
      have tc16 : (((E.2.2.2.2.2 v3.toNatClampNeg) &&& 31)).toInt = 0 := by rw [c16]; rfl
      refine qr_tableIn (tgt := 136) dL_law_32 (by omega) (by omega) (by rw [tc16]; rfl) (by decide) ?_
      refine qr_aload_n dL_law_136 rfl 1 rfl ?_
      refine qr_aload_n dL_law_137 rfl 0 rfl ?_
      refine qr_iload_n dL_law_138 rfl 3 rfl ?_
      refine qr_iconst (v := 1) dL_law_139 (by decide) ?_
      refine qr_iadd dL_law_140 ?_
      obtain ⟨c3, h⟩ := qm_chk h
      refine qr_scd c3 dL_law_141 ?_
      refine qr_aload_n dL_law_142 rfl 0 rfl ?_
      refine qr_iload_n dL_law_143 rfl 3 rfl ?_
      refine qr_iconst (v := 2) dL_law_144 (by decide) ?_
      refine qr_iadd dL_law_145 ?_
      obtain ⟨c4, h⟩ := qm_chk h
      refine qr_scd c4 dL_law_146 ?_
      refine qr_aload_n dL_law_147 rfl 0 rfl ?_
      refine qr_iload_n dL_law_148 rfl 3 rfl ?_
      refine qr_iconst (v := 3) dL_law_149 (by decide) ?_
      refine qr_iadd dL_law_150 ?_
      obtain ⟨c5, h⟩ := qm_chk h
      refine qr_scd c5 dL_law_151 ?_
      refine qr_aload_n dL_law_152 rfl 0 rfl ?_
      refine qr_iload_n dL_law_153 rfl 3 rfl ?_
      refine qr_iconst (v := 4) dL_law_154 (by decide) ?_
      refine qr_iadd dL_law_155 ?_
      obtain ⟨c6, h⟩ := qm_chk h
      refine qr_scd c6 dL_law_156 ?_
      obtain ⟨r7, er7, h⟩ := qm_bind h
      refine qr_call1 (st1 := [.int r7.1]) rfl (qr_callV (id := 200) (c := 4) (As := [.int (E.2.2.2.2.2 (v3 + 1).toNatClampNeg), .int (E.2.2.2.2.2 (v3 + 2).toNatClampNeg), .int (E.2.2.2.2.2 (v3 + 3).toNatClampNeg), .int (E.2.2.2.2.2 (v3 + 4).toNatClampNeg)]) (st := []) rfl (by decide) rfl (ct_X6_comes (l := l) (E := E) σ (E.2.2.2.2.2 (v3 + 1).toNatClampNeg) (E.2.2.2.2.2 (v3 + 2).toNatClampNeg) (E.2.2.2.2.2 (v3 + 3).toNatClampNeg) (E.2.2.2.2.2 (v3 + 4).toNatClampNeg) er7) qw_247 qw_1 qw_244 qw_245 qw_246 yd_X6_comes (by decide) (by decide) rfl (Nat.le_of_ble_eq_true rfl) dL_law_157) ?_
      refine qr_aload_n dL_law_160 rfl 2 rfl ?_
      refine qr_aload_n dL_law_161 rfl 0 rfl ?_
      refine qr_iload_n dL_law_162 rfl 3 rfl ?_
      refine qr_iconst (v := 1) dL_law_163 (by decide) ?_
      refine qr_iadd dL_law_164 ?_
      obtain ⟨c8, h⟩ := qm_chk h
      refine qr_scd c8 dL_law_165 ?_
      refine qr_aload_n dL_law_166 rfl 0 rfl ?_
      refine qr_iload_n dL_law_167 rfl 3 rfl ?_
      refine qr_iconst (v := 2) dL_law_168 (by decide) ?_
      refine qr_iadd dL_law_169 ?_
      obtain ⟨c9, h⟩ := qm_chk h
      refine qr_scd c9 dL_law_170 ?_
      refine qr_aload_n dL_law_171 rfl 0 rfl ?_
      refine qr_iload_n dL_law_172 rfl 3 rfl ?_
      refine qr_iconst (v := 3) dL_law_173 (by decide) ?_
      refine qr_iadd dL_law_174 ?_
      obtain ⟨c10, h⟩ := qm_chk h
      refine qr_scd c10 dL_law_175 ?_
      refine qr_aload_n dL_law_176 rfl 0 rfl ?_
      refine qr_iload_n dL_law_177 rfl 3 rfl ?_
      refine qr_iconst (v := 4) dL_law_178 (by decide) ?_
      refine qr_iadd dL_law_179 ?_
      obtain ⟨c11, h⟩ := qm_chk h
      refine qr_scd c11 dL_law_180 ?_
      obtain ⟨r12, er12, h⟩ := qm_bind h
      refine qr_call1 (st1 := [.int r12.1, .int r7.1]) rfl (qr_callV (id := 210) (c := 5) (As := [.int (E.2.2.2.2.2 (v3 + 1).toNatClampNeg), .int (E.2.2.2.2.2 (v3 + 2).toNatClampNeg), .int (E.2.2.2.2.2 (v3 + 3).toNatClampNeg), .int (E.2.2.2.2.2 (v3 + 4).toNatClampNeg)]) (st := [.int r7.1]) rfl (by decide) rfl (ct_X7_comes (l := l) (E := E) r7.2 (E.2.2.2.2.2 (v3 + 1).toNatClampNeg) (E.2.2.2.2.2 (v3 + 2).toNatClampNeg) (E.2.2.2.2.2 (v3 + 3).toNatClampNeg) (E.2.2.2.2.2 (v3 + 4).toNatClampNeg) er12) qw_680 qw_6 qw_677 qw_678 qw_679 yd_X7_comes (by decide) (by decide) rfl (Nat.le_of_ble_eq_true rfl) dL_law_181) ?_
      refine qr_icmp_eq (tgt := 755) dL_law_184 (by decide) (fun c15 => ?_) (fun c15 => ?_)
      · rw [if_pos c15] at h
        obtain ⟨z13, ez13, h⟩ := qm_bind h
        refine qr_iinc (q := 3) (v := z13) (lv' := [(3, .int z13), (0, .ref (qm_a E 222)), (1, .ref (qm_a E 200)), (2, .ref (qm_a E 210))]) dL_law_755 rfl (Option.some.inj ez13) (by decide) rfl ?_
        refine qr_goto (tgt := 18) dL_law_758 (by decide) ?_
        obtain rfl := Option.some.inj h
        exact qr_sub [1, 2, 3, 0] rfl hT
      · rw [if_neg c15] at h
        obtain ⟨y14, h1, hx⟩ := qm_bind h
        clear h
        cases hx
        have h := h1
        refine qr_iconst (v := 0) dL_law_187 (by decide) ?_
        obtain rfl := Option.some.inj h
        cases hT
        exact qr_iret dL_law_188
    rw [if_neg c16] at h
    by_cases c30 : ((E.2.2.2.2.2 v3.toNatClampNeg) &&& 31) = 1
    · rw [if_pos c30] at h
      have tc30 : (((E.2.2.2.2.2 v3.toNatClampNeg) &&& 31)).toInt = 1 := by rw [c30]; rfl
      refine qr_tableIn (tgt := 189) dL_law_32 (by omega) (by omega) (by rw [tc30]; rfl) (by decide) ?_
      refine qr_aload_n dL_law_189 rfl 1 rfl ?_
      refine qr_aload_n dL_law_190 rfl 0 rfl ?_
      refine qr_iload_n dL_law_191 rfl 3 rfl ?_
      refine qr_iconst (v := 1) dL_law_192 (by decide) ?_
      refine qr_iadd dL_law_193 ?_
      obtain ⟨c17, h⟩ := qm_chk h
      refine qr_scd c17 dL_law_194 ?_
      refine qr_aload_n dL_law_195 rfl 0 rfl ?_
      refine qr_iload_n dL_law_196 rfl 3 rfl ?_
      refine qr_iconst (v := 2) dL_law_197 (by decide) ?_
      refine qr_iadd dL_law_198 ?_
      obtain ⟨c18, h⟩ := qm_chk h
      refine qr_scd c18 dL_law_199 ?_
      refine qr_aload_n dL_law_200 rfl 0 rfl ?_
      refine qr_iload_n dL_law_201 rfl 3 rfl ?_
      refine qr_iconst (v := 3) dL_law_202 (by decide) ?_
      refine qr_iadd dL_law_203 ?_
      obtain ⟨c19, h⟩ := qm_chk h
      refine qr_scd c19 dL_law_204 ?_
      refine qr_aload_n dL_law_205 rfl 0 rfl ?_
      refine qr_iload_n dL_law_206 rfl 3 rfl ?_
      refine qr_iconst (v := 4) dL_law_207 (by decide) ?_
      refine qr_iadd dL_law_208 ?_
      obtain ⟨c20, h⟩ := qm_chk h
      refine qr_scd c20 dL_law_209 ?_
      obtain ⟨r21, er21, h⟩ := qm_bind h
      refine qr_call1 (st1 := [.int r21.1]) rfl (qr_callV (id := 200) (c := 4) (As := [.int (E.2.2.2.2.2 (v3 + 1).toNatClampNeg), .int (E.2.2.2.2.2 (v3 + 2).toNatClampNeg), .int (E.2.2.2.2.2 (v3 + 3).toNatClampNeg), .int (E.2.2.2.2.2 (v3 + 4).toNatClampNeg)]) (st := []) rfl (by decide) rfl (ct_X6_moves (l := l) (E := E) σ (E.2.2.2.2.2 (v3 + 1).toNatClampNeg) (E.2.2.2.2.2 (v3 + 2).toNatClampNeg) (E.2.2.2.2.2 (v3 + 3).toNatClampNeg) (E.2.2.2.2.2 (v3 + 4).toNatClampNeg) er21) qw_311 qw_1 qw_308 qw_309 qw_310 yd_X6_moves (by decide) (by decide) rfl (Nat.le_of_ble_eq_true rfl) dL_law_210) ?_
      refine qr_aload_n dL_law_213 rfl 2 rfl ?_
      refine qr_aload_n dL_law_214 rfl 0 rfl ?_
      refine qr_iload_n dL_law_215 rfl 3 rfl ?_
      refine qr_iconst (v := 1) dL_law_216 (by decide) ?_
      refine qr_iadd dL_law_217 ?_
      obtain ⟨c22, h⟩ := qm_chk h
      refine qr_scd c22 dL_law_218 ?_
      refine qr_aload_n dL_law_219 rfl 0 rfl ?_
      refine qr_iload_n dL_law_220 rfl 3 rfl ?_
      refine qr_iconst (v := 2) dL_law_221 (by decide) ?_
      refine qr_iadd dL_law_222 ?_
      obtain ⟨c23, h⟩ := qm_chk h
      refine qr_scd c23 dL_law_223 ?_
      refine qr_aload_n dL_law_224 rfl 0 rfl ?_
      refine qr_iload_n dL_law_225 rfl 3 rfl ?_
      refine qr_iconst (v := 3) dL_law_226 (by decide) ?_
      refine qr_iadd dL_law_227 ?_
      obtain ⟨c24, h⟩ := qm_chk h
      refine qr_scd c24 dL_law_228 ?_
      refine qr_aload_n dL_law_229 rfl 0 rfl ?_
      refine qr_iload_n dL_law_230 rfl 3 rfl ?_
      refine qr_iconst (v := 4) dL_law_231 (by decide) ?_
      refine qr_iadd dL_law_232 ?_
      obtain ⟨c25, h⟩ := qm_chk h
      refine qr_scd c25 dL_law_233 ?_
      obtain ⟨r26, er26, h⟩ := qm_bind h
      refine qr_call1 (st1 := [.int r26.1, .int r21.1]) rfl (qr_callV (id := 210) (c := 5) (As := [.int (E.2.2.2.2.2 (v3 + 1).toNatClampNeg), .int (E.2.2.2.2.2 (v3 + 2).toNatClampNeg), .int (E.2.2.2.2.2 (v3 + 3).toNatClampNeg), .int (E.2.2.2.2.2 (v3 + 4).toNatClampNeg)]) (st := [.int r21.1]) rfl (by decide) rfl (ct_X7_moves (l := l) (E := E) r21.2 (E.2.2.2.2.2 (v3 + 1).toNatClampNeg) (E.2.2.2.2.2 (v3 + 2).toNatClampNeg) (E.2.2.2.2.2 (v3 + 3).toNatClampNeg) (E.2.2.2.2.2 (v3 + 4).toNatClampNeg) er26) qw_739 qw_6 qw_736 qw_737 qw_738 yd_X7_moves (by decide) (by decide) rfl (Nat.le_of_ble_eq_true rfl) dL_law_234) ?_
      refine qr_icmp_eq (tgt := 755) dL_law_237 (by decide) (fun c29 => ?_) (fun c29 => ?_)
      · rw [if_pos c29] at h
        obtain ⟨z27, ez27, h⟩ := qm_bind h
        refine qr_iinc (q := 3) (v := z27) (lv' := [(3, .int z27), (0, .ref (qm_a E 222)), (1, .ref (qm_a E 200)), (2, .ref (qm_a E 210))]) dL_law_755 rfl (Option.some.inj ez27) (by decide) rfl ?_
        refine qr_goto (tgt := 18) dL_law_758 (by decide) ?_
        obtain rfl := Option.some.inj h
        exact qr_sub [1, 2, 3, 0] rfl hT
      · rw [if_neg c29] at h
        obtain ⟨y28, h1, hx⟩ := qm_bind h
        clear h
        cases hx
        have h := h1
        refine qr_iconst (v := 0) dL_law_240 (by decide) ?_
        obtain rfl := Option.some.inj h
        cases hT
        exact qr_iret dL_law_241
    rw [if_neg c30] at h
    by_cases c42 : ((E.2.2.2.2.2 v3.toNatClampNeg) &&& 31) = 2
    · rw [if_pos c42] at h
      have tc42 : (((E.2.2.2.2.2 v3.toNatClampNeg) &&& 31)).toInt = 2 := by rw [c42]; rfl
      refine qr_tableIn (tgt := 242) dL_law_32 (by omega) (by omega) (by rw [tc42]; rfl) (by decide) ?_
      refine qr_aload_n dL_law_242 rfl 1 rfl ?_
      refine qr_aload_n dL_law_243 rfl 0 rfl ?_
      refine qr_iload_n dL_law_244 rfl 3 rfl ?_
      refine qr_iconst (v := 1) dL_law_245 (by decide) ?_
      refine qr_iadd dL_law_246 ?_
      obtain ⟨c31, h⟩ := qm_chk h
      refine qr_scd c31 dL_law_247 ?_
      refine qr_aload_n dL_law_248 rfl 0 rfl ?_
      refine qr_iload_n dL_law_249 rfl 3 rfl ?_
      refine qr_iconst (v := 2) dL_law_250 (by decide) ?_
      refine qr_iadd dL_law_251 ?_
      obtain ⟨c32, h⟩ := qm_chk h
      refine qr_scd c32 dL_law_252 ?_
      refine qr_aload_n dL_law_253 rfl 0 rfl ?_
      refine qr_iload_n dL_law_254 rfl 3 rfl ?_
      refine qr_iconst (v := 3) dL_law_255 (by decide) ?_
      refine qr_iadd dL_law_256 ?_
      obtain ⟨c33, h⟩ := qm_chk h
      refine qr_scd c33 dL_law_257 ?_
      obtain ⟨r34, er34, h⟩ := qm_bind h
      refine qr_call1 (st1 := [.int r34.1]) rfl (qr_callV (id := 200) (c := 4) (As := [.int (E.2.2.2.2.2 (v3 + 1).toNatClampNeg), .int (E.2.2.2.2.2 (v3 + 2).toNatClampNeg), .int (E.2.2.2.2.2 (v3 + 3).toNatClampNeg)]) (st := []) rfl (by decide) rfl (ct_X6_sets (l := l) (E := E) σ (E.2.2.2.2.2 (v3 + 1).toNatClampNeg) (E.2.2.2.2.2 (v3 + 2).toNatClampNeg) (E.2.2.2.2.2 (v3 + 3).toNatClampNeg) er34) qw_324 qw_1 qw_321 qw_322 qw_323 yd_X6_sets (by decide) (by decide) rfl (Nat.le_of_ble_eq_true rfl) dL_law_258) ?_
      refine qr_aload_n dL_law_261 rfl 2 rfl ?_
      refine qr_aload_n dL_law_262 rfl 0 rfl ?_
      refine qr_iload_n dL_law_263 rfl 3 rfl ?_
      refine qr_iconst (v := 1) dL_law_264 (by decide) ?_
      refine qr_iadd dL_law_265 ?_
      obtain ⟨c35, h⟩ := qm_chk h
      refine qr_scd c35 dL_law_266 ?_
      refine qr_aload_n dL_law_267 rfl 0 rfl ?_
      refine qr_iload_n dL_law_268 rfl 3 rfl ?_
      refine qr_iconst (v := 2) dL_law_269 (by decide) ?_
      refine qr_iadd dL_law_270 ?_
      obtain ⟨c36, h⟩ := qm_chk h
      refine qr_scd c36 dL_law_271 ?_
      refine qr_aload_n dL_law_272 rfl 0 rfl ?_
      refine qr_iload_n dL_law_273 rfl 3 rfl ?_
      refine qr_iconst (v := 3) dL_law_274 (by decide) ?_
      refine qr_iadd dL_law_275 ?_
      obtain ⟨c37, h⟩ := qm_chk h
      refine qr_scd c37 dL_law_276 ?_
      obtain ⟨r38, er38, h⟩ := qm_bind h
      refine qr_call1 (st1 := [.int r38.1, .int r34.1]) rfl (qr_callV (id := 210) (c := 5) (As := [.int (E.2.2.2.2.2 (v3 + 1).toNatClampNeg), .int (E.2.2.2.2.2 (v3 + 2).toNatClampNeg), .int (E.2.2.2.2.2 (v3 + 3).toNatClampNeg)]) (st := [.int r34.1]) rfl (by decide) rfl (ct_X7_sets (l := l) (E := E) r34.2 (E.2.2.2.2.2 (v3 + 1).toNatClampNeg) (E.2.2.2.2.2 (v3 + 2).toNatClampNeg) (E.2.2.2.2.2 (v3 + 3).toNatClampNeg) er38) qw_747 qw_6 qw_744 qw_745 qw_746 yd_X7_sets (by decide) (by decide) rfl (Nat.le_of_ble_eq_true rfl) dL_law_277) ?_
      refine qr_icmp_eq (tgt := 755) dL_law_280 (by decide) (fun c41 => ?_) (fun c41 => ?_)
      · rw [if_pos c41] at h
        obtain ⟨z39, ez39, h⟩ := qm_bind h
        refine qr_iinc (q := 3) (v := z39) (lv' := [(3, .int z39), (0, .ref (qm_a E 222)), (1, .ref (qm_a E 200)), (2, .ref (qm_a E 210))]) dL_law_755 rfl (Option.some.inj ez39) (by decide) rfl ?_
        refine qr_goto (tgt := 18) dL_law_758 (by decide) ?_
        obtain rfl := Option.some.inj h
        exact qr_sub [1, 2, 3, 0] rfl hT
      · rw [if_neg c41] at h
        obtain ⟨y40, h1, hx⟩ := qm_bind h
        clear h
        cases hx
        have h := h1
        refine qr_iconst (v := 0) dL_law_283 (by decide) ?_
        obtain rfl := Option.some.inj h
        cases hT
        exact qr_iret dL_law_284
    rw [if_neg c42] at h
    by_cases c50 : ((E.2.2.2.2.2 v3.toNatClampNeg) &&& 31) = 3
    · rw [if_pos c50] at h
      have tc50 : (((E.2.2.2.2.2 v3.toNatClampNeg) &&& 31)).toInt = 3 := by rw [c50]; rfl
      refine qr_tableIn (tgt := 285) dL_law_32 (by omega) (by omega) (by rw [tc50]; rfl) (by decide) ?_
      refine qr_aload_n dL_law_285 rfl 1 rfl ?_
      refine qr_aload_n dL_law_286 rfl 0 rfl ?_
      refine qr_iload_n dL_law_287 rfl 3 rfl ?_
      refine qr_iconst (v := 1) dL_law_288 (by decide) ?_
      refine qr_iadd dL_law_289 ?_
      obtain ⟨c43, h⟩ := qm_chk h
      refine qr_scd c43 dL_law_290 ?_
      obtain ⟨r44, er44, h⟩ := qm_bind h
      refine qr_call1 (st1 := [.int r44.1]) rfl (qr_callV (id := 200) (c := 4) (As := [.int (E.2.2.2.2.2 (v3 + 1).toNatClampNeg)]) (st := []) rfl (by decide) rfl (ct_X6_closes (l := l) (E := E) σ (E.2.2.2.2.2 (v3 + 1).toNatClampNeg) er44) qw_336 qw_1 qw_333 qw_334 qw_335 yd_X6_closes (by decide) (by decide) rfl (Nat.le_of_ble_eq_true rfl) dL_law_291) ?_
      refine qr_aload_n dL_law_294 rfl 2 rfl ?_
      refine qr_aload_n dL_law_295 rfl 0 rfl ?_
      refine qr_iload_n dL_law_296 rfl 3 rfl ?_
      refine qr_iconst (v := 1) dL_law_297 (by decide) ?_
      refine qr_iadd dL_law_298 ?_
      obtain ⟨c45, h⟩ := qm_chk h
      refine qr_scd c45 dL_law_299 ?_
      obtain ⟨r46, er46, h⟩ := qm_bind h
      refine qr_call1 (st1 := [.int r46.1, .int r44.1]) rfl (qr_callV (id := 210) (c := 5) (As := [.int (E.2.2.2.2.2 (v3 + 1).toNatClampNeg)]) (st := [.int r44.1]) rfl (by decide) rfl (ct_X7_closes (l := l) (E := E) r44.2 (E.2.2.2.2.2 (v3 + 1).toNatClampNeg) er46) qw_758 qw_6 qw_755 qw_756 qw_757 yd_X7_closes (by decide) (by decide) rfl (Nat.le_of_ble_eq_true rfl) dL_law_300) ?_
      refine qr_icmp_eq (tgt := 755) dL_law_303 (by decide) (fun c49 => ?_) (fun c49 => ?_)
      · rw [if_pos c49] at h
        obtain ⟨z47, ez47, h⟩ := qm_bind h
        refine qr_iinc (q := 3) (v := z47) (lv' := [(3, .int z47), (0, .ref (qm_a E 222)), (1, .ref (qm_a E 200)), (2, .ref (qm_a E 210))]) dL_law_755 rfl (Option.some.inj ez47) (by decide) rfl ?_
        refine qr_goto (tgt := 18) dL_law_758 (by decide) ?_
        obtain rfl := Option.some.inj h
        exact qr_sub [1, 2, 3, 0] rfl hT
      · rw [if_neg c49] at h
        obtain ⟨y48, h1, hx⟩ := qm_bind h
        clear h
        cases hx
        have h := h1
        refine qr_iconst (v := 0) dL_law_306 (by decide) ?_
        obtain rfl := Option.some.inj h
        cases hT
        exact qr_iret dL_law_307
    rw [if_neg c50] at h
    by_cases c60 : ((E.2.2.2.2.2 v3.toNatClampNeg) &&& 31) = 4
    · rw [if_pos c60] at h
      have tc60 : (((E.2.2.2.2.2 v3.toNatClampNeg) &&& 31)).toInt = 4 := by rw [c60]; rfl
      refine qr_tableIn (tgt := 308) dL_law_32 (by omega) (by omega) (by rw [tc60]; rfl) (by decide) ?_
      refine qr_aload_n dL_law_308 rfl 1 rfl ?_
      refine qr_aload_n dL_law_309 rfl 0 rfl ?_
      refine qr_iload_n dL_law_310 rfl 3 rfl ?_
      refine qr_iconst (v := 1) dL_law_311 (by decide) ?_
      refine qr_iadd dL_law_312 ?_
      obtain ⟨c51, h⟩ := qm_chk h
      refine qr_scd c51 dL_law_313 ?_
      refine qr_aload_n dL_law_314 rfl 0 rfl ?_
      refine qr_iload_n dL_law_315 rfl 3 rfl ?_
      refine qr_iconst (v := 2) dL_law_316 (by decide) ?_
      refine qr_iadd dL_law_317 ?_
      obtain ⟨c52, h⟩ := qm_chk h
      refine qr_scd c52 dL_law_318 ?_
      obtain ⟨r53, er53, h⟩ := qm_bind h
      refine qr_call1 (st1 := [.int r53.1]) rfl (qr_callV (id := 200) (c := 4) (As := [.int (E.2.2.2.2.2 (v3 + 1).toNatClampNeg), .int (E.2.2.2.2.2 (v3 + 2).toNatClampNeg)]) (st := []) rfl (by decide) rfl (ct_X6_of (l := l) (E := E) σ (E.2.2.2.2.2 (v3 + 1).toNatClampNeg) (E.2.2.2.2.2 (v3 + 2).toNatClampNeg) er53) qw_364 qw_1 qw_361 qw_362 qw_363 yd_X6_of (by decide) (by decide) rfl (Nat.le_of_ble_eq_true rfl) dL_law_319) ?_
      refine qr_aload_n dL_law_322 rfl 2 rfl ?_
      refine qr_aload_n dL_law_323 rfl 0 rfl ?_
      refine qr_iload_n dL_law_324 rfl 3 rfl ?_
      refine qr_iconst (v := 1) dL_law_325 (by decide) ?_
      refine qr_iadd dL_law_326 ?_
      obtain ⟨c54, h⟩ := qm_chk h
      refine qr_scd c54 dL_law_327 ?_
      refine qr_aload_n dL_law_328 rfl 0 rfl ?_
      refine qr_iload_n dL_law_329 rfl 3 rfl ?_
      refine qr_iconst (v := 2) dL_law_330 (by decide) ?_
      refine qr_iadd dL_law_331 ?_
      obtain ⟨c55, h⟩ := qm_chk h
      refine qr_scd c55 dL_law_332 ?_
      obtain ⟨r56, er56, h⟩ := qm_bind h
      refine qr_call1 (st1 := [.int r56.1, .int r53.1]) rfl (qr_callV (id := 210) (c := 5) (As := [.int (E.2.2.2.2.2 (v3 + 1).toNatClampNeg), .int (E.2.2.2.2.2 (v3 + 2).toNatClampNeg)]) (st := [.int r53.1]) rfl (by decide) rfl (ct_X7_of (l := l) (E := E) r53.2 (E.2.2.2.2.2 (v3 + 1).toNatClampNeg) (E.2.2.2.2.2 (v3 + 2).toNatClampNeg) er56) qw_777 qw_6 qw_774 qw_775 qw_776 yd_X7_of (by decide) (by decide) rfl (Nat.le_of_ble_eq_true rfl) dL_law_333) ?_
      refine qr_icmp_eq (tgt := 755) dL_law_336 (by decide) (fun c59 => ?_) (fun c59 => ?_)
      · rw [if_pos c59] at h
        obtain ⟨z57, ez57, h⟩ := qm_bind h
        refine qr_iinc (q := 3) (v := z57) (lv' := [(3, .int z57), (0, .ref (qm_a E 222)), (1, .ref (qm_a E 200)), (2, .ref (qm_a E 210))]) dL_law_755 rfl (Option.some.inj ez57) (by decide) rfl ?_
        refine qr_goto (tgt := 18) dL_law_758 (by decide) ?_
        obtain rfl := Option.some.inj h
        exact qr_sub [1, 2, 3, 0] rfl hT
      · rw [if_neg c59] at h
        obtain ⟨y58, h1, hx⟩ := qm_bind h
        clear h
        cases hx
        have h := h1
        refine qr_iconst (v := 0) dL_law_339 (by decide) ?_
        obtain rfl := Option.some.inj h
        cases hT
        exact qr_iret dL_law_340
    rw [if_neg c60] at h
    by_cases c70 : ((E.2.2.2.2.2 v3.toNatClampNeg) &&& 31) = 5
    · rw [if_pos c70] at h
      have tc70 : (((E.2.2.2.2.2 v3.toNatClampNeg) &&& 31)).toInt = 5 := by rw [c70]; rfl
      refine qr_tableIn (tgt := 341) dL_law_32 (by omega) (by omega) (by rw [tc70]; rfl) (by decide) ?_
      refine qr_aload_n dL_law_341 rfl 1 rfl ?_
      refine qr_aload_n dL_law_342 rfl 0 rfl ?_
      refine qr_iload_n dL_law_343 rfl 3 rfl ?_
      refine qr_iconst (v := 1) dL_law_344 (by decide) ?_
      refine qr_iadd dL_law_345 ?_
      obtain ⟨c61, h⟩ := qm_chk h
      refine qr_scd c61 dL_law_346 ?_
      refine qr_aload_n dL_law_347 rfl 0 rfl ?_
      refine qr_iload_n dL_law_348 rfl 3 rfl ?_
      refine qr_iconst (v := 2) dL_law_349 (by decide) ?_
      refine qr_iadd dL_law_350 ?_
      obtain ⟨c62, h⟩ := qm_chk h
      refine qr_scd c62 dL_law_351 ?_
      obtain ⟨r63, er63, h⟩ := qm_bind h
      refine qr_call1 (st1 := [.long r63.1]) rfl (qr_callV (id := 200) (c := 4) (As := [.int (E.2.2.2.2.2 (v3 + 1).toNatClampNeg), .int (E.2.2.2.2.2 (v3 + 2).toNatClampNeg)]) (st := []) rfl (by decide) rfl (ct_X6_turn (l := l) (E := E) σ (E.2.2.2.2.2 (v3 + 1).toNatClampNeg) (E.2.2.2.2.2 (v3 + 2).toNatClampNeg) er63) qw_391 qw_1 qw_388 qw_389 qw_390 yd_X6_turn (by decide) (by decide) rfl (Nat.le_of_ble_eq_true rfl) dL_law_352) ?_
      refine qr_aload_n dL_law_355 rfl 2 rfl ?_
      refine qr_aload_n dL_law_356 rfl 0 rfl ?_
      refine qr_iload_n dL_law_357 rfl 3 rfl ?_
      refine qr_iconst (v := 1) dL_law_358 (by decide) ?_
      refine qr_iadd dL_law_359 ?_
      obtain ⟨c64, h⟩ := qm_chk h
      refine qr_scd c64 dL_law_360 ?_
      refine qr_aload_n dL_law_361 rfl 0 rfl ?_
      refine qr_iload_n dL_law_362 rfl 3 rfl ?_
      refine qr_iconst (v := 2) dL_law_363 (by decide) ?_
      refine qr_iadd dL_law_364 ?_
      obtain ⟨c65, h⟩ := qm_chk h
      refine qr_scd c65 dL_law_365 ?_
      obtain ⟨r66, er66, h⟩ := qm_bind h
      refine qr_call1 (st1 := [.long r66.1, .long r63.1]) rfl (qr_callV (id := 210) (c := 5) (As := [.int (E.2.2.2.2.2 (v3 + 1).toNatClampNeg), .int (E.2.2.2.2.2 (v3 + 2).toNatClampNeg)]) (st := [.long r63.1]) rfl (by decide) rfl (ct_X7_turn (l := l) (E := E) r63.2 (E.2.2.2.2.2 (v3 + 1).toNatClampNeg) (E.2.2.2.2.2 (v3 + 2).toNatClampNeg) er66) qw_798 qw_6 qw_795 qw_796 qw_797 yd_X7_turn (by decide) (by decide) rfl (Nat.le_of_ble_eq_true rfl) dL_law_366) ?_
      refine qr_lcmp dL_law_369 ?_
      refine qr_if_eq (tgt := 755) dL_law_370 (by decide) (fun c69 => ?_) (fun c69 => ?_)
      · rw [if_pos c69] at h
        obtain ⟨z67, ez67, h⟩ := qm_bind h
        refine qr_iinc (q := 3) (v := z67) (lv' := [(3, .int z67), (0, .ref (qm_a E 222)), (1, .ref (qm_a E 200)), (2, .ref (qm_a E 210))]) dL_law_755 rfl (Option.some.inj ez67) (by decide) rfl ?_
        refine qr_goto (tgt := 18) dL_law_758 (by decide) ?_
        obtain rfl := Option.some.inj h
        exact qr_sub [1, 2, 3, 0] rfl hT
      · rw [if_neg c69] at h
        obtain ⟨y68, h1, hx⟩ := qm_bind h
        clear h
        cases hx
        have h := h1
        refine qr_iconst (v := 0) dL_law_373 (by decide) ?_
        obtain rfl := Option.some.inj h
        cases hT
        exact qr_iret dL_law_374
    rw [if_neg c70] at h
    by_cases c80 : ((E.2.2.2.2.2 v3.toNatClampNeg) &&& 31) = 6
    · rw [if_pos c80] at h
      have tc80 : (((E.2.2.2.2.2 v3.toNatClampNeg) &&& 31)).toInt = 6 := by rw [c80]; rfl
      refine qr_tableIn (tgt := 375) dL_law_32 (by omega) (by omega) (by rw [tc80]; rfl) (by decide) ?_
      refine qr_aload_n dL_law_375 rfl 1 rfl ?_
      refine qr_aload_n dL_law_376 rfl 0 rfl ?_
      refine qr_iload_n dL_law_377 rfl 3 rfl ?_
      refine qr_iconst (v := 1) dL_law_378 (by decide) ?_
      refine qr_iadd dL_law_379 ?_
      obtain ⟨c71, h⟩ := qm_chk h
      refine qr_scd c71 dL_law_380 ?_
      refine qr_aload_n dL_law_381 rfl 0 rfl ?_
      refine qr_iload_n dL_law_382 rfl 3 rfl ?_
      refine qr_iconst (v := 2) dL_law_383 (by decide) ?_
      refine qr_iadd dL_law_384 ?_
      obtain ⟨c72, h⟩ := qm_chk h
      refine qr_scd c72 dL_law_385 ?_
      obtain ⟨r73, er73, h⟩ := qm_bind h
      refine qr_call1 (st1 := [.int r73.1]) rfl (qr_callV (id := 200) (c := 4) (As := [.int (E.2.2.2.2.2 (v3 + 1).toNatClampNeg), .int (E.2.2.2.2.2 (v3 + 2).toNatClampNeg)]) (st := []) rfl (by decide) rfl (ct_X6_child (l := l) (E := E) σ (E.2.2.2.2.2 (v3 + 1).toNatClampNeg) (E.2.2.2.2.2 (v3 + 2).toNatClampNeg) er73) qw_395 qw_1 qw_392 qw_393 qw_394 yd_X6_child (by decide) (by decide) rfl (Nat.le_of_ble_eq_true rfl) dL_law_386) ?_
      refine qr_aload_n dL_law_389 rfl 2 rfl ?_
      refine qr_aload_n dL_law_390 rfl 0 rfl ?_
      refine qr_iload_n dL_law_391 rfl 3 rfl ?_
      refine qr_iconst (v := 1) dL_law_392 (by decide) ?_
      refine qr_iadd dL_law_393 ?_
      obtain ⟨c74, h⟩ := qm_chk h
      refine qr_scd c74 dL_law_394 ?_
      refine qr_aload_n dL_law_395 rfl 0 rfl ?_
      refine qr_iload_n dL_law_396 rfl 3 rfl ?_
      refine qr_iconst (v := 2) dL_law_397 (by decide) ?_
      refine qr_iadd dL_law_398 ?_
      obtain ⟨c75, h⟩ := qm_chk h
      refine qr_scd c75 dL_law_399 ?_
      obtain ⟨r76, er76, h⟩ := qm_bind h
      refine qr_call1 (st1 := [.int r76.1, .int r73.1]) rfl (qr_callV (id := 210) (c := 5) (As := [.int (E.2.2.2.2.2 (v3 + 1).toNatClampNeg), .int (E.2.2.2.2.2 (v3 + 2).toNatClampNeg)]) (st := [.int r73.1]) rfl (by decide) rfl (ct_X7_child (l := l) (E := E) r73.2 (E.2.2.2.2.2 (v3 + 1).toNatClampNeg) (E.2.2.2.2.2 (v3 + 2).toNatClampNeg) er76) qw_802 qw_6 qw_799 qw_800 qw_801 yd_X7_child (by decide) (by decide) rfl (Nat.le_of_ble_eq_true rfl) dL_law_400) ?_
      refine qr_icmp_eq (tgt := 755) dL_law_403 (by decide) (fun c79 => ?_) (fun c79 => ?_)
      · rw [if_pos c79] at h
        obtain ⟨z77, ez77, h⟩ := qm_bind h
        refine qr_iinc (q := 3) (v := z77) (lv' := [(3, .int z77), (0, .ref (qm_a E 222)), (1, .ref (qm_a E 200)), (2, .ref (qm_a E 210))]) dL_law_755 rfl (Option.some.inj ez77) (by decide) rfl ?_
        refine qr_goto (tgt := 18) dL_law_758 (by decide) ?_
        obtain rfl := Option.some.inj h
        exact qr_sub [1, 2, 3, 0] rfl hT
      · rw [if_neg c79] at h
        obtain ⟨y78, h1, hx⟩ := qm_bind h
        clear h
        cases hx
        have h := h1
        refine qr_iconst (v := 0) dL_law_406 (by decide) ?_
        obtain rfl := Option.some.inj h
        cases hT
        exact qr_iret dL_law_407
    rw [if_neg c80] at h
    by_cases c90 : ((E.2.2.2.2.2 v3.toNatClampNeg) &&& 31) = 7
    · rw [if_pos c90] at h
      have tc90 : (((E.2.2.2.2.2 v3.toNatClampNeg) &&& 31)).toInt = 7 := by rw [c90]; rfl
      refine qr_tableIn (tgt := 408) dL_law_32 (by omega) (by omega) (by rw [tc90]; rfl) (by decide) ?_
      refine qr_aload_n dL_law_408 rfl 1 rfl ?_
      refine qr_aload_n dL_law_409 rfl 0 rfl ?_
      refine qr_iload_n dL_law_410 rfl 3 rfl ?_
      refine qr_iconst (v := 1) dL_law_411 (by decide) ?_
      refine qr_iadd dL_law_412 ?_
      obtain ⟨c81, h⟩ := qm_chk h
      refine qr_scd c81 dL_law_413 ?_
      refine qr_aload_n dL_law_414 rfl 0 rfl ?_
      refine qr_iload_n dL_law_415 rfl 3 rfl ?_
      refine qr_iconst (v := 2) dL_law_416 (by decide) ?_
      refine qr_iadd dL_law_417 ?_
      obtain ⟨c82, h⟩ := qm_chk h
      refine qr_scd c82 dL_law_418 ?_
      obtain ⟨r83, er83, h⟩ := qm_bind h
      refine qr_call1 (st1 := [.int r83.1]) rfl (qr_callV (id := 200) (c := 4) (As := [.int (E.2.2.2.2.2 (v3 + 1).toNatClampNeg), .int (E.2.2.2.2.2 (v3 + 2).toNatClampNeg)]) (st := []) rfl (by decide) rfl (ct_X6_common (l := l) (E := E) σ (E.2.2.2.2.2 (v3 + 1).toNatClampNeg) (E.2.2.2.2.2 (v3 + 2).toNatClampNeg) er83) qw_403 qw_1 qw_400 qw_401 qw_402 yd_X6_common (by decide) (by decide) rfl (Nat.le_of_ble_eq_true rfl) dL_law_419) ?_
      refine qr_aload_n dL_law_422 rfl 2 rfl ?_
      refine qr_aload_n dL_law_423 rfl 0 rfl ?_
      refine qr_iload_n dL_law_424 rfl 3 rfl ?_
      refine qr_iconst (v := 1) dL_law_425 (by decide) ?_
      refine qr_iadd dL_law_426 ?_
      obtain ⟨c84, h⟩ := qm_chk h
      refine qr_scd c84 dL_law_427 ?_
      refine qr_aload_n dL_law_428 rfl 0 rfl ?_
      refine qr_iload_n dL_law_429 rfl 3 rfl ?_
      refine qr_iconst (v := 2) dL_law_430 (by decide) ?_
      refine qr_iadd dL_law_431 ?_
      obtain ⟨c85, h⟩ := qm_chk h
      refine qr_scd c85 dL_law_432 ?_
      obtain ⟨r86, er86, h⟩ := qm_bind h
      refine qr_call1 (st1 := [.int r86.1, .int r83.1]) rfl (qr_callV (id := 210) (c := 5) (As := [.int (E.2.2.2.2.2 (v3 + 1).toNatClampNeg), .int (E.2.2.2.2.2 (v3 + 2).toNatClampNeg)]) (st := [.int r83.1]) rfl (by decide) rfl (ct_X7_common (l := l) (E := E) r83.2 (E.2.2.2.2.2 (v3 + 1).toNatClampNeg) (E.2.2.2.2.2 (v3 + 2).toNatClampNeg) er86) qw_806 qw_6 qw_803 qw_804 qw_805 yd_X7_common (by decide) (by decide) rfl (Nat.le_of_ble_eq_true rfl) dL_law_433) ?_
      refine qr_icmp_eq (tgt := 755) dL_law_436 (by decide) (fun c89 => ?_) (fun c89 => ?_)
      · rw [if_pos c89] at h
        obtain ⟨z87, ez87, h⟩ := qm_bind h
        refine qr_iinc (q := 3) (v := z87) (lv' := [(3, .int z87), (0, .ref (qm_a E 222)), (1, .ref (qm_a E 200)), (2, .ref (qm_a E 210))]) dL_law_755 rfl (Option.some.inj ez87) (by decide) rfl ?_
        refine qr_goto (tgt := 18) dL_law_758 (by decide) ?_
        obtain rfl := Option.some.inj h
        exact qr_sub [1, 2, 3, 0] rfl hT
      · rw [if_neg c89] at h
        obtain ⟨y88, h1, hx⟩ := qm_bind h
        clear h
        cases hx
        have h := h1
        refine qr_iconst (v := 0) dL_law_439 (by decide) ?_
        obtain rfl := Option.some.inj h
        cases hT
        exact qr_iret dL_law_440
    rw [if_neg c90] at h
    by_cases c100 : ((E.2.2.2.2.2 v3.toNatClampNeg) &&& 31) = 8
    · rw [if_pos c100] at h
      have tc100 : (((E.2.2.2.2.2 v3.toNatClampNeg) &&& 31)).toInt = 8 := by rw [c100]; rfl
      refine qr_tableIn (tgt := 441) dL_law_32 (by omega) (by omega) (by rw [tc100]; rfl) (by decide) ?_
      refine qr_aload_n dL_law_441 rfl 1 rfl ?_
      refine qr_aload_n dL_law_442 rfl 0 rfl ?_
      refine qr_iload_n dL_law_443 rfl 3 rfl ?_
      refine qr_iconst (v := 1) dL_law_444 (by decide) ?_
      refine qr_iadd dL_law_445 ?_
      obtain ⟨c91, h⟩ := qm_chk h
      refine qr_scd c91 dL_law_446 ?_
      refine qr_aload_n dL_law_447 rfl 0 rfl ?_
      refine qr_iload_n dL_law_448 rfl 3 rfl ?_
      refine qr_iconst (v := 2) dL_law_449 (by decide) ?_
      refine qr_iadd dL_law_450 ?_
      obtain ⟨c92, h⟩ := qm_chk h
      refine qr_scd c92 dL_law_451 ?_
      obtain ⟨r93, er93, h⟩ := qm_bind h
      refine qr_call1 (st1 := [.int r93.1]) rfl (qr_callV (id := 200) (c := 4) (As := [.int (E.2.2.2.2.2 (v3 + 1).toNatClampNeg), .int (E.2.2.2.2.2 (v3 + 2).toNatClampNeg)]) (st := []) rfl (by decide) rfl (ct_X6_readies (l := l) (E := E) σ (E.2.2.2.2.2 (v3 + 1).toNatClampNeg) (E.2.2.2.2.2 (v3 + 2).toNatClampNeg) er93) qw_411 qw_1 qw_408 qw_409 qw_410 yd_X6_readies (by decide) (by decide) rfl (Nat.le_of_ble_eq_true rfl) dL_law_452) ?_
      refine qr_aload_n dL_law_455 rfl 2 rfl ?_
      refine qr_aload_n dL_law_456 rfl 0 rfl ?_
      refine qr_iload_n dL_law_457 rfl 3 rfl ?_
      refine qr_iconst (v := 1) dL_law_458 (by decide) ?_
      refine qr_iadd dL_law_459 ?_
      obtain ⟨c94, h⟩ := qm_chk h
      refine qr_scd c94 dL_law_460 ?_
      refine qr_aload_n dL_law_461 rfl 0 rfl ?_
      refine qr_iload_n dL_law_462 rfl 3 rfl ?_
      refine qr_iconst (v := 2) dL_law_463 (by decide) ?_
      refine qr_iadd dL_law_464 ?_
      obtain ⟨c95, h⟩ := qm_chk h
      refine qr_scd c95 dL_law_465 ?_
      obtain ⟨r96, er96, h⟩ := qm_bind h
      refine qr_call1 (st1 := [.int r96.1, .int r93.1]) rfl (qr_callV (id := 210) (c := 5) (As := [.int (E.2.2.2.2.2 (v3 + 1).toNatClampNeg), .int (E.2.2.2.2.2 (v3 + 2).toNatClampNeg)]) (st := [.int r93.1]) rfl (by decide) rfl (ct_X7_readies (l := l) (E := E) r93.2 (E.2.2.2.2.2 (v3 + 1).toNatClampNeg) (E.2.2.2.2.2 (v3 + 2).toNatClampNeg) er96) qw_810 qw_6 qw_807 qw_808 qw_809 yd_X7_readies (by decide) (by decide) rfl (Nat.le_of_ble_eq_true rfl) dL_law_466) ?_
      refine qr_icmp_eq (tgt := 755) dL_law_469 (by decide) (fun c99 => ?_) (fun c99 => ?_)
      · rw [if_pos c99] at h
        obtain ⟨z97, ez97, h⟩ := qm_bind h
        refine qr_iinc (q := 3) (v := z97) (lv' := [(3, .int z97), (0, .ref (qm_a E 222)), (1, .ref (qm_a E 200)), (2, .ref (qm_a E 210))]) dL_law_755 rfl (Option.some.inj ez97) (by decide) rfl ?_
        refine qr_goto (tgt := 18) dL_law_758 (by decide) ?_
        obtain rfl := Option.some.inj h
        exact qr_sub [1, 2, 3, 0] rfl hT
      · rw [if_neg c99] at h
        obtain ⟨y98, h1, hx⟩ := qm_bind h
        clear h
        cases hx
        have h := h1
        refine qr_iconst (v := 0) dL_law_472 (by decide) ?_
        obtain rfl := Option.some.inj h
        cases hT
        exact qr_iret dL_law_473
    rw [if_neg c100] at h
    by_cases c110 : ((E.2.2.2.2.2 v3.toNatClampNeg) &&& 31) = 9
    · rw [if_pos c110] at h
      have tc110 : (((E.2.2.2.2.2 v3.toNatClampNeg) &&& 31)).toInt = 9 := by rw [c110]; rfl
      refine qr_tableIn (tgt := 474) dL_law_32 (by omega) (by omega) (by rw [tc110]; rfl) (by decide) ?_
      refine qr_aload_n dL_law_474 rfl 1 rfl ?_
      refine qr_aload_n dL_law_475 rfl 0 rfl ?_
      refine qr_iload_n dL_law_476 rfl 3 rfl ?_
      refine qr_iconst (v := 1) dL_law_477 (by decide) ?_
      refine qr_iadd dL_law_478 ?_
      obtain ⟨c101, h⟩ := qm_chk h
      refine qr_scd c101 dL_law_479 ?_
      refine qr_aload_n dL_law_480 rfl 0 rfl ?_
      refine qr_iload_n dL_law_481 rfl 3 rfl ?_
      refine qr_iconst (v := 2) dL_law_482 (by decide) ?_
      refine qr_iadd dL_law_483 ?_
      obtain ⟨c102, h⟩ := qm_chk h
      refine qr_scd c102 dL_law_484 ?_
      obtain ⟨r103, er103, h⟩ := qm_bind h
      refine qr_call1 (st1 := [.int r103.1]) rfl (qr_callV (id := 200) (c := 4) (As := [.int (E.2.2.2.2.2 (v3 + 1).toNatClampNeg), .int (E.2.2.2.2.2 (v3 + 2).toNatClampNeg)]) (st := []) rfl (by decide) rfl (ct_X6_window (l := l) (E := E) σ (E.2.2.2.2.2 (v3 + 1).toNatClampNeg) (E.2.2.2.2.2 (v3 + 2).toNatClampNeg) er103) qw_415 qw_1 qw_412 qw_413 qw_414 yd_X6_window (by decide) (by decide) rfl (Nat.le_of_ble_eq_true rfl) dL_law_485) ?_
      refine qr_aload_n dL_law_488 rfl 2 rfl ?_
      refine qr_aload_n dL_law_489 rfl 0 rfl ?_
      refine qr_iload_n dL_law_490 rfl 3 rfl ?_
      refine qr_iconst (v := 1) dL_law_491 (by decide) ?_
      refine qr_iadd dL_law_492 ?_
      obtain ⟨c104, h⟩ := qm_chk h
      refine qr_scd c104 dL_law_493 ?_
      refine qr_aload_n dL_law_494 rfl 0 rfl ?_
      refine qr_iload_n dL_law_495 rfl 3 rfl ?_
      refine qr_iconst (v := 2) dL_law_496 (by decide) ?_
      refine qr_iadd dL_law_497 ?_
      obtain ⟨c105, h⟩ := qm_chk h
      refine qr_scd c105 dL_law_498 ?_
      obtain ⟨r106, er106, h⟩ := qm_bind h
      refine qr_call1 (st1 := [.int r106.1, .int r103.1]) rfl (qr_callV (id := 210) (c := 5) (As := [.int (E.2.2.2.2.2 (v3 + 1).toNatClampNeg), .int (E.2.2.2.2.2 (v3 + 2).toNatClampNeg)]) (st := [.int r103.1]) rfl (by decide) rfl (ct_X7_window (l := l) (E := E) r103.2 (E.2.2.2.2.2 (v3 + 1).toNatClampNeg) (E.2.2.2.2.2 (v3 + 2).toNatClampNeg) er106) qw_815 qw_6 qw_812 qw_813 qw_814 yd_X7_window (by decide) (by decide) rfl (Nat.le_of_ble_eq_true rfl) dL_law_499) ?_
      refine qr_icmp_eq (tgt := 755) dL_law_502 (by decide) (fun c109 => ?_) (fun c109 => ?_)
      · rw [if_pos c109] at h
        obtain ⟨z107, ez107, h⟩ := qm_bind h
        refine qr_iinc (q := 3) (v := z107) (lv' := [(3, .int z107), (0, .ref (qm_a E 222)), (1, .ref (qm_a E 200)), (2, .ref (qm_a E 210))]) dL_law_755 rfl (Option.some.inj ez107) (by decide) rfl ?_
        refine qr_goto (tgt := 18) dL_law_758 (by decide) ?_
        obtain rfl := Option.some.inj h
        exact qr_sub [1, 2, 3, 0] rfl hT
      · rw [if_neg c109] at h
        obtain ⟨y108, h1, hx⟩ := qm_bind h
        clear h
        cases hx
        have h := h1
        refine qr_iconst (v := 0) dL_law_505 (by decide) ?_
        obtain rfl := Option.some.inj h
        cases hT
        exact qr_iret dL_law_506
    rw [if_neg c110] at h
    by_cases c120 : ((E.2.2.2.2.2 v3.toNatClampNeg) &&& 31) = 10
    · rw [if_pos c120] at h
      have tc120 : (((E.2.2.2.2.2 v3.toNatClampNeg) &&& 31)).toInt = 10 := by rw [c120]; rfl
      refine qr_tableIn (tgt := 507) dL_law_32 (by omega) (by omega) (by rw [tc120]; rfl) (by decide) ?_
      refine qr_aload_n dL_law_507 rfl 1 rfl ?_
      refine qr_aload_n dL_law_508 rfl 0 rfl ?_
      refine qr_iload_n dL_law_509 rfl 3 rfl ?_
      refine qr_iconst (v := 1) dL_law_510 (by decide) ?_
      refine qr_iadd dL_law_511 ?_
      obtain ⟨c111, h⟩ := qm_chk h
      refine qr_scd c111 dL_law_512 ?_
      refine qr_aload_n dL_law_513 rfl 0 rfl ?_
      refine qr_iload_n dL_law_514 rfl 3 rfl ?_
      refine qr_iconst (v := 2) dL_law_515 (by decide) ?_
      refine qr_iadd dL_law_516 ?_
      obtain ⟨c112, h⟩ := qm_chk h
      refine qr_scd c112 dL_law_517 ?_
      obtain ⟨r113, er113, h⟩ := qm_bind h
      refine qr_call1 (st1 := [.int r113.1]) rfl (qr_callV (id := 200) (c := 4) (As := [.int (E.2.2.2.2.2 (v3 + 1).toNatClampNeg), .int (E.2.2.2.2.2 (v3 + 2).toNatClampNeg)]) (st := []) rfl (by decide) rfl (ct_X6_settings (l := l) (E := E) σ (E.2.2.2.2.2 (v3 + 1).toNatClampNeg) (E.2.2.2.2.2 (v3 + 2).toNatClampNeg) er113) qw_419 qw_1 qw_416 qw_417 qw_418 yd_X6_settings (by decide) (by decide) rfl (Nat.le_of_ble_eq_true rfl) dL_law_518) ?_
      refine qr_aload_n dL_law_521 rfl 2 rfl ?_
      refine qr_aload_n dL_law_522 rfl 0 rfl ?_
      refine qr_iload_n dL_law_523 rfl 3 rfl ?_
      refine qr_iconst (v := 1) dL_law_524 (by decide) ?_
      refine qr_iadd dL_law_525 ?_
      obtain ⟨c114, h⟩ := qm_chk h
      refine qr_scd c114 dL_law_526 ?_
      refine qr_aload_n dL_law_527 rfl 0 rfl ?_
      refine qr_iload_n dL_law_528 rfl 3 rfl ?_
      refine qr_iconst (v := 2) dL_law_529 (by decide) ?_
      refine qr_iadd dL_law_530 ?_
      obtain ⟨c115, h⟩ := qm_chk h
      refine qr_scd c115 dL_law_531 ?_
      obtain ⟨r116, er116, h⟩ := qm_bind h
      refine qr_call1 (st1 := [.int r116.1, .int r113.1]) rfl (qr_callV (id := 210) (c := 5) (As := [.int (E.2.2.2.2.2 (v3 + 1).toNatClampNeg), .int (E.2.2.2.2.2 (v3 + 2).toNatClampNeg)]) (st := [.int r113.1]) rfl (by decide) rfl (ct_X7_settings (l := l) (E := E) r113.2 (E.2.2.2.2.2 (v3 + 1).toNatClampNeg) (E.2.2.2.2.2 (v3 + 2).toNatClampNeg) er116) qw_819 qw_6 qw_816 qw_817 qw_818 yd_X7_settings (by decide) (by decide) rfl (Nat.le_of_ble_eq_true rfl) dL_law_532) ?_
      refine qr_icmp_eq (tgt := 755) dL_law_535 (by decide) (fun c119 => ?_) (fun c119 => ?_)
      · rw [if_pos c119] at h
        obtain ⟨z117, ez117, h⟩ := qm_bind h
        refine qr_iinc (q := 3) (v := z117) (lv' := [(3, .int z117), (0, .ref (qm_a E 222)), (1, .ref (qm_a E 200)), (2, .ref (qm_a E 210))]) dL_law_755 rfl (Option.some.inj ez117) (by decide) rfl ?_
        refine qr_goto (tgt := 18) dL_law_758 (by decide) ?_
        obtain rfl := Option.some.inj h
        exact qr_sub [1, 2, 3, 0] rfl hT
      · rw [if_neg c119] at h
        obtain ⟨y118, h1, hx⟩ := qm_bind h
        clear h
        cases hx
        have h := h1
        refine qr_iconst (v := 0) dL_law_538 (by decide) ?_
        obtain rfl := Option.some.inj h
        cases hT
        exact qr_iret dL_law_539
    rw [if_neg c120] at h
    by_cases c128 : ((E.2.2.2.2.2 v3.toNatClampNeg) &&& 31) = 11
    · rw [if_pos c128] at h
      have tc128 : (((E.2.2.2.2.2 v3.toNatClampNeg) &&& 31)).toInt = 11 := by rw [c128]; rfl
      refine qr_tableIn (tgt := 540) dL_law_32 (by omega) (by omega) (by rw [tc128]; rfl) (by decide) ?_
      refine qr_aload_n dL_law_540 rfl 1 rfl ?_
      refine qr_aload_n dL_law_541 rfl 0 rfl ?_
      refine qr_iload_n dL_law_542 rfl 3 rfl ?_
      refine qr_iconst (v := 1) dL_law_543 (by decide) ?_
      refine qr_iadd dL_law_544 ?_
      obtain ⟨c121, h⟩ := qm_chk h
      refine qr_scd c121 dL_law_545 ?_
      obtain ⟨r122, er122, h⟩ := qm_bind h
      refine qr_call1 (st1 := [.int r122.1]) rfl (qr_callV (id := 200) (c := 4) (As := [.int (E.2.2.2.2.2 (v3 + 1).toNatClampNeg)]) (st := []) rfl (by decide) rfl (ct_X6_sends (l := l) (E := E) σ (E.2.2.2.2.2 (v3 + 1).toNatClampNeg) er122) qw_432 qw_1 qw_429 qw_430 qw_431 yd_X6_sends (by decide) (by decide) rfl (Nat.le_of_ble_eq_true rfl) dL_law_546) ?_
      refine qr_aload_n dL_law_549 rfl 2 rfl ?_
      refine qr_aload_n dL_law_550 rfl 0 rfl ?_
      refine qr_iload_n dL_law_551 rfl 3 rfl ?_
      refine qr_iconst (v := 1) dL_law_552 (by decide) ?_
      refine qr_iadd dL_law_553 ?_
      obtain ⟨c123, h⟩ := qm_chk h
      refine qr_scd c123 dL_law_554 ?_
      obtain ⟨r124, er124, h⟩ := qm_bind h
      refine qr_call1 (st1 := [.int r124.1, .int r122.1]) rfl (qr_callV (id := 210) (c := 5) (As := [.int (E.2.2.2.2.2 (v3 + 1).toNatClampNeg)]) (st := [.int r122.1]) rfl (by decide) rfl (ct_X7_sends (l := l) (E := E) r122.2 (E.2.2.2.2.2 (v3 + 1).toNatClampNeg) er124) qw_858 qw_6 qw_855 qw_856 qw_857 yd_X7_sends (by decide) (by decide) rfl (Nat.le_of_ble_eq_true rfl) dL_law_555) ?_
      refine qr_icmp_eq (tgt := 755) dL_law_558 (by decide) (fun c127 => ?_) (fun c127 => ?_)
      · rw [if_pos c127] at h
        obtain ⟨z125, ez125, h⟩ := qm_bind h
        refine qr_iinc (q := 3) (v := z125) (lv' := [(3, .int z125), (0, .ref (qm_a E 222)), (1, .ref (qm_a E 200)), (2, .ref (qm_a E 210))]) dL_law_755 rfl (Option.some.inj ez125) (by decide) rfl ?_
        refine qr_goto (tgt := 18) dL_law_758 (by decide) ?_
        obtain rfl := Option.some.inj h
        exact qr_sub [1, 2, 3, 0] rfl hT
      · rw [if_neg c127] at h
        obtain ⟨y126, h1, hx⟩ := qm_bind h
        clear h
        cases hx
        have h := h1
        refine qr_iconst (v := 0) dL_law_561 (by decide) ?_
        obtain rfl := Option.some.inj h
        cases hT
        exact qr_iret dL_law_562
    rw [if_neg c128] at h
    by_cases c134 : ((E.2.2.2.2.2 v3.toNatClampNeg) &&& 31) = 12
    · rw [if_pos c134] at h
      have tc134 : (((E.2.2.2.2.2 v3.toNatClampNeg) &&& 31)).toInt = 12 := by rw [c134]; rfl
      refine qr_tableIn (tgt := 563) dL_law_32 (by omega) (by omega) (by rw [tc134]; rfl) (by decide) ?_
      refine qr_aload_n dL_law_563 rfl 1 rfl ?_
      obtain ⟨r129, er129, h⟩ := qm_bind h
      refine qr_call1 (st1 := [.int r129]) rfl (qr_callV (id := 200) (c := 4) (As := []) (st := []) rfl (by decide) rfl (ct_X6_next (l := l) (E := E) σ  er129) qw_489 qw_1 qw_486 qw_487 qw_488 yd_X6_next (by decide) (by decide) rfl (Nat.le_of_ble_eq_true rfl) dL_law_564) ?_
      refine qr_aload_n dL_law_567 rfl 2 rfl ?_
      obtain ⟨r130, er130, h⟩ := qm_bind h
      refine qr_call1 (st1 := [.int r130, .int r129]) rfl (qr_callV (id := 210) (c := 5) (As := []) (st := [.int r129]) rfl (by decide) rfl (ct_X7_next (l := l) (E := E) σ  er130) qw_826 qw_6 qw_823 qw_824 qw_825 yd_X7_next (by decide) (by decide) rfl (Nat.le_of_ble_eq_true rfl) dL_law_568) ?_
      refine qr_icmp_eq (tgt := 755) dL_law_571 (by decide) (fun c133 => ?_) (fun c133 => ?_)
      · rw [if_pos c133] at h
        obtain ⟨z131, ez131, h⟩ := qm_bind h
        refine qr_iinc (q := 3) (v := z131) (lv' := [(3, .int z131), (0, .ref (qm_a E 222)), (1, .ref (qm_a E 200)), (2, .ref (qm_a E 210))]) dL_law_755 rfl (Option.some.inj ez131) (by decide) rfl ?_
        refine qr_goto (tgt := 18) dL_law_758 (by decide) ?_
        obtain rfl := Option.some.inj h
        exact qr_sub [1, 2, 3, 0] rfl hT
      · rw [if_neg c133] at h
        obtain ⟨y132, h1, hx⟩ := qm_bind h
        clear h
        cases hx
        have h := h1
        refine qr_iconst (v := 0) dL_law_574 (by decide) ?_
        obtain rfl := Option.some.inj h
        cases hT
        exact qr_iret dL_law_575
    rw [if_neg c134] at h
    by_cases c144 : ((E.2.2.2.2.2 v3.toNatClampNeg) &&& 31) = 13
    · rw [if_pos c144] at h
      have tc144 : (((E.2.2.2.2.2 v3.toNatClampNeg) &&& 31)).toInt = 13 := by rw [c144]; rfl
      refine qr_tableIn (tgt := 576) dL_law_32 (by omega) (by omega) (by rw [tc144]; rfl) (by decide) ?_
      refine qr_aload_n dL_law_576 rfl 1 rfl ?_
      refine qr_aload_n dL_law_577 rfl 0 rfl ?_
      refine qr_iload_n dL_law_578 rfl 3 rfl ?_
      refine qr_iconst (v := 1) dL_law_579 (by decide) ?_
      refine qr_iadd dL_law_580 ?_
      obtain ⟨c135, h⟩ := qm_chk h
      refine qr_scd c135 dL_law_581 ?_
      refine qr_aload_n dL_law_582 rfl 0 rfl ?_
      refine qr_iload_n dL_law_583 rfl 3 rfl ?_
      refine qr_iconst (v := 2) dL_law_584 (by decide) ?_
      refine qr_iadd dL_law_585 ?_
      obtain ⟨c136, h⟩ := qm_chk h
      refine qr_scd c136 dL_law_586 ?_
      obtain ⟨r137, er137, h⟩ := qm_bind h
      refine qr_call1 (st1 := [.long r137.1]) rfl (qr_callV (id := 200) (c := 4) (As := [.int (E.2.2.2.2.2 (v3 + 1).toNatClampNeg), .int (E.2.2.2.2.2 (v3 + 2).toNatClampNeg)]) (st := []) rfl (by decide) rfl (ct_X6_share (l := l) (E := E) σ (E.2.2.2.2.2 (v3 + 1).toNatClampNeg) (E.2.2.2.2.2 (v3 + 2).toNatClampNeg) er137) qw_494 qw_1 qw_491 qw_492 qw_493 yd_X6_share (by decide) (by decide) rfl (Nat.le_of_ble_eq_true rfl) dL_law_587) ?_
      refine qr_aload_n dL_law_590 rfl 2 rfl ?_
      refine qr_aload_n dL_law_591 rfl 0 rfl ?_
      refine qr_iload_n dL_law_592 rfl 3 rfl ?_
      refine qr_iconst (v := 1) dL_law_593 (by decide) ?_
      refine qr_iadd dL_law_594 ?_
      obtain ⟨c138, h⟩ := qm_chk h
      refine qr_scd c138 dL_law_595 ?_
      refine qr_aload_n dL_law_596 rfl 0 rfl ?_
      refine qr_iload_n dL_law_597 rfl 3 rfl ?_
      refine qr_iconst (v := 2) dL_law_598 (by decide) ?_
      refine qr_iadd dL_law_599 ?_
      obtain ⟨c139, h⟩ := qm_chk h
      refine qr_scd c139 dL_law_600 ?_
      obtain ⟨r140, er140, h⟩ := qm_bind h
      refine qr_call1 (st1 := [.long r140.1, .long r137.1]) rfl (qr_callV (id := 210) (c := 5) (As := [.int (E.2.2.2.2.2 (v3 + 1).toNatClampNeg), .int (E.2.2.2.2.2 (v3 + 2).toNatClampNeg)]) (st := [.long r137.1]) rfl (by decide) rfl (ct_X7_share (l := l) (E := E) r137.2 (E.2.2.2.2.2 (v3 + 1).toNatClampNeg) (E.2.2.2.2.2 (v3 + 2).toNatClampNeg) er140) qw_883 qw_6 qw_880 qw_881 qw_882 yd_X7_share (by decide) (by decide) rfl (Nat.le_of_ble_eq_true rfl) dL_law_601) ?_
      refine qr_lcmp dL_law_604 ?_
      refine qr_if_eq (tgt := 755) dL_law_605 (by decide) (fun c143 => ?_) (fun c143 => ?_)
      · rw [if_pos c143] at h
        obtain ⟨z141, ez141, h⟩ := qm_bind h
        refine qr_iinc (q := 3) (v := z141) (lv' := [(3, .int z141), (0, .ref (qm_a E 222)), (1, .ref (qm_a E 200)), (2, .ref (qm_a E 210))]) dL_law_755 rfl (Option.some.inj ez141) (by decide) rfl ?_
        refine qr_goto (tgt := 18) dL_law_758 (by decide) ?_
        obtain rfl := Option.some.inj h
        exact qr_sub [1, 2, 3, 0] rfl hT
      · rw [if_neg c143] at h
        obtain ⟨y142, h1, hx⟩ := qm_bind h
        clear h
        cases hx
        have h := h1
        refine qr_iconst (v := 0) dL_law_608 (by decide) ?_
        obtain rfl := Option.some.inj h
        cases hT
        exact qr_iret dL_law_609
    rw [if_neg c144] at h
    by_cases c152 : ((E.2.2.2.2.2 v3.toNatClampNeg) &&& 31) = 14
    · rw [if_pos c152] at h
      have tc152 : (((E.2.2.2.2.2 v3.toNatClampNeg) &&& 31)).toInt = 14 := by rw [c152]; rfl
      refine qr_tableIn (tgt := 610) dL_law_32 (by omega) (by omega) (by rw [tc152]; rfl) (by decide) ?_
      refine qr_aload_n dL_law_610 rfl 1 rfl ?_
      refine qr_aload_n dL_law_611 rfl 0 rfl ?_
      refine qr_iload_n dL_law_612 rfl 3 rfl ?_
      refine qr_iconst (v := 1) dL_law_613 (by decide) ?_
      refine qr_iadd dL_law_614 ?_
      obtain ⟨c145, h⟩ := qm_chk h
      refine qr_scd c145 dL_law_615 ?_
      obtain ⟨r146, er146, h⟩ := qm_bind h
      refine qr_call1 (st1 := [.int r146.1]) rfl (qr_callV (id := 200) (c := 4) (As := [.int (E.2.2.2.2.2 (v3 + 1).toNatClampNeg)]) (st := []) rfl (by decide) rfl (ct_X6_all (l := l) (E := E) σ (E.2.2.2.2.2 (v3 + 1).toNatClampNeg) er146) qw_510 qw_1 qw_507 qw_508 qw_509 yd_X6_all (by decide) (by decide) rfl (Nat.le_of_ble_eq_true rfl) dL_law_616) ?_
      refine qr_aload_n dL_law_619 rfl 2 rfl ?_
      refine qr_aload_n dL_law_620 rfl 0 rfl ?_
      refine qr_iload_n dL_law_621 rfl 3 rfl ?_
      refine qr_iconst (v := 1) dL_law_622 (by decide) ?_
      refine qr_iadd dL_law_623 ?_
      obtain ⟨c147, h⟩ := qm_chk h
      refine qr_scd c147 dL_law_624 ?_
      obtain ⟨r148, er148, h⟩ := qm_bind h
      refine qr_call1 (st1 := [.int r148.1, .int r146.1]) rfl (qr_callV (id := 210) (c := 5) (As := [.int (E.2.2.2.2.2 (v3 + 1).toNatClampNeg)]) (st := [.int r146.1]) rfl (by decide) rfl (ct_X7_all (l := l) (E := E) r146.2 (E.2.2.2.2.2 (v3 + 1).toNatClampNeg) er148) qw_894 qw_6 qw_891 qw_892 qw_893 yd_X7_all (by decide) (by decide) rfl (Nat.le_of_ble_eq_true rfl) dL_law_625) ?_
      refine qr_icmp_eq (tgt := 755) dL_law_628 (by decide) (fun c151 => ?_) (fun c151 => ?_)
      · rw [if_pos c151] at h
        obtain ⟨z149, ez149, h⟩ := qm_bind h
        refine qr_iinc (q := 3) (v := z149) (lv' := [(3, .int z149), (0, .ref (qm_a E 222)), (1, .ref (qm_a E 200)), (2, .ref (qm_a E 210))]) dL_law_755 rfl (Option.some.inj ez149) (by decide) rfl ?_
        refine qr_goto (tgt := 18) dL_law_758 (by decide) ?_
        obtain rfl := Option.some.inj h
        exact qr_sub [1, 2, 3, 0] rfl hT
      · rw [if_neg c151] at h
        obtain ⟨y150, h1, hx⟩ := qm_bind h
        clear h
        cases hx
        have h := h1
        refine qr_iconst (v := 0) dL_law_631 (by decide) ?_
        obtain rfl := Option.some.inj h
        cases hT
        exact qr_iret dL_law_632
    rw [if_neg c152] at h
    by_cases c160 : ((E.2.2.2.2.2 v3.toNatClampNeg) &&& 31) = 15
    · rw [if_pos c160] at h
      have tc160 : (((E.2.2.2.2.2 v3.toNatClampNeg) &&& 31)).toInt = 15 := by rw [c160]; rfl
      refine qr_tableIn (tgt := 633) dL_law_32 (by omega) (by omega) (by rw [tc160]; rfl) (by decide) ?_
      refine qr_aload_n dL_law_633 rfl 1 rfl ?_
      refine qr_aload_n dL_law_634 rfl 0 rfl ?_
      refine qr_iload_n dL_law_635 rfl 3 rfl ?_
      refine qr_iconst (v := 1) dL_law_636 (by decide) ?_
      refine qr_iadd dL_law_637 ?_
      obtain ⟨c153, h⟩ := qm_chk h
      refine qr_scd c153 dL_law_638 ?_
      obtain ⟨r154, er154, h⟩ := qm_bind h
      refine qr_call1 (st1 := [.int r154.1]) rfl (qr_callV (id := 200) (c := 4) (As := [.int (E.2.2.2.2.2 (v3 + 1).toNatClampNeg)]) (st := []) rfl (by decide) rfl (ct_X6_type (l := l) (E := E) σ (E.2.2.2.2.2 (v3 + 1).toNatClampNeg) er154) qw_523 qw_1 qw_520 qw_521 qw_522 yd_X6_type (by decide) (by decide) rfl (Nat.le_of_ble_eq_true rfl) dL_law_639) ?_
      refine qr_aload_n dL_law_642 rfl 2 rfl ?_
      refine qr_aload_n dL_law_643 rfl 0 rfl ?_
      refine qr_iload_n dL_law_644 rfl 3 rfl ?_
      refine qr_iconst (v := 1) dL_law_645 (by decide) ?_
      refine qr_iadd dL_law_646 ?_
      obtain ⟨c155, h⟩ := qm_chk h
      refine qr_scd c155 dL_law_647 ?_
      obtain ⟨r156, er156, h⟩ := qm_bind h
      refine qr_call1 (st1 := [.int r156.1, .int r154.1]) rfl (qr_callV (id := 210) (c := 5) (As := [.int (E.2.2.2.2.2 (v3 + 1).toNatClampNeg)]) (st := [.int r154.1]) rfl (by decide) rfl (ct_X7_type (l := l) (E := E) r154.2 (E.2.2.2.2.2 (v3 + 1).toNatClampNeg) er156) qw_903 qw_6 qw_900 qw_901 qw_902 yd_X7_type (by decide) (by decide) rfl (Nat.le_of_ble_eq_true rfl) dL_law_648) ?_
      refine qr_icmp_eq (tgt := 755) dL_law_651 (by decide) (fun c159 => ?_) (fun c159 => ?_)
      · rw [if_pos c159] at h
        obtain ⟨z157, ez157, h⟩ := qm_bind h
        refine qr_iinc (q := 3) (v := z157) (lv' := [(3, .int z157), (0, .ref (qm_a E 222)), (1, .ref (qm_a E 200)), (2, .ref (qm_a E 210))]) dL_law_755 rfl (Option.some.inj ez157) (by decide) rfl ?_
        refine qr_goto (tgt := 18) dL_law_758 (by decide) ?_
        obtain rfl := Option.some.inj h
        exact qr_sub [1, 2, 3, 0] rfl hT
      · rw [if_neg c159] at h
        obtain ⟨y158, h1, hx⟩ := qm_bind h
        clear h
        cases hx
        have h := h1
        refine qr_iconst (v := 0) dL_law_654 (by decide) ?_
        obtain rfl := Option.some.inj h
        cases hT
        exact qr_iret dL_law_655
    rw [if_neg c160] at h
    by_cases c166 : ((E.2.2.2.2.2 v3.toNatClampNeg) &&& 31) = 16
    · rw [if_pos c166] at h
      have tc166 : (((E.2.2.2.2.2 v3.toNatClampNeg) &&& 31)).toInt = 16 := by rw [c166]; rfl
      refine qr_tableIn (tgt := 656) dL_law_32 (by omega) (by omega) (by rw [tc166]; rfl) (by decide) ?_
      refine qr_aload_n dL_law_656 rfl 1 rfl ?_
      obtain ⟨r161, er161, h⟩ := qm_bind h
      refine qr_call1 (st1 := [.int r161.1]) rfl (qr_callV (id := 200) (c := 4) (As := []) (st := []) rfl (by decide) rfl (ct_X6_clear (l := l) (E := E) σ  er161) qw_531 qw_1 qw_528 qw_529 qw_530 yd_X6_clear (by decide) (by decide) rfl (Nat.le_of_ble_eq_true rfl) dL_law_657) ?_
      refine qr_aload_n dL_law_660 rfl 2 rfl ?_
      obtain ⟨r162, er162, h⟩ := qm_bind h
      refine qr_call1 (st1 := [.int r162.1, .int r161.1]) rfl (qr_callV (id := 210) (c := 5) (As := []) (st := [.int r161.1]) rfl (by decide) rfl (ct_X7_clear (l := l) (E := E) r161.2  er162) qw_908 qw_6 qw_905 qw_906 qw_907 yd_X7_clear (by decide) (by decide) rfl (Nat.le_of_ble_eq_true rfl) dL_law_661) ?_
      refine qr_icmp_eq (tgt := 755) dL_law_664 (by decide) (fun c165 => ?_) (fun c165 => ?_)
      · rw [if_pos c165] at h
        obtain ⟨z163, ez163, h⟩ := qm_bind h
        refine qr_iinc (q := 3) (v := z163) (lv' := [(3, .int z163), (0, .ref (qm_a E 222)), (1, .ref (qm_a E 200)), (2, .ref (qm_a E 210))]) dL_law_755 rfl (Option.some.inj ez163) (by decide) rfl ?_
        refine qr_goto (tgt := 18) dL_law_758 (by decide) ?_
        obtain rfl := Option.some.inj h
        exact qr_sub [1, 2, 3, 0] rfl hT
      · rw [if_neg c165] at h
        obtain ⟨y164, h1, hx⟩ := qm_bind h
        clear h
        cases hx
        have h := h1
        refine qr_iconst (v := 0) dL_law_667 (by decide) ?_
        obtain rfl := Option.some.inj h
        cases hT
        exact qr_iret dL_law_668
    rw [if_neg c166] at h
    by_cases c172 : ((E.2.2.2.2.2 v3.toNatClampNeg) &&& 31) = 17
    · rw [if_pos c172] at h
      have tc172 : (((E.2.2.2.2.2 v3.toNatClampNeg) &&& 31)).toInt = 17 := by rw [c172]; rfl
      refine qr_tableIn (tgt := 669) dL_law_32 (by omega) (by omega) (by rw [tc172]; rfl) (by decide) ?_
      refine qr_aload_n dL_law_669 rfl 1 rfl ?_
      obtain ⟨r167, er167, h⟩ := qm_bind h
      refine qr_call1 (st1 := [.int r167.1]) rfl (qr_callV (id := 200) (c := 4) (As := []) (st := []) rfl (by decide) rfl (ct_X6_builds (l := l) (E := E) σ  er167) qw_535 qw_1 qw_532 qw_533 qw_534 yd_X6_builds (by decide) (by decide) rfl (Nat.le_of_ble_eq_true rfl) dL_law_670) ?_
      refine qr_aload_n dL_law_673 rfl 2 rfl ?_
      obtain ⟨r168, er168, h⟩ := qm_bind h
      refine qr_call1 (st1 := [.int r168.1, .int r167.1]) rfl (qr_callV (id := 210) (c := 5) (As := []) (st := [.int r167.1]) rfl (by decide) rfl (ct_X7_builds (l := l) (E := E) r167.2  er168) qw_912 qw_6 qw_909 qw_910 qw_911 yd_X7_builds (by decide) (by decide) rfl (Nat.le_of_ble_eq_true rfl) dL_law_674) ?_
      refine qr_icmp_eq (tgt := 755) dL_law_677 (by decide) (fun c171 => ?_) (fun c171 => ?_)
      · rw [if_pos c171] at h
        obtain ⟨z169, ez169, h⟩ := qm_bind h
        refine qr_iinc (q := 3) (v := z169) (lv' := [(3, .int z169), (0, .ref (qm_a E 222)), (1, .ref (qm_a E 200)), (2, .ref (qm_a E 210))]) dL_law_755 rfl (Option.some.inj ez169) (by decide) rfl ?_
        refine qr_goto (tgt := 18) dL_law_758 (by decide) ?_
        obtain rfl := Option.some.inj h
        exact qr_sub [1, 2, 3, 0] rfl hT
      · rw [if_neg c171] at h
        obtain ⟨y170, h1, hx⟩ := qm_bind h
        clear h
        cases hx
        have h := h1
        refine qr_iconst (v := 0) dL_law_680 (by decide) ?_
        obtain rfl := Option.some.inj h
        cases hT
        exact qr_iret dL_law_681
    rw [if_neg c172] at h
    by_cases c180 : ((E.2.2.2.2.2 v3.toNatClampNeg) &&& 31) = 18
    · rw [if_pos c180] at h
      have tc180 : (((E.2.2.2.2.2 v3.toNatClampNeg) &&& 31)).toInt = 18 := by rw [c180]; rfl
      refine qr_tableIn (tgt := 682) dL_law_32 (by omega) (by omega) (by rw [tc180]; rfl) (by decide) ?_
      refine qr_aload_n dL_law_682 rfl 1 rfl ?_
      refine qr_aload_n dL_law_683 rfl 0 rfl ?_
      refine qr_iload_n dL_law_684 rfl 3 rfl ?_
      refine qr_iconst (v := 1) dL_law_685 (by decide) ?_
      refine qr_iadd dL_law_686 ?_
      obtain ⟨c173, h⟩ := qm_chk h
      refine qr_scd c173 dL_law_687 ?_
      obtain ⟨r174, er174, h⟩ := qm_bind h
      refine qr_call1 (st1 := [.int r174.1]) rfl (qr_callV (id := 200) (c := 4) (As := [.int (E.2.2.2.2.2 (v3 + 1).toNatClampNeg)]) (st := []) rfl (by decide) rfl (ct_X6_shown (l := l) (E := E) σ (E.2.2.2.2.2 (v3 + 1).toNatClampNeg) er174) qw_572 qw_1 qw_569 qw_570 qw_571 yd_X6_shown (by decide) (by decide) rfl (Nat.le_of_ble_eq_true rfl) dL_law_688) ?_
      refine qr_aload_n dL_law_691 rfl 2 rfl ?_
      refine qr_aload_n dL_law_692 rfl 0 rfl ?_
      refine qr_iload_n dL_law_693 rfl 3 rfl ?_
      refine qr_iconst (v := 1) dL_law_694 (by decide) ?_
      refine qr_iadd dL_law_695 ?_
      obtain ⟨c175, h⟩ := qm_chk h
      refine qr_scd c175 dL_law_696 ?_
      obtain ⟨r176, er176, h⟩ := qm_bind h
      refine qr_call1 (st1 := [.int r176.1, .int r174.1]) rfl (qr_callV (id := 210) (c := 5) (As := [.int (E.2.2.2.2.2 (v3 + 1).toNatClampNeg)]) (st := [.int r174.1]) rfl (by decide) rfl (ct_X7_shown (l := l) (E := E) r174.2 (E.2.2.2.2.2 (v3 + 1).toNatClampNeg) er176) qw_942 qw_6 qw_939 qw_940 qw_941 yd_X7_shown (by decide) (by decide) rfl (Nat.le_of_ble_eq_true rfl) dL_law_697) ?_
      refine qr_icmp_eq (tgt := 755) dL_law_700 (by decide) (fun c179 => ?_) (fun c179 => ?_)
      · rw [if_pos c179] at h
        obtain ⟨z177, ez177, h⟩ := qm_bind h
        refine qr_iinc (q := 3) (v := z177) (lv' := [(3, .int z177), (0, .ref (qm_a E 222)), (1, .ref (qm_a E 200)), (2, .ref (qm_a E 210))]) dL_law_755 rfl (Option.some.inj ez177) (by decide) rfl ?_
        refine qr_goto (tgt := 18) dL_law_758 (by decide) ?_
        obtain rfl := Option.some.inj h
        exact qr_sub [1, 2, 3, 0] rfl hT
      · rw [if_neg c179] at h
        obtain ⟨y178, h1, hx⟩ := qm_bind h
        clear h
        cases hx
        have h := h1
        refine qr_iconst (v := 0) dL_law_703 (by decide) ?_
        obtain rfl := Option.some.inj h
        cases hT
        exact qr_iret dL_law_704
    rw [if_neg c180] at h
    by_cases c186 : ((E.2.2.2.2.2 v3.toNatClampNeg) &&& 31) = 19
    · rw [if_pos c186] at h
      have tc186 : (((E.2.2.2.2.2 v3.toNatClampNeg) &&& 31)).toInt = 19 := by rw [c186]; rfl
      refine qr_tableIn (tgt := 705) dL_law_32 (by omega) (by omega) (by rw [tc186]; rfl) (by decide) ?_
      refine qr_aload_n dL_law_705 rfl 1 rfl ?_
      obtain ⟨r181, er181, h⟩ := qm_bind h
      refine qr_call1 (st1 := [.int r181.1]) rfl (qr_callV (id := 200) (c := 4) (As := []) (st := []) rfl (by decide) rfl (ct_X6_back (l := l) (E := E) σ  er181) qw_594 qw_1 qw_591 qw_592 qw_593 yd_X6_back (by decide) (by decide) rfl (Nat.le_of_ble_eq_true rfl) dL_law_706) ?_
      refine qr_aload_n dL_law_709 rfl 2 rfl ?_
      obtain ⟨r182, er182, h⟩ := qm_bind h
      refine qr_call1 (st1 := [.int r182.1, .int r181.1]) rfl (qr_callV (id := 210) (c := 5) (As := []) (st := [.int r181.1]) rfl (by decide) rfl (ct_X7_back (l := l) (E := E) r181.2  er182) qw_962 qw_6 qw_959 qw_960 qw_961 yd_X7_back (by decide) (by decide) rfl (Nat.le_of_ble_eq_true rfl) dL_law_710) ?_
      refine qr_icmp_eq (tgt := 755) dL_law_713 (by decide) (fun c185 => ?_) (fun c185 => ?_)
      · rw [if_pos c185] at h
        obtain ⟨z183, ez183, h⟩ := qm_bind h
        refine qr_iinc (q := 3) (v := z183) (lv' := [(3, .int z183), (0, .ref (qm_a E 222)), (1, .ref (qm_a E 200)), (2, .ref (qm_a E 210))]) dL_law_755 rfl (Option.some.inj ez183) (by decide) rfl ?_
        refine qr_goto (tgt := 18) dL_law_758 (by decide) ?_
        obtain rfl := Option.some.inj h
        exact qr_sub [1, 2, 3, 0] rfl hT
      · rw [if_neg c185] at h
        obtain ⟨y184, h1, hx⟩ := qm_bind h
        clear h
        cases hx
        have h := h1
        refine qr_iconst (v := 0) dL_law_716 (by decide) ?_
        obtain rfl := Option.some.inj h
        cases hT
        exact qr_iret dL_law_717
    rw [if_neg c186] at h
    by_cases c194 : ((E.2.2.2.2.2 v3.toNatClampNeg) &&& 31) = 20
    · rw [if_pos c194] at h
      have tc194 : (((E.2.2.2.2.2 v3.toNatClampNeg) &&& 31)).toInt = 20 := by rw [c194]; rfl
      refine qr_tableIn (tgt := 718) dL_law_32 (by omega) (by omega) (by rw [tc194]; rfl) (by decide) ?_
      refine qr_aload_n dL_law_718 rfl 1 rfl ?_
      refine qr_aload_n dL_law_719 rfl 0 rfl ?_
      refine qr_iload_n dL_law_720 rfl 3 rfl ?_
      refine qr_iconst (v := 1) dL_law_721 (by decide) ?_
      refine qr_iadd dL_law_722 ?_
      obtain ⟨c187, h⟩ := qm_chk h
      refine qr_scd c187 dL_law_723 ?_
      obtain ⟨r188, er188, h⟩ := qm_bind h
      refine qr_call1 (st1 := [.int r188.1]) rfl (qr_callV (id := 200) (c := 4) (As := [.int (E.2.2.2.2.2 (v3 + 1).toNatClampNeg)]) (st := []) rfl (by decide) rfl (ct_X6_told (l := l) (E := E) σ (E.2.2.2.2.2 (v3 + 1).toNatClampNeg) er188) qw_598 qw_1 qw_595 qw_596 qw_597 yd_X6_told (by decide) (by decide) rfl (Nat.le_of_ble_eq_true rfl) dL_law_724) ?_
      refine qr_aload_n dL_law_727 rfl 2 rfl ?_
      refine qr_aload_n dL_law_728 rfl 0 rfl ?_
      refine qr_iload_n dL_law_729 rfl 3 rfl ?_
      refine qr_iconst (v := 1) dL_law_730 (by decide) ?_
      refine qr_iadd dL_law_731 ?_
      obtain ⟨c189, h⟩ := qm_chk h
      refine qr_scd c189 dL_law_732 ?_
      obtain ⟨r190, er190, h⟩ := qm_bind h
      refine qr_call1 (st1 := [.int r190.1, .int r188.1]) rfl (qr_callV (id := 210) (c := 5) (As := [.int (E.2.2.2.2.2 (v3 + 1).toNatClampNeg)]) (st := [.int r188.1]) rfl (by decide) rfl (ct_X7_told (l := l) (E := E) r188.2 (E.2.2.2.2.2 (v3 + 1).toNatClampNeg) er190) qw_966 qw_6 qw_963 qw_964 qw_965 yd_X7_told (by decide) (by decide) rfl (Nat.le_of_ble_eq_true rfl) dL_law_733) ?_
      refine qr_icmp_eq (tgt := 755) dL_law_736 (by decide) (fun c193 => ?_) (fun c193 => ?_)
      · rw [if_pos c193] at h
        obtain ⟨z191, ez191, h⟩ := qm_bind h
        refine qr_iinc (q := 3) (v := z191) (lv' := [(3, .int z191), (0, .ref (qm_a E 222)), (1, .ref (qm_a E 200)), (2, .ref (qm_a E 210))]) dL_law_755 rfl (Option.some.inj ez191) (by decide) rfl ?_
        refine qr_goto (tgt := 18) dL_law_758 (by decide) ?_
        obtain rfl := Option.some.inj h
        exact qr_sub [1, 2, 3, 0] rfl hT
      · rw [if_neg c193] at h
        obtain ⟨y192, h1, hx⟩ := qm_bind h
        clear h
        cases hx
        have h := h1
        refine qr_iconst (v := 0) dL_law_739 (by decide) ?_
        obtain rfl := Option.some.inj h
        cases hT
        exact qr_iret dL_law_740
    rw [if_neg c194] at h
    by_cases c200 : ((E.2.2.2.2.2 v3.toNatClampNeg) &&& 31) = 21
    · rw [if_pos c200] at h
      have tc200 : (((E.2.2.2.2.2 v3.toNatClampNeg) &&& 31)).toInt = 21 := by rw [c200]; rfl
      refine qr_tableIn (tgt := 741) dL_law_32 (by omega) (by omega) (by rw [tc200]; rfl) (by decide) ?_
      refine qr_aload_n dL_law_741 rfl 1 rfl ?_
      obtain ⟨r195, er195, h⟩ := qm_bind h
      refine qr_call1 (st1 := [.long r195.1]) rfl (qr_callV (id := 200) (c := 4) (As := []) (st := []) rfl (by decide) rfl (ct_X6_digest (l := l) (E := E) σ  er195) qw_602 qw_1 qw_599 qw_600 qw_601 yd_X6_digest (by decide) (by decide) rfl (Nat.le_of_ble_eq_true rfl) dL_law_742) ?_
      refine qr_aload_n dL_law_745 rfl 2 rfl ?_
      obtain ⟨r196, er196, h⟩ := qm_bind h
      refine qr_call1 (st1 := [.long r196, .long r195.1]) rfl (qr_callV (id := 210) (c := 5) (As := []) (st := [.long r195.1]) rfl (by decide) rfl (ct_X7_digest (l := l) (E := E) r195.2  er196) qw_975 qw_6 qw_972 qw_973 qw_974 yd_X7_digest (by decide) (by decide) rfl (Nat.le_of_ble_eq_true rfl) dL_law_746) ?_
      refine qr_lcmp dL_law_749 ?_
      refine qr_if_eq (tgt := 755) dL_law_750 (by decide) (fun c199 => ?_) (fun c199 => ?_)
      · rw [if_pos c199] at h
        obtain ⟨z197, ez197, h⟩ := qm_bind h
        refine qr_iinc (q := 3) (v := z197) (lv' := [(3, .int z197), (0, .ref (qm_a E 222)), (1, .ref (qm_a E 200)), (2, .ref (qm_a E 210))]) dL_law_755 rfl (Option.some.inj ez197) (by decide) rfl ?_
        refine qr_goto (tgt := 18) dL_law_758 (by decide) ?_
        obtain rfl := Option.some.inj h
        exact qr_sub [1, 2, 3, 0] rfl hT
      · rw [if_neg c199] at h
        obtain ⟨y198, h1, hx⟩ := qm_bind h
        clear h
        cases hx
        have h := h1
        refine qr_iconst (v := 0) dL_law_753 (by decide) ?_
        obtain rfl := Option.some.inj h
        cases hT
        exact qr_iret dL_law_754
    rw [if_neg c200] at h
    have nc16 := lv_neT c16 (show (0 : Int32).toInt = 0 from rfl)
    have nc30 := lv_neT c30 (show (1 : Int32).toInt = 1 from rfl)
    have nc42 := lv_neT c42 (show (2 : Int32).toInt = 2 from rfl)
    have nc50 := lv_neT c50 (show (3 : Int32).toInt = 3 from rfl)
    have nc60 := lv_neT c60 (show (4 : Int32).toInt = 4 from rfl)
    have nc70 := lv_neT c70 (show (5 : Int32).toInt = 5 from rfl)
    have nc80 := lv_neT c80 (show (6 : Int32).toInt = 6 from rfl)
    have nc90 := lv_neT c90 (show (7 : Int32).toInt = 7 from rfl)
    have nc100 := lv_neT c100 (show (8 : Int32).toInt = 8 from rfl)
    have nc110 := lv_neT c110 (show (9 : Int32).toInt = 9 from rfl)
    have nc120 := lv_neT c120 (show (10 : Int32).toInt = 10 from rfl)
    have nc128 := lv_neT c128 (show (11 : Int32).toInt = 11 from rfl)
    have nc134 := lv_neT c134 (show (12 : Int32).toInt = 12 from rfl)
    have nc144 := lv_neT c144 (show (13 : Int32).toInt = 13 from rfl)
    have nc152 := lv_neT c152 (show (14 : Int32).toInt = 14 from rfl)
    have nc160 := lv_neT c160 (show (15 : Int32).toInt = 15 from rfl)
    have nc166 := lv_neT c166 (show (16 : Int32).toInt = 16 from rfl)
    have nc172 := lv_neT c172 (show (17 : Int32).toInt = 17 from rfl)
    have nc180 := lv_neT c180 (show (18 : Int32).toInt = 18 from rfl)
    have nc186 := lv_neT c186 (show (19 : Int32).toInt = 19 from rfl)
    have nc194 := lv_neT c194 (show (20 : Int32).toInt = 20 from rfl)
    have nc200 := lv_neT c200 (show (21 : Int32).toInt = 21 from rfl)
    refine qr_tableOut (tgt := 755) dL_law_32 (by omega) (by decide) ?_
    obtain ⟨z201, ez201, h⟩ := qm_bind h
    refine qr_iinc (q := 3) (v := z201) (lv' := [(3, .int z201), (0, .ref (qm_a E 222)), (1, .ref (qm_a E 200)), (2, .ref (qm_a E 210))]) dL_law_755 rfl (Option.some.inj ez201) (by decide) rfl ?_
    refine qr_goto (tgt := 18) dL_law_758 (by decide) ?_
    obtain rfl := Option.some.inj h
    exact qr_sub [1, 2, 3, 0] rfl hT
def lp_L_law_18 (E : qm_E) (σ : qm_M) (v3 : Int32) : Option (Bool × qm_M) := qm_loop (fun s : Int32 × qm_M => bb_L_law_18 E s.2 s.1) 1000 (v3, σ)
theorem wl_L_law_18 {l : Launch} {E : qm_E} (σ : qm_M) (v3 : Int32) {x : Bool × qm_M} (h : lp_L_law_18 E σ v3 = some x) {r : Option Value × qm_M} (hT : (fun x r => (some (.int (qm_b x.1)), x.2) = r) x r) : qm_Wp l E kd_L_law "HungStreamsLaw" cL_law 4 18 [(0, .ref (qm_a E 222)), (1, .ref (qm_a E 200)), (2, .ref (qm_a E 210)), (3, .int v3)] [] σ r :=
  qm_loop_T (P := pp_L_law_18 l E) (T1 := (fun x r => (some (.int (qm_b x.1)), x.2) = r)) (fun s x h r hT => wb_L_law_18 (l := l) (E := E) s.2 s.1  h hT) h hT
