theorem pu_eP_0 (σ : qm_M) : qm_si σ 208 1 0 = pu_eP σ [] := by
  refine Prod.ext ?_ rfl
  funext id k
  unfold pu_eP qm_si
  dsimp only
  by_cases a : id = 208 ∧ k = 1
  · rw [if_pos a, if_pos a]; rfl
  · rw [if_neg a, if_neg a, if_neg (fun q => by have := q.2; simp at this)]
theorem pu_eM_0 (τ : qm_M) (v : Nat) : qm_si (qm_si (qm_si τ 210 14 0) 210 15 (-1)) 210 16 (nI v) = pu_eM τ v [] := by
  refine Prod.ext ?_ rfl
  funext id k
  unfold pu_eM qm_si
  dsimp only
  by_cases c : id = 210 ∧ k = 16
  · rw [if_pos c, if_neg (by omega), if_neg (by omega), if_pos c]
  · rw [if_neg c]
    by_cases b : id = 210 ∧ k = 15
    · rw [if_pos b, if_neg (by omega), if_pos b, if_neg (by simp)]
    · rw [if_neg b]
      by_cases a : id = 210 ∧ k = 14
      · rw [if_pos a, if_pos a]; rfl
      · rw [if_neg a, if_neg a, if_neg b, if_neg c]
theorem pu_shown {B : Nat} {σ τ : qm_M} (h : Inv B σ τ) (x : Int32) : Sim B σ τ (fn_X6_shown σ x) (fn_X7_shown τ x) := by
  unfold fn_X6_shown fn_X7_shown
  by_cases h0 : 0 ≤ x
  · rw [if_pos h0, if_pos h0]
    obtain ⟨v, hv, rfl⟩ := nI_of (x := x) (by rw [Int32.lt_iff_toInt_lt]; rw [Int32.le_iff_toInt_le] at h0; omega)
    have G := pu_G.of h.1 h.2.1
    have c12 := pu_all12 G 13
    have tl : (pu_kt (pu_nt σ 13) (pu_ch σ (nI 0)) 12 1 true).length ≤ 96 := by
      have := pu_kt_l (nt := pu_nt σ 13) (nn := pu_nn σ 13) (ch := pu_ch σ (nI 0)) 12 1 true (fun y _ _ _ => pu_nt_l σ 13 y)
      omega
    have dp0 : pu_dp σ 0 0 := ⟨rfl, fun i hi => absurd hi (by omega)⟩
    -- the program
    have prog : fn_X4_write σ 0 = some (pu_eP σ (pu_kt (pu_nt σ 13) (pu_ch σ (nI 0)) 12 1 true)) := by
      unfold fn_X4_write
      rw [pu_eP_0, Option.bind_some]
      have := pc_write h.2.1 G 20 13 0 0 [] (Or.inl rfl) (by omega) rfl (fun i hi => absurd hi (by omega)) (by omega) (by omega) (by omega) (by rw [List.nil_append]; omega)
      rw [List.nil_append] at this
      have this : fn_X4_writeChildren 20 (pu_eP σ []) 0 0 0 = _ := this
      rw [this]; rfl
    -- the model
    have model : fn_X7_showsAll (pu_eM τ v []) = some (pu_eM τ v (pu_kt (pu_nt σ 13) (pu_ch σ (nI 0)) 12 1 true)) := by
      unfold fn_X7_showsAll lp_X7_showsAll_7
      have nx := pm_nextChild (τ := pu_eM τ v []) h.1 0 0 (by omega)
      have nx : fn_X7_nextChild (pu_eM τ v []) 0 0 = some (pu_enc (pu_nc (pu_ch σ (nI 0)) 12 1)) := nx
      rw [nx, Option.bind_some]
      have kt := pu_kt_nc (nt := pu_nt σ 13) (ch := pu_ch σ (nI 0)) true 12 1 (by omega)
      have kn := pu_kn_nc (nn := pu_nn σ 13) (ch := pu_ch σ (nI 0)) 12 1 (by omega)
      cases hn : pu_nc (pu_ch σ (nI 0)) 12 1 with
      | none =>
        rw [kt.1 hn]
        refine pu_inr (n := 999) ?_
        show bb_X7_showsAll_7 _ (-1) = _
        unfold bb_X7_showsAll_7
        rw [if_pos rfl]; rfl
      | some c =>
        obtain ⟨b1, b2, b3⟩ := pu_nc_b _ _ _ hn
        have k2 := kt.2 c hn
        rw [if_pos rfl, List.nil_append] at k2
        have n2 := kn.2 c hn
        rw [k2] at tl ⊢
        have := pm_kids h.1 h.2.1 G (v := v) (by omega) (f := 13) (p := 0) (d := 0) (by omega) dp0 (fun y l' N' r' ty dy hN' hl' hI' => pm_visit h.1 h.2.1 G (by omega) 13 1 y l' N' r' (by omega) ty dy hN' hl' hI') (12 - c) c [] (1000 - (pu_nn σ 13 c + pu_kn (pu_nn σ 13) (pu_ch σ (nI 0)) (12 - c) (c + 1))) (some (pu_eM τ v (pu_nt σ 13 c ++ pu_kt (pu_nt σ 13) (pu_ch σ (nI 0)) (12 - c) (c + 1) false))) (by omega) b3 b1 (by omega) (by rw [List.nil_append]; omega) (fun q => absurd rfl q) (fun _ => by rw [List.nil_append])
        rw [show 1000 - (pu_nn σ 13 c + pu_kn (pu_nn σ 13) (pu_ch σ (nI 0)) (12 - c) (c + 1)) + (pu_nn σ 13 c + pu_kn (pu_nn σ 13) (pu_ch σ (nI 0)) (12 - c) (c + 1)) = 1000 by omega] at this
        exact this
    rw [prog]
    simp only [Option.bind_some]
    rw [pu_eM_0, model]
    simp only [Option.bind_some]
    generalize pu_kt (pu_nt σ 13) (pu_ch σ (nI 0)) 12 1 true = T at tl
    have hI : Inv B (pu_eP σ T) (pu_eM τ v T) := by
      obtain ⟨h1, h2, h3, h4, h5⟩ := h
      have e200 : ∀ id, id < 208 → (pu_eP σ T).1 id = σ.1 id := fun id hid => by
        funext k; unfold pu_eP; dsimp only; rw [if_neg (by omega), if_neg (by omega)]
      have m210 : ∀ k, k < 14 → (pu_eM τ v T).1 210 k = τ.1 210 k := fun k hk => by
        unfold pu_eM; dsimp only; rw [if_neg (by omega), if_neg (by omega), if_neg (by omega)]
      have mo : ∀ id, id ≠ 210 → (pu_eM τ v T).1 id = τ.1 id := fun id hid => by
        funext k; unfold pu_eM; dsimp only; rw [if_neg (by omega), if_neg (by omega), if_neg (by omega)]
      refine ⟨h1.cong (fun r hr => ⟨e200 r (by omega), rfl⟩), h2.cong (fun r hr => e200 r (by omega)), h3.cong (fun id _ _ => ⟨e200 id (by omega), rfl⟩) (by rw [e200 200 (by omega)]) (by rw [e200 200 (by omega)]) rfl (m210 2 (by omega)), ?_, ?_⟩
      · unfold Cnt at h4 ⊢; rw [e200 200 (by omega), mo 213 (by omega)]; exact h4
      · unfold Txt at h5 ⊢; rw [e200 202 (by omega), e200 203 (by omega), m210 7 (by omega), mo 214 (by omega)]; exact h5
    have fc : Fc σ (pu_eP σ T) := fun id hid => ⟨by funext k; unfold pu_eP; dsimp only; rw [if_neg (by omega), if_neg (by omega)], rfl⟩
    have fm : Fm τ (pu_eM τ v T) := fun id hid => ⟨by funext k; unfold pu_eM; dsimp only; rw [if_neg (by omega), if_neg (by omega), if_neg (by omega)], rfl⟩
    have eL : (pu_eP σ T).1 208 1 = nI T.length := by unfold pu_eP; dsimp only; rw [if_pos ⟨rfl, rfl⟩]
    have e15 : (pu_eM τ v T).1 210 15 = if v < T.length then nI (T.getD v 0) else -1 := by unfold pu_eM; dsimp only; rw [if_neg (by omega), if_pos ⟨rfl, rfl⟩]
    rw [eL, e15]
    by_cases q : v < T.length
    · have eb : (pu_eP σ T).1 209 v = nI (T.getD v 0) := by unfold pu_eP; dsimp only; rw [if_neg (by omega), if_pos ⟨rfl, q⟩]
      rw [if_pos q, if_neg (by rw [pu_le (by omega) (by omega)]; omega), if_pos (pu_in (show v < 120 by omega) (by omega)), pu_clamp (by omega), eb]
      exact ⟨_, _, _, rfl, rfl, hI, fc, fm⟩
    · rw [if_neg q, if_pos ((pu_le (by omega) (by omega)).mpr (by omega))]
      exact ⟨_, _, _, rfl, rfl, hI, fc, fm⟩
  · rw [if_neg h0, if_neg h0, pu_bid, pu_bid]; exact Sim.bad h
