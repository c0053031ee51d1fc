-- ===== states kept and taken back =====
def pu_cs (x y : Nat) (σ : qm_M) : qm_M := (fun i k => if i = x ∧ k < 12 then σ.1 y k else σ.1 i k, fun i k => if i = x ∧ (k = 12 ∨ k = 13) then σ.2 y k else σ.2 i k)
theorem pc_cs {σ : qm_M} {x y : Nat} (h : y ≠ x) (h6 : σ.1 y 6 = 0 ∨ σ.1 y 6 = 1) : fn_X2_copyFrom σ x y = some (pu_cs x y σ) := by
  unfold fn_X2_copyFrom
  simp only [Option.bind_some, qm_si_ne _ _ _ h, qm_sl_1, qm_si_2, qm_sl_ne _ _ _ h, if_pos h6]
  refine congrArg some (Prod.ext (funext fun i => funext fun k => ?_) (funext fun i => funext fun k => ?_))
  · unfold pu_cs
    dsimp only
    by_cases hi : i = x
    · subst hi
      by_cases hk : k < 12
      · rw [if_pos ⟨rfl, hk⟩]
        rcases (show k = 0 ∨ k = 1 ∨ k = 2 ∨ k = 3 ∨ k = 4 ∨ k = 5 ∨ k = 6 ∨ k = 7 ∨ k = 8 ∨ k = 9 ∨ k = 10 ∨ k = 11 by omega) with rfl | rfl | rfl | rfl | rfl | rfl | rfl | rfl | rfl | rfl | rfl | rfl <;> simp [qm_si, qm_sl]
      · rw [if_neg (fun q => hk q.2)]
        simp only [qm_sl_1, qm_si_at]
        repeat rw [if_neg (by omega)]
    · rw [if_neg (fun q => hi q.1)]
      simp only [qm_sl_1, qm_si_ne _ _ _ hi]
  · unfold pu_cs
    dsimp only
    by_cases hi : i = x
    · subst hi
      rw [qm_sl_at]
      by_cases h13 : k = 13
      · subst h13; rw [if_pos rfl, if_pos ⟨rfl, Or.inr rfl⟩]
      · rw [if_neg h13, qm_sl_at]
        by_cases h12 : k = 12
        · subst h12; rw [if_pos rfl, if_pos ⟨rfl, Or.inl rfl⟩]
        · rw [if_neg h12, if_neg (by omega)]; rfl
    · rw [if_neg (fun q => hi q.1)]
      simp only [qm_sl_ne _ _ _ hi, qm_si_2]
/-- the streams below j are copied from t' to t -/
def pu_cj (t t' j : Nat) (σ : qm_M) : qm_M := (fun i k => if t + 2 ≤ i ∧ i < t + 2 + j ∧ k < 12 then σ.1 (t' + (i - t)) k else σ.1 i k, fun i k => if t + 2 ≤ i ∧ i < t + 2 + j ∧ (k = 12 ∨ k = 13) then σ.2 (t' + (i - t)) k else σ.2 i k)
/-- all is copied from t' to t -/
def pu_cp (t t' : Nat) (σ : qm_M) : qm_M := (fun i k => if i = t ∧ 1 ≤ k ∧ k ≤ 9 then σ.1 t' k else if t + 2 ≤ i ∧ i < t + 15 ∧ k < 12 then σ.1 (t' + (i - t)) k else σ.1 i k, fun i k => if t + 2 ≤ i ∧ i < t + 15 ∧ (k = 12 ∨ k = 13) then σ.2 (t' + (i - t)) k else σ.2 i k)
theorem pc_cj (t t' j : Nat) (σ : qm_M) (hd : t + 15 ≤ t' ∨ t' + 15 ≤ t) (hj : j ≤ 12) : pu_cs (t + 2 + j) (t' + 2 + j) (pu_cj t t' j σ) = pu_cj t t' (j + 1) σ := by
  refine Prod.ext (funext fun i => funext fun k => ?_) (funext fun i => funext fun k => ?_)
  · unfold pu_cs pu_cj
    dsimp only
    by_cases hi : i = t + 2 + j
    · subst hi
      by_cases hk : k < 12
      · rw [if_pos ⟨rfl, hk⟩, if_neg (by omega), if_pos (by omega), show t' + (t + 2 + j - t) = t' + 2 + j by omega]
      · rw [if_neg (by omega), if_neg (by omega), if_neg (by omega)]
    · rw [if_neg (fun q => hi q.1)]
      by_cases hq : t + 2 ≤ i ∧ i < t + 2 + j ∧ k < 12
      · rw [if_pos hq, if_pos (by omega)]
      · rw [if_neg hq, if_neg (by omega)]
  · unfold pu_cs pu_cj
    dsimp only
    by_cases hi : i = t + 2 + j
    · subst hi
      by_cases hk : k = 12 ∨ k = 13
      · rw [if_pos ⟨rfl, hk⟩, if_neg (by omega), if_pos (by omega), show t' + (t + 2 + j - t) = t' + 2 + j by omega]
      · rw [if_neg (by omega), if_neg (by omega), if_neg (by omega)]
    · rw [if_neg (fun q => hi q.1)]
      by_cases hq : t + 2 ≤ i ∧ i < t + 2 + j ∧ (k = 12 ∨ k = 13)
      · rw [if_pos hq, if_pos (by omega)]
      · rw [if_neg hq, if_neg (by omega)]
theorem pc_copy {σ : qm_M} (t t' : Nat) (hd : t + 15 ≤ t' ∨ t' + 15 ≤ t) (h6 : ∀ s, s ≤ 12 → σ.1 (t' + 2 + s) 6 = 0 ∨ σ.1 (t' + 2 + s) 6 = 1) : fn_X3_copyFrom σ t t' = some (pu_cp t t' σ) := by
  have key : ∀ m j n, j + m = 13 → m < n → qm_loop (fun s : Int32 × qm_M => bb_X3_copyFrom_2 s.2 t t' s.1) n (nI j, pu_cj t t' j σ) = some (pu_cp t t' σ) := by
    intro m
    induction m with
    | zero =>
      intro j n hj hn
      have hj : j = 13 := by omega
      subst hj
      cases n with
      | zero => omega
      | succ n =>
        refine pu_inr ?_
        show bb_X3_copyFrom_2 (pu_cj t t' 13 σ) t t' (nI 13) = _
        unfold bb_X3_copyFrom_2
        rw [if_pos pu_13]
        have hne : t' ≠ t := by omega
        simp only [Option.bind_some, qm_si_ne _ _ _ hne]
        refine congrArg some (congrArg Sum.inr (Prod.ext (funext fun i => funext fun k => ?_) (funext fun i => funext fun k => ?_)))
        · unfold pu_cp
          dsimp only
          by_cases hi : i = t
          · subst hi
            have e0 : ∀ k, (pu_cj i t' 13 σ).1 i k = σ.1 i k := fun k => by unfold pu_cj; dsimp only; rw [if_neg (by omega)]
            have e1 : ∀ k, (pu_cj i t' 13 σ).1 t' k = σ.1 t' k := fun k => by unfold pu_cj; dsimp only; rw [if_neg (by omega)]
            conv => lhs; simp only [qm_si_at, e0, e1]
            by_cases hk : 1 ≤ k ∧ k ≤ 9
            · rw [if_pos (show i = i ∧ 1 ≤ k ∧ k ≤ 9 from ⟨rfl, hk⟩)]
              rcases (show k = 1 ∨ k = 2 ∨ k = 3 ∨ k = 4 ∨ k = 5 ∨ k = 6 ∨ k = 7 ∨ k = 8 ∨ k = 9 by omega) with rfl | rfl | rfl | rfl | rfl | rfl | rfl | rfl | rfl <;> simp
            · rw [if_neg (show ¬ (i = i ∧ 1 ≤ k ∧ k ≤ 9) from fun q => hk q.2), if_neg (show ¬ (i + 2 ≤ i ∧ i < i + 15 ∧ k < 12) by omega)]
              repeat rw [if_neg (by omega)]
          · simp only [qm_si_ne _ _ _ hi]
            rw [if_neg (fun q => hi q.1)]
            unfold pu_cj
            rfl
        · unfold pu_cp
          simp only [qm_si_2]
          rfl
    | succ m ih =>
      intro j n hj hn
      cases n with
      | zero => omega
      | succ n =>
        have hj2 : j ≤ 12 := by omega
        rw [← ih (j + 1) n (by omega) (by omega)]
        refine pu_inl ?_
        show bb_X3_copyFrom_2 (pu_cj t t' j σ) t t' (nI j) = _
        unfold bb_X3_copyFrom_2
        rw [if_neg (pu_h12 hj2), if_pos (pu_in (show j < 13 by omega) (by omega)), if_pos (pu_in (show j < 13 by omega) (by omega)), pu_clamp (by omega), show t + 1 + 1 + j = t + 2 + j by omega, show t' + 1 + 1 + j = t' + 2 + j by omega, pc_cs (by omega) (by
          have e : (pu_cj t t' j σ).1 (t' + 2 + j) 6 = σ.1 (t' + 2 + j) 6 := by unfold pu_cj; dsimp only; rw [if_neg (by omega)]
          rw [e]; exact h6 j hj2), Option.bind_some, Option.bind_some, pc_cj t t' j σ hd hj2, pu_s1]
  have e : pu_cj t t' 0 σ = σ := by
    refine Prod.ext (funext fun i => funext fun k => ?_) (funext fun i => funext fun k => ?_)
    · unfold pu_cj; dsimp only; rw [if_neg (by omega)]
    · unfold pu_cj; dsimp only; rw [if_neg (by omega)]
  have := key 13 0 1000 rfl (by omega)
  rw [e] at this
  exact this
theorem pu_cp_V {σ : qm_M} (t t' : Nat) {g : Nat → Int64} (h : RT (pu_V t' σ) g) : RT (pu_V t (pu_cp t t' σ)) g := by
  have e0 : ∀ k, 1 ≤ k → k ≤ 9 → (pu_V t (pu_cp t t' σ)).1 0 k = (pu_V t' σ).1 0 k := fun k h1 h2 => by unfold pu_V pu_cp; dsimp only; rw [if_pos ⟨rfl, h1, h2⟩]; rfl
  have e1 : ∀ s k, s ≤ 12 → k < 12 → (pu_V t (pu_cp t t' σ)).1 (2 + s) k = (pu_V t' σ).1 (2 + s) k := fun s k h1 h2 => by unfold pu_V pu_cp; dsimp only; rw [if_neg (by omega), if_pos (by omega), show t + (2 + s) - t = 2 + s by omega]
  have e2 : ∀ s k, s ≤ 12 → (k = 12 ∨ k = 13) → (pu_V t (pu_cp t t' σ)).2 (2 + s) k = (pu_V t' σ).2 (2 + s) k := fun s k h1 h2 => by unfold pu_V pu_cp; dsimp only; rw [if_pos (by omega), show t + (2 + s) - t = 2 + s by omega]
  obtain ⟨h1, h2, h3, h4, h5, h6⟩ := h
  refine ⟨fun s a b => ?_, fun s k a b c d => ?_, fun s a b c => ?_, ?_, fun k a => ?_, fun i a b => ?_⟩
  · rw [e0 1 (by omega) (by omega)]; exact h1 s a b
  · rw [e0 1 (by omega) (by omega)] at d; rw [e1 s k b c]; exact h2 s k a b c d
  · rw [e0 1 (by omega) (by omega)] at c; rw [e2 s 12 b (Or.inl rfl), e2 s 13 b (Or.inr rfl), e0 2 (by omega) (by omega)]; exact h3 s a b c
  · rw [show (2 : Nat) = 2 + 0 from rfl, e2 0 13 (by omega) (Or.inr rfl)]; exact h4
  · rw [e0 (3 + k) (by omega) (by omega)]; exact h5 k a
  · rw [e0 1 (by omega) (by omega)]; exact h6 i a b
theorem pu_cp_W {B : Nat} {σ : qm_M} (t t' : Nat) (h : WF B (pu_V t' σ)) : WF B (pu_V t (pu_cp t t' σ)) := by
  have e0 : ∀ k, 1 ≤ k → k ≤ 9 → (pu_V t (pu_cp t t' σ)).1 0 k = (pu_V t' σ).1 0 k := fun k h1 h2 => by unfold pu_V pu_cp; dsimp only; rw [if_pos ⟨rfl, h1, h2⟩]; rfl
  have e1 : ∀ s k, s ≤ 12 → k < 12 → (pu_V t (pu_cp t t' σ)).1 (2 + s) k = (pu_V t' σ).1 (2 + s) k := fun s k h1 h2 => by unfold pu_V pu_cp; dsimp only; rw [if_neg (by omega), if_pos (by omega), show t + (2 + s) - t = 2 + s by omega]
  obtain ⟨h1, ⟨rk, h2⟩, h3, h4, h5, h6, h7, h8⟩ := h
  have ep : ∀ s, s ≤ 12 → pu_par (pu_V t (pu_cp t t' σ)) s = pu_par (pu_V t' σ) s := fun s hs => by unfold pu_par; rw [e1 s 0 hs (by omega)]
  refine ⟨fun s a b c => ?_, ⟨rk, fun s a b c => ?_⟩, by rw [e0 3 (by omega) (by omega)]; exact h3, by rw [e0 4 (by omega) (by omega)]; exact h4, by rw [e0 5 (by omega) (by omega)]; exact h5, by rw [e0 6 (by omega) (by omega)]; exact h6, by rw [e0 7 (by omega) (by omega)]; exact h7, fun s a => by rw [e1 s 6 a (by omega)]; exact h8 s a⟩
  · rw [e0 1 (by omega) (by omega)] at c ⊢
    have := h1 s a b c
    unfold WS at this ⊢
    rw [e1 s 0 b (by omega), e1 s 1 b (by omega), e1 s 2 b (by omega), e1 s 3 b (by omega), e1 s 4 b (by omega), e1 s 5 b (by omega), e1 s 6 b (by omega), e1 s 7 b (by omega), e1 s 8 b (by omega), e1 s 9 b (by omega), e1 s 10 b (by omega), e1 s 11 b (by omega)]
    exact this
  · rw [e0 1 (by omega) (by omega)] at c; rw [ep s b]; exact h2 s a b c
