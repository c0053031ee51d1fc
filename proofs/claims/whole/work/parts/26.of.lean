-- ===== below, of, all, turn, common =====
theorem pu_fold_rel {A B : Type} {f : Nat → A → A} {g : Nat → B → B} (R : A → B → Prop) : ∀ (m j : Nat) (a : A) (b : B), (∀ i a b, j ≤ i → i < j + m → R a b → R (f i a) (g i b)) → R a b → R (pu_fold f m j a) (pu_fold g m j b)
  | 0, _, _, _, _, h => h
  | m + 1, j, a, b, hs, h => pu_fold_rel R m (j + 1) (f j a) (g j b) (fun i a b h1 h2 => hs i a b (by omega) (by omega)) (hs j a b (Nat.le_refl _) (by omega) h)
abbrev pu_bc (σ : qm_M) (s x : Nat) : Bool := pu_t σ x && pu_bel σ x s
theorem pc_belowCount {σ : qm_M} (G : pu_G σ) {s : Nat} (hs : s ≤ 12) : fn_X3_belowCount σ 0 (nI s) = some (pu_cnt (pu_bc σ s)) := by
  unfold fn_X3_belowCount lp_X3_belowCount_4 pu_cnt
  refine pu_for (A := Int32) (fun a j => (a, nI j)) _ id (fun a j h1 h2 => ?_) (fun a => ?_) 0
  · dsimp only
    unfold bb_X3_belowCount_4
    rw [if_neg (pu_h12 h2), pu_has _ _ (by omega), Option.bind_some, pu_s1]
    have e : pu_bc σ s j = (bt (σ.1 0 1) j && pu_bel σ j s) := rfl
    rw [e]
    cases ht : bt (σ.1 0 1) j
    · rw [pu_iff]; rfl
    · rw [pu_ift, pc_isBelow G ht hs, Option.bind_some, Bool.true_and]
      cases pu_bel σ j s
      · rw [pu_iff]; rfl
      · rw [pu_ift]; rfl
  · dsimp only
    unfold bb_X3_belowCount_4
    rw [if_pos pu_13]; rfl
theorem pm_below {σ τ : qm_M} (h : RT σ (τ.2 211)) (G : pu_G σ) {s : Nat} (hs1 : 1 ≤ s) (hs : s ≤ 12) : fn_X7_below τ (nI s) = some (pu_cnt (pu_bc σ s)) := by
  unfold fn_X7_below lp_X7_below_4 pu_cnt
  refine pu_for (A := Int32) (fun a j => (a, nI j)) _ id (fun a j h1 h2 => ?_) (fun a => ?_) 0
  · dsimp only
    unfold bb_X7_below_4
    rw [if_neg (pu_h12 h2), pm_isStream h, Option.bind_some, pu_s1, pu_th_nI σ h1 h2]
    have e : pu_bc σ s j = (bt (σ.1 0 1) j && pu_bel σ j s) := rfl
    rw [e]
    cases ht : bt (σ.1 0 1) j
    · rw [pu_iff]; simp
    · rw [pu_ift, pm_isBelow h G ht hs1 hs, Option.bind_some, Bool.true_and]
      cases pu_bel σ j s
      · rw [pu_iff]; simp
      · rw [pu_ift]; rfl
  · dsimp only
    unfold bb_X7_below_4
    rw [if_pos pu_13]; rfl
def pu_of (σ : qm_M) (j k : Nat) : Int32 := if k < 12 then σ.1 (2 + j) k else if k = 12 then pu_cnt (pu_ch σ (nI j)) else if k = 13 then pu_cnt (pu_bc σ j) else if k = 14 then qm_b (pu_can σ j) else qm_b (pu_live σ j)
theorem pu_of_lt (σ : qm_M) (j : Nat) {k : Nat} (h : k < 12) : pu_of σ j k = σ.1 (2 + j) k := by unfold pu_of; rw [if_pos h]
theorem pu_of_12 (σ : qm_M) (j : Nat) : pu_of σ j 12 = pu_cnt (pu_ch σ (nI j)) := by unfold pu_of; rw [if_neg (by omega), if_pos rfl]
theorem pu_of_13 (σ : qm_M) (j : Nat) : pu_of σ j 13 = pu_cnt (pu_bc σ j) := by unfold pu_of; rw [if_neg (by omega), if_neg (by omega), if_pos rfl]
theorem pu_of_14 (σ : qm_M) (j : Nat) : pu_of σ j 14 = qm_b (pu_can σ j) := by unfold pu_of; rw [if_neg (by omega), if_neg (by omega), if_neg (by omega), if_pos rfl]
theorem pu_of_15 (σ : qm_M) (j : Nat) : pu_of σ j 15 = qm_b (pu_live σ j) := by unfold pu_of; rw [if_neg (by omega), if_neg (by omega), if_neg (by omega), if_neg (by omega)]
theorem pu_ifb {α : Type} (b : Bool) (f : Int32 → α) : (if qm_b b = 0 then f 0 else f 1) = f (qm_b b) := by cases b <;> rfl
theorem pc_of {B : Nat} {σ : qm_M} {g : Nat → Int64} (h : RT σ g) (w : WF B σ) {j k : Nat} (ht : pu_t σ j = true) (hk : k ≤ 15) : fn_X6_of σ (nI j) (nI k) = some (pu_of σ j k, σ) := by
  have G := pu_G.of h w
  obtain ⟨h1, h2⟩ := G.1 j ht
  unfold fn_X6_of
  rw [pc_isThere, pu_th_nI σ h1 h2, show bt (σ.1 0 1) j = true from ht, Option.bind_some, pu_ift, pu_c_within]
  have hd : (decide ((0 : Int32) ≤ nI k) && decide (nI k ≤ (15 : Int32))) = true := by
    rw [show (0 : Int32) = nI 0 from rfl, show (15 : Int32) = nI 15 from rfl, decide_eq_true ((pu_le (by omega) (by omega)).mpr (Nat.zero_le k)), decide_eq_true ((pu_le (by omega) (by omega)).mpr hk)]; rfl
  rw [hd, Option.bind_some, pu_ift, if_pos (pu_in (show j < 13 by omega) (by omega)), if_pos (pu_in (show j < 13 by omega) (by omega)), pu_clamp (by omega), show 0 + 1 + 1 + j = 2 + j by omega]
  obtain ⟨-, -, -, -, -, -, ⟨n, n1, n2⟩, -⟩ := w.1 j h1 h2 ht
  have e6 : (if σ.1 (2 + j) 6 = 0 then some (0 : Int32) else some 1) = some (σ.1 (2 + j) 6) := by
    rw [n2]
    match n, n1 with
    | 0, _ => rfl
    | 1, _ => rfl
    | n + 2, h => exact absurd h (by omega)
  by_cases hk12 : k < 12
  · rw [pu_of_lt σ j hk12]
    have ne : ∀ q, 12 ≤ q → q ≤ 15 → ¬ nI k = nI q := fun q h1 h2 => by rw [pu_eq (by omega) (by omega)]; omega
    rw [if_neg (show ¬ nI k = 12 from ne 12 (by omega) (by omega)), if_neg (show ¬ nI k = 13 from ne 13 (by omega) (by omega)), if_neg (show ¬ nI k = 14 from ne 14 (by omega) (by omega)), if_neg (show ¬ nI k = 15 from ne 15 (by omega) (by omega))]
    have hh : fn_X2_held σ (2 + j) (nI k) = some (σ.1 (2 + j) k) := by
      unfold fn_X2_held
      rw [e6]
      match k, hk12 with
      | 0, _ => rw [if_pos (show nI 0 = 0 from rfl)]
      | 1, _ => rw [if_neg (show ¬ nI 1 = 0 by decide), if_pos (show nI 1 = 1 from rfl)]
      | 2, _ => rw [if_neg (show ¬ nI 2 = 0 by decide), if_neg (show ¬ nI 2 = 1 by decide), if_pos (show nI 2 = 2 from rfl)]
      | 3, _ => rw [if_neg (show ¬ nI 3 = 0 by decide), if_neg (show ¬ nI 3 = 1 by decide), if_neg (show ¬ nI 3 = 2 by decide), if_pos (show nI 3 = 3 from rfl)]
      | 4, _ => rw [if_neg (show ¬ nI 4 = 0 by decide), if_neg (show ¬ nI 4 = 1 by decide), if_neg (show ¬ nI 4 = 2 by decide), if_neg (show ¬ nI 4 = 3 by decide), if_pos (show nI 4 = 4 from rfl)]
      | 5, _ => rw [if_neg (show ¬ nI 5 = 0 by decide), if_neg (show ¬ nI 5 = 1 by decide), if_neg (show ¬ nI 5 = 2 by decide), if_neg (show ¬ nI 5 = 3 by decide), if_neg (show ¬ nI 5 = 4 by decide), if_pos (show nI 5 = 5 from rfl)]
      | 6, _ => rw [if_neg (show ¬ nI 6 = 0 by decide), if_neg (show ¬ nI 6 = 1 by decide), if_neg (show ¬ nI 6 = 2 by decide), if_neg (show ¬ nI 6 = 3 by decide), if_neg (show ¬ nI 6 = 4 by decide), if_neg (show ¬ nI 6 = 5 by decide), if_pos (show nI 6 = 6 from rfl)]
      | 7, _ => rw [if_neg (show ¬ nI 7 = 0 by decide), if_neg (show ¬ nI 7 = 1 by decide), if_neg (show ¬ nI 7 = 2 by decide), if_neg (show ¬ nI 7 = 3 by decide), if_neg (show ¬ nI 7 = 4 by decide), if_neg (show ¬ nI 7 = 5 by decide), if_neg (show ¬ nI 7 = 6 by decide), if_pos (show nI 7 = 7 from rfl)]
      | 8, _ => rw [if_neg (show ¬ nI 8 = 0 by decide), if_neg (show ¬ nI 8 = 1 by decide), if_neg (show ¬ nI 8 = 2 by decide), if_neg (show ¬ nI 8 = 3 by decide), if_neg (show ¬ nI 8 = 4 by decide), if_neg (show ¬ nI 8 = 5 by decide), if_neg (show ¬ nI 8 = 6 by decide), if_neg (show ¬ nI 8 = 7 by decide), if_pos (show nI 8 = 8 from rfl)]
      | 9, _ => rw [if_neg (show ¬ nI 9 = 0 by decide), if_neg (show ¬ nI 9 = 1 by decide), if_neg (show ¬ nI 9 = 2 by decide), if_neg (show ¬ nI 9 = 3 by decide), if_neg (show ¬ nI 9 = 4 by decide), if_neg (show ¬ nI 9 = 5 by decide), if_neg (show ¬ nI 9 = 6 by decide), if_neg (show ¬ nI 9 = 7 by decide), if_neg (show ¬ nI 9 = 8 by decide), if_pos (show nI 9 = 9 from rfl)]
      | 10, _ => rw [if_neg (show ¬ nI 10 = 0 by decide), if_neg (show ¬ nI 10 = 1 by decide), if_neg (show ¬ nI 10 = 2 by decide), if_neg (show ¬ nI 10 = 3 by decide), if_neg (show ¬ nI 10 = 4 by decide), if_neg (show ¬ nI 10 = 5 by decide), if_neg (show ¬ nI 10 = 6 by decide), if_neg (show ¬ nI 10 = 7 by decide), if_neg (show ¬ nI 10 = 8 by decide), if_neg (show ¬ nI 10 = 9 by decide), if_pos (show nI 10 = 10 from rfl)]
      | 11, _ => rw [if_neg (show ¬ nI 11 = 0 by decide), if_neg (show ¬ nI 11 = 1 by decide), if_neg (show ¬ nI 11 = 2 by decide), if_neg (show ¬ nI 11 = 3 by decide), if_neg (show ¬ nI 11 = 4 by decide), if_neg (show ¬ nI 11 = 5 by decide), if_neg (show ¬ nI 11 = 6 by decide), if_neg (show ¬ nI 11 = 7 by decide), if_neg (show ¬ nI 11 = 8 by decide), if_neg (show ¬ nI 11 = 9 by decide), if_neg (show ¬ nI 11 = 10 by decide)]
      | k + 12, h => exact absurd h (by omega)
    rw [hh]; rfl
  · rcases (show k = 12 ∨ k = 13 ∨ k = 14 ∨ k = 15 by omega) with rfl | rfl | rfl | rfl
    · rw [if_pos (show nI 12 = 12 from rfl), pc_childCount, pu_of_12, Option.bind_some]
    · rw [if_neg (show ¬ nI 13 = 12 by decide), if_pos (show nI 13 = 13 from rfl), pc_belowCount G h2, pu_of_13, Option.bind_some]
    · rw [if_neg (show ¬ nI 14 = 12 by decide), if_neg (show ¬ nI 14 = 13 by decide), if_pos (show nI 14 = 14 from rfl), pc_can, Option.bind_some, pu_ifb (pu_c σ j) (fun x => some (x, σ)), pu_of_14]
      rw [show pu_can σ j = (pu_t σ j && pu_c σ j) from rfl, ht, Bool.true_and]
    · rw [if_neg (show ¬ nI 15 = 12 by decide), if_neg (show ¬ nI 15 = 13 by decide), if_neg (show ¬ nI 15 = 14 by decide), if_pos (show nI 15 = 15 from rfl), pc_canBits, Option.bind_some, pc_liveBits G, Option.bind_some, pu_has _ _ (by omega), Option.bind_some, pu_set_bt _ (by omega), decide_eq_true ⟨h1, h2⟩, Bool.true_and, pu_ifb (pu_live σ j) (fun x => some (x, σ)), pu_of_15]
theorem pm_ofNow {B : Nat} {σ τ : qm_M} (h : RT σ (τ.2 211)) (w : WF B σ) {j k : Nat} (ht : pu_t σ j = true) (hk : k ≤ 15) : fn_X7_ofNow τ (nI j) (nI k) = some (pu_of σ j k) := by
  have G := pu_G.of h w
  obtain ⟨h1, h2⟩ := G.1 j ht
  have f : ∀ k, k < 12 → (τ.2 211 (16 * j + pu_km k)).toInt32 = σ.1 (2 + j) k := fun k hk => by rw [h.2.1 j k h1 h2 hk ht, pu_i64]
  unfold fn_X7_ofNow
  match k, hk with
  | 0, _ => rw [if_neg (show ¬ nI 0 = 12 by decide), if_neg (show ¬ nI 0 = 13 by decide), if_neg (show ¬ nI 0 = 14 by decide), if_neg (show ¬ nI 0 = 15 by decide), if_neg (show ¬ (8 : Int32) ≤ nI 0 by decide), show nI 0 + 1 = 1 from rfl, pu_its_1 τ h2, Option.bind_some, pu_of_lt σ j (by omega)]; exact congrArg some (f 0 (by omega))
  | 1, _ => rw [if_neg (show ¬ nI 1 = 12 by decide), if_neg (show ¬ nI 1 = 13 by decide), if_neg (show ¬ nI 1 = 14 by decide), if_neg (show ¬ nI 1 = 15 by decide), if_neg (show ¬ (8 : Int32) ≤ nI 1 by decide), show nI 1 + 1 = 2 from rfl, pu_its_2 τ h2, Option.bind_some, pu_of_lt σ j (by omega)]; exact congrArg some (f 1 (by omega))
  | 2, _ => rw [if_neg (show ¬ nI 2 = 12 by decide), if_neg (show ¬ nI 2 = 13 by decide), if_neg (show ¬ nI 2 = 14 by decide), if_neg (show ¬ nI 2 = 15 by decide), if_neg (show ¬ (8 : Int32) ≤ nI 2 by decide), show nI 2 + 1 = 3 from rfl, pu_its_3 τ h2, Option.bind_some, pu_of_lt σ j (by omega)]; exact congrArg some (f 2 (by omega))
  | 3, _ => rw [if_neg (show ¬ nI 3 = 12 by decide), if_neg (show ¬ nI 3 = 13 by decide), if_neg (show ¬ nI 3 = 14 by decide), if_neg (show ¬ nI 3 = 15 by decide), if_neg (show ¬ (8 : Int32) ≤ nI 3 by decide), show nI 3 + 1 = 4 from rfl, pu_its_4 τ h2, Option.bind_some, pu_of_lt σ j (by omega)]; exact congrArg some (f 3 (by omega))
  | 4, _ => rw [if_neg (show ¬ nI 4 = 12 by decide), if_neg (show ¬ nI 4 = 13 by decide), if_neg (show ¬ nI 4 = 14 by decide), if_neg (show ¬ nI 4 = 15 by decide), if_neg (show ¬ (8 : Int32) ≤ nI 4 by decide), show nI 4 + 1 = 5 from rfl, pu_its_5 τ h2, Option.bind_some, pu_of_lt σ j (by omega)]; exact congrArg some (f 4 (by omega))
  | 5, _ => rw [if_neg (show ¬ nI 5 = 12 by decide), if_neg (show ¬ nI 5 = 13 by decide), if_neg (show ¬ nI 5 = 14 by decide), if_neg (show ¬ nI 5 = 15 by decide), if_neg (show ¬ (8 : Int32) ≤ nI 5 by decide), show nI 5 + 1 = 6 from rfl, pu_its_6 τ h2, Option.bind_some, pu_of_lt σ j (by omega)]; exact congrArg some (f 5 (by omega))
  | 6, _ => rw [if_neg (show ¬ nI 6 = 12 by decide), if_neg (show ¬ nI 6 = 13 by decide), if_neg (show ¬ nI 6 = 14 by decide), if_neg (show ¬ nI 6 = 15 by decide), if_neg (show ¬ (8 : Int32) ≤ nI 6 by decide), show nI 6 + 1 = 7 from rfl, pu_its_7 τ h2, Option.bind_some, pu_of_lt σ j (by omega)]; exact congrArg some (f 6 (by omega))
  | 7, _ => rw [if_neg (show ¬ nI 7 = 12 by decide), if_neg (show ¬ nI 7 = 13 by decide), if_neg (show ¬ nI 7 = 14 by decide), if_neg (show ¬ nI 7 = 15 by decide), if_neg (show ¬ (8 : Int32) ≤ nI 7 by decide), show nI 7 + 1 = 8 from rfl, pu_its_8 τ h2, Option.bind_some, pu_of_lt σ j (by omega)]; exact congrArg some (f 7 (by omega))
  | 8, _ => rw [if_neg (show ¬ nI 8 = 12 by decide), if_neg (show ¬ nI 8 = 13 by decide), if_neg (show ¬ nI 8 = 14 by decide), if_neg (show ¬ nI 8 = 15 by decide), if_pos (show (8 : Int32) ≤ nI 8 by decide), if_pos (show nI 8 = 8 from rfl), pu_its_11 τ h2, Option.bind_some, pu_of_lt σ j (by omega)]; exact congrArg some (f 8 (by omega))
  | 9, _ => rw [if_neg (show ¬ nI 9 = 12 by decide), if_neg (show ¬ nI 9 = 13 by decide), if_neg (show ¬ nI 9 = 14 by decide), if_neg (show ¬ nI 9 = 15 by decide), if_pos (show (8 : Int32) ≤ nI 9 by decide), if_neg (show ¬ nI 9 = 8 by decide), if_pos (show nI 9 = 9 from rfl), pu_its_12 τ h2, Option.bind_some, pu_of_lt σ j (by omega)]; exact congrArg some (f 9 (by omega))
  | 10, _ => rw [if_neg (show ¬ nI 10 = 12 by decide), if_neg (show ¬ nI 10 = 13 by decide), if_neg (show ¬ nI 10 = 14 by decide), if_neg (show ¬ nI 10 = 15 by decide), if_pos (show (8 : Int32) ≤ nI 10 by decide), if_neg (show ¬ nI 10 = 8 by decide), if_neg (show ¬ nI 10 = 9 by decide), if_pos (show nI 10 = 10 from rfl), pu_its_13 τ h2, Option.bind_some, pu_of_lt σ j (by omega)]; exact congrArg some (f 10 (by omega))
  | 11, _ => rw [if_neg (show ¬ nI 11 = 12 by decide), if_neg (show ¬ nI 11 = 13 by decide), if_neg (show ¬ nI 11 = 14 by decide), if_neg (show ¬ nI 11 = 15 by decide), if_pos (show (8 : Int32) ≤ nI 11 by decide), if_neg (show ¬ nI 11 = 8 by decide), if_neg (show ¬ nI 11 = 9 by decide), if_neg (show ¬ nI 11 = 10 by decide), pu_its_14 τ h2, Option.bind_some, pu_of_lt σ j (by omega)]; exact congrArg some (f 11 (by omega))
  | 12, _ => rw [if_pos (show nI 12 = 12 from rfl), pm_children h, Option.bind_some, pu_of_12]
  | 13, _ => rw [if_neg (show ¬ nI 13 = 12 by decide), if_pos (show nI 13 = 13 from rfl), pm_below h G h1 h2, Option.bind_some, pu_of_13]
  | 14, _ => rw [if_neg (show ¬ nI 14 = 12 by decide), if_neg (show ¬ nI 14 = 13 by decide), if_pos (show nI 14 = 14 from rfl), pm_can h w h1 h2, Option.bind_some, pu_ifb (pu_can σ j) (fun x => some x), pu_of_14]
  | 15, _ => rw [if_neg (show ¬ nI 15 = 12 by decide), if_neg (show ¬ nI 15 = 13 by decide), if_neg (show ¬ nI 15 = 14 by decide), if_pos (show nI 15 = 15 from rfl), pm_isLive h w h1 h2, Option.bind_some, pu_ifb (pu_live σ j) (fun x => some x), pu_of_15]
  | k + 16, h => exact absurd h (by omega)
theorem pu_of_sim {B : Nat} {σ τ : qm_M} (h : Inv B σ τ) (v k : Int32) : Sim B σ τ (fn_X6_of σ v k) (fn_X7_of τ v k) := by
  cases ht : pu_th σ v
  · unfold fn_X6_of fn_X7_of
    rw [pc_isThere, pm_isStream h.1, ht, Option.bind_some, Option.bind_some, pu_iff, pu_iff, pu_bid, pu_bid]
    exact Sim.bad h
  · obtain ⟨j, h1, h2, rfl, hj⟩ := pu_th_t ht
    rcases pu_rng (v := k) 15 (by omega) with ⟨q, hq, rfl⟩ | hk
    · refine Sim.read h (pu_of σ j q) (pc_of h.1 h.2.1 hj hq) ?_
      unfold fn_X7_of
      rw [pm_isStream h.1, ht, Option.bind_some, pu_ift, pu_m_in τ (nI q) 0 15 0 15 rfl rfl]
      have hd : (decide ((0 : Int32) ≤ nI q) && decide (nI q ≤ (15 : Int32))) = true := by
        rw [show (0 : Int32) = nI 0 from rfl, show (15 : Int32) = nI 15 from rfl, decide_eq_true ((pu_le (by omega) (by omega)).mpr (Nat.zero_le q)), decide_eq_true ((pu_le (by omega) (by omega)).mpr hq)]; rfl
      rw [hd, Option.bind_some, pu_ift, pm_ofNow h.1 h.2.1 hj hq]; rfl
    · unfold fn_X6_of fn_X7_of
      rw [pc_isThere, pm_isStream h.1, ht, Option.bind_some, Option.bind_some, pu_ift, pu_ift, pu_c_within, pu_m_in τ k 0 15 0 15 rfl rfl, show (15 : Int32) = nI 15 from rfl, hk, Option.bind_some, Option.bind_some, pu_iff, pu_iff, pu_bid, pu_bid]
      exact Sim.bad h
-- all
def pu_sum (σ : qm_M) : Int32 := pu_fold (fun j a => if pu_t σ j = true then a + σ.1 (2 + j) 8 else a) 12 1 0
def pu_max (σ : qm_M) : Int32 := pu_fold (fun j a => if pu_t σ j = true then (if a < σ.1 (2 + j) 10 then σ.1 (2 + j) 10 else a) else a) 12 1 0
def pu_all (σ : qm_M) (k : Nat) : Int32 := if k = 0 then σ.1 0 1 else if k = 1 then pu_set (pu_can σ) else if k = 2 then pu_set (pu_live σ) else if k = 3 then pu_sum σ else if k = 4 then pu_max σ else if k = 5 then σ.1 0 8 else σ.1 0 9
theorem pu_all_0 (σ : qm_M) : pu_all σ 0 = σ.1 0 1 := by unfold pu_all; rw [if_pos rfl]
theorem pu_all_1 (σ : qm_M) : pu_all σ 1 = pu_set (pu_can σ) := by unfold pu_all; rw [if_neg (by omega), if_pos rfl]
theorem pu_all_2 (σ : qm_M) : pu_all σ 2 = pu_set (pu_live σ) := by unfold pu_all; rw [if_neg (by omega), if_neg (by omega), if_pos rfl]
theorem pu_all_3 (σ : qm_M) : pu_all σ 3 = pu_sum σ := by unfold pu_all; rw [if_neg (by omega), if_neg (by omega), if_neg (by omega), if_pos rfl]
theorem pu_all_4 (σ : qm_M) : pu_all σ 4 = pu_max σ := by unfold pu_all; rw [if_neg (by omega), if_neg (by omega), if_neg (by omega), if_neg (by omega), if_pos rfl]
theorem pu_all_5 (σ : qm_M) : pu_all σ 5 = σ.1 0 8 := by unfold pu_all; rw [if_neg (by omega), if_neg (by omega), if_neg (by omega), if_neg (by omega), if_neg (by omega), if_pos rfl]
theorem pu_all_6 (σ : qm_M) : pu_all σ 6 = σ.1 0 9 := by unfold pu_all; rw [if_neg (by omega), if_neg (by omega), if_neg (by omega), if_neg (by omega), if_neg (by omega), if_neg (by omega)]
theorem pc_sent (σ : qm_M) : fn_X3_sentTogether σ 0 = some (pu_sum σ) := by
  unfold fn_X3_sentTogether lp_X3_sentTogether_4 pu_sum
  refine pu_for (A := Int32) (fun a j => (a, nI j)) _ id (fun a j h1 h2 => ?_) (fun a => ?_) 0
  · dsimp only
    unfold bb_X3_sentTogether_4
    rw [if_neg (pu_h12 h2), pu_has _ _ (by omega), Option.bind_some, pu_s1]
    have e : pu_t σ j = bt (σ.1 0 1) j := rfl
    rw [e]
    cases ht : bt (σ.1 0 1) j
    · rw [pu_iff]; rfl
    · rw [pu_ift, if_pos (pu_in (show j < 13 by omega) (by omega)), pu_clamp (by omega), show 0 + 1 + 1 + j = 2 + j by omega]; rfl
  · dsimp only
    unfold bb_X3_sentTogether_4
    rw [if_pos pu_13]; rfl
theorem pc_longest (σ : qm_M) : fn_X3_greatestLongest σ 0 = some (pu_max σ) := by
  unfold fn_X3_greatestLongest lp_X3_greatestLongest_4 pu_max
  refine pu_for (A := Int32) (fun a j => (a, nI j)) _ id (fun a j h1 h2 => ?_) (fun a => ?_) 0
  · dsimp only
    unfold bb_X3_greatestLongest_4
    rw [if_neg (pu_h12 h2), pu_has _ _ (by omega), Option.bind_some, pu_s1]
    have e : pu_t σ j = bt (σ.1 0 1) j := rfl
    rw [e]
    cases ht : bt (σ.1 0 1) j
    · rw [pu_iff]; rfl
    · rw [pu_ift, if_pos (pu_in (show j < 13 by omega) (by omega)), pu_clamp (by omega), show 0 + 1 + 1 + j = 2 + j by omega]
      unfold fn_J_max
      by_cases c : a < σ.1 (2 + j) 10
      · rw [if_pos c, if_pos rfl, if_pos c]; rfl
      · rw [if_neg c, if_pos rfl, if_neg c]; rfl
  · dsimp only
    unfold bb_X3_greatestLongest_4
    rw [if_pos pu_13]; rfl
theorem pm_allNow {B : Nat} {σ τ : qm_M} (h : RT σ (τ.2 211)) (w : WF B σ) {k : Nat} (hk : k ≤ 6) : fn_X7_allNow τ (nI k) = some (pu_all σ k) := by
  have hI := pu_forI (A := Int64 × Int64) (body := fun s : Int64 × Int64 × Int32 => bb_X7_allNow_8 τ (nI k) s.1 s.2.1 s.2.2) (fun a j => (a.1, a.2, nI j)) (fun j a => if pu_t σ j = true then (a.1 + (σ.1 (2 + j) 8).toInt64, if a.2 < (σ.1 (2 + j) 10).toInt64 then (σ.1 (2 + j) 10).toInt64 else a.2) else a) (fun a => if k = 0 then σ.1 0 1 else if k = 1 then pu_set (pu_can σ) else if k = 2 then pu_set (pu_live σ) else if k = 3 then a.1.toInt32 else if k = 4 then a.2.toInt32 else if k = 5 then σ.1 0 8 else σ.1 0 9) (fun _ _ => True) (fun a j h1 h2 _ => ⟨?_, trivial⟩) (fun a _ => ?_) 12 1 (0, 0) 1000 rfl (by omega) (by omega) trivial
  · have e : fn_X7_allNow τ (nI k) = qm_loop (fun s : Int64 × Int64 × Int32 => bb_X7_allNow_8 τ (nI k) s.1 s.2.1 s.2.2) 1000 (0, 0, nI 1) := rfl
    rw [e, hI.1]
    have hr := pu_fold_rel (A := Int64 × Int64) (B := Int32) (f := fun j a => if pu_t σ j = true then (a.1 + (σ.1 (2 + j) 8).toInt64, if a.2 < (σ.1 (2 + j) 10).toInt64 then (σ.1 (2 + j) 10).toInt64 else a.2) else a) (g := fun j a => if pu_t σ j = true then a + σ.1 (2 + j) 8 else a) (fun a b => a.1.toInt32 = b) 12 1 (0, 0) 0 (fun i a b h1 h2 hab => by
      by_cases c : pu_t σ i = true
      · rw [if_pos c, if_pos c, ← hab]; simp
      · rw [if_neg c, if_neg c]; exact hab) rfl
    have hm := pu_fold_rel (A := Int64 × Int64) (B := Int32) (f := fun j a => if pu_t σ j = true then (a.1 + (σ.1 (2 + j) 8).toInt64, if a.2 < (σ.1 (2 + j) 10).toInt64 then (σ.1 (2 + j) 10).toInt64 else a.2) else a) (g := fun j a => if pu_t σ j = true then (if a < σ.1 (2 + j) 10 then σ.1 (2 + j) 10 else a) else a) (fun a b => a.2 = b.toInt64) 12 1 (0, 0) 0 (fun i a b h1 h2 hab => by
      by_cases c : pu_t σ i = true
      · rw [if_pos c, if_pos c]
        dsimp only
        rw [hab]
        by_cases c2 : b < σ.1 (2 + i) 10
        · rw [if_pos c2, if_pos ((pu_64lt _ _).mpr c2)]
        · rw [if_neg c2, if_neg (fun q => c2 ((pu_64lt _ _).mp q))]
      · rw [if_neg c, if_neg c]; exact hab) rfl
    unfold pu_all pu_sum pu_max
    rw [hr, hm, pu_i64]
  · dsimp only
    unfold bb_X7_allNow_8
    rw [if_neg (pu_h12 h2), pm_isStream h, pu_th_nI σ h1 h2, Option.bind_some]
    have e : pu_t σ j = bt (σ.1 0 1) j := rfl
    rw [e]
    cases ht : bt (σ.1 0 1) j
    · rw [pu_iff]
      unfold bb_X7_allNow_37
      rw [pm_isStream h, pu_th_nI σ h1 h2, ht]
      simp only [Option.bind_some, pu_iff, pu_s1]
      simp
    · rw [pu_ift, pu_its_11 τ h2, Option.bind_some]
      unfold bb_X7_allNow_37
      rw [pm_isStream h, pu_th_nI σ h1 h2, ht, pu_its_13 τ h2]
      simp only [Option.bind_some, pu_ift, pu_s1]
      rw [show 16 * j + 11 = 16 * j + pu_km 8 from rfl, show 16 * j + 13 = 16 * j + pu_km 10 from rfl, h.2.1 j 8 h1 h2 (by omega) ht, h.2.1 j 10 h1 h2 (by omega) ht]
      simp only [if_true]
      by_cases c : a.2 < (σ.1 (2 + j) 10).toInt64
      · rw [if_neg (by rw [lg_cmp_le, Int64.le_iff_toInt_le]; rw [Int64.lt_iff_toInt_lt] at c; omega), if_pos c]
      · rw [if_pos (by rw [lg_cmp_le, Int64.le_iff_toInt_le]; rw [Int64.lt_iff_toInt_lt] at c; omega), if_neg c]
  · dsimp only
    unfold bb_X7_allNow_8
    rw [if_pos pu_13, pm_there h, pm_canSet h w, pm_liveSet h w]
    have e5 := h.2.2.2.2.1 5 (by omega)
    have e6 := h.2.2.2.2.1 6 (by omega)
    match k, hk with
    | 0, _ => rw [if_pos (show nI 0 = 0 from rfl), if_pos (show (0 : Nat) = 0 from rfl)]; try simp only [Option.bind_some]
    | 1, _ => rw [if_neg (show ¬ nI 1 = 0 by decide), if_pos (show nI 1 = 1 from rfl), if_neg (show ¬ (1 : Nat) = 0 by omega), if_pos (show (1 : Nat) = 1 from rfl)]; try simp only [Option.bind_some]
    | 2, _ => rw [if_neg (show ¬ nI 2 = 0 by decide), if_neg (show ¬ nI 2 = 1 by decide), if_pos (show nI 2 = 2 from rfl), if_neg (show ¬ (2 : Nat) = 0 by omega), if_neg (show ¬ (2 : Nat) = 1 by omega), if_pos (show (2 : Nat) = 2 from rfl)]; try simp only [Option.bind_some]
    | 3, _ => rw [if_neg (show ¬ nI 3 = 0 by decide), if_neg (show ¬ nI 3 = 1 by decide), if_neg (show ¬ nI 3 = 2 by decide), if_pos (show nI 3 = 3 from rfl), if_neg (show ¬ (3 : Nat) = 0 by omega), if_neg (show ¬ (3 : Nat) = 1 by omega), if_neg (show ¬ (3 : Nat) = 2 by omega), if_pos (show (3 : Nat) = 3 from rfl)]; try simp only [Option.bind_some]
    | 4, _ => rw [if_neg (show ¬ nI 4 = 0 by decide), if_neg (show ¬ nI 4 = 1 by decide), if_neg (show ¬ nI 4 = 2 by decide), if_neg (show ¬ nI 4 = 3 by decide), if_pos (show nI 4 = 4 from rfl), if_neg (show ¬ (4 : Nat) = 0 by omega), if_neg (show ¬ (4 : Nat) = 1 by omega), if_neg (show ¬ (4 : Nat) = 2 by omega), if_neg (show ¬ (4 : Nat) = 3 by omega), if_pos (show (4 : Nat) = 4 from rfl)]; try simp only [Option.bind_some]
    | 5, _ =>
      rw [if_neg (show ¬ nI 5 = 0 by decide), if_neg (show ¬ nI 5 = 1 by decide), if_neg (show ¬ nI 5 = 2 by decide), if_neg (show ¬ nI 5 = 3 by decide), if_neg (show ¬ nI 5 = 4 by decide), if_pos (show nI 5 = 5 from rfl), if_neg (show ¬ (5 : Nat) = 0 by omega), if_neg (show ¬ (5 : Nat) = 1 by omega), if_neg (show ¬ (5 : Nat) = 2 by omega), if_neg (show ¬ (5 : Nat) = 3 by omega), if_neg (show ¬ (5 : Nat) = 4 by omega), if_pos (show (5 : Nat) = 5 from rfl)]
      show some (Sum.inr (τ.2 211 (208 + 5)).toInt32) = _
      rw [e5, pu_i64]
    | 6, _ =>
      rw [if_neg (show ¬ nI 6 = 0 by decide), if_neg (show ¬ nI 6 = 1 by decide), if_neg (show ¬ nI 6 = 2 by decide), if_neg (show ¬ nI 6 = 3 by decide), if_neg (show ¬ nI 6 = 4 by decide), if_neg (show ¬ nI 6 = 5 by decide), if_neg (show ¬ (6 : Nat) = 0 by omega), if_neg (show ¬ (6 : Nat) = 1 by omega), if_neg (show ¬ (6 : Nat) = 2 by omega), if_neg (show ¬ (6 : Nat) = 3 by omega), if_neg (show ¬ (6 : Nat) = 4 by omega), if_neg (show ¬ (6 : Nat) = 5 by omega)]
      show some (Sum.inr (τ.2 211 (208 + 6)).toInt32) = _
      rw [e6, pu_i64]
    | k + 7, h => exact absurd h (by omega)
theorem pc_all {σ : qm_M} (G : pu_G σ) {k : Nat} (hk : k ≤ 6) : fn_X6_all σ (nI k) = some (pu_all σ k, σ) := by
  unfold fn_X6_all
  rw [pc_canBits, Option.bind_some, Option.bind_some, pc_liveBits G, pc_sent, pc_longest]
  match k, hk with
  | 0, _ => rw [if_pos (show nI 0 = 0 from rfl), pu_all_0]
  | 1, _ => rw [if_neg (show ¬ nI 1 = 0 by decide), if_pos (show nI 1 = 1 from rfl), pu_all_1]; try simp only [Option.bind_some]
  | 2, _ => rw [if_neg (show ¬ nI 2 = 0 by decide), if_neg (show ¬ nI 2 = 1 by decide), if_pos (show nI 2 = 2 from rfl), pu_all_2]; try simp only [Option.bind_some]
  | 3, _ => rw [if_neg (show ¬ nI 3 = 0 by decide), if_neg (show ¬ nI 3 = 1 by decide), if_neg (show ¬ nI 3 = 2 by decide), if_pos (show nI 3 = 3 from rfl), pu_all_3]; try simp only [Option.bind_some]
  | 4, _ => rw [if_neg (show ¬ nI 4 = 0 by decide), if_neg (show ¬ nI 4 = 1 by decide), if_neg (show ¬ nI 4 = 2 by decide), if_neg (show ¬ nI 4 = 3 by decide), if_pos (show nI 4 = 4 from rfl), pu_all_4]; try simp only [Option.bind_some]
  | 5, _ => rw [if_neg (show ¬ nI 5 = 0 by decide), if_neg (show ¬ nI 5 = 1 by decide), if_neg (show ¬ nI 5 = 2 by decide), if_neg (show ¬ nI 5 = 3 by decide), if_neg (show ¬ nI 5 = 4 by decide), if_pos (show nI 5 = 5 from rfl), pu_all_5]
  | 6, _ => rw [if_neg (show ¬ nI 6 = 0 by decide), if_neg (show ¬ nI 6 = 1 by decide), if_neg (show ¬ nI 6 = 2 by decide), if_neg (show ¬ nI 6 = 3 by decide), if_neg (show ¬ nI 6 = 4 by decide), if_neg (show ¬ nI 6 = 5 by decide), if_pos (show nI 6 = 6 from rfl), pu_all_6]
  | k + 7, h => exact absurd h (by omega)
theorem pu_all_sim {B : Nat} {σ τ : qm_M} (h : Inv B σ τ) (v : Int32) : Sim B σ τ (fn_X6_all σ v) (fn_X7_all τ v) := by
  have G := pu_G.of h.1 h.2.1
  rcases pu_rng (v := v) 6 (by omega) with ⟨k, hk, rfl⟩ | hv
  · refine Sim.read h (pu_all σ k) (pc_all G hk) ?_
    unfold fn_X7_all
    rw [pu_m_in τ (nI k) 0 6 0 6 rfl rfl]
    have hd : (decide ((0 : Int32) ≤ nI k) && decide (nI k ≤ (6 : Int32))) = true := by
      rw [show (0 : Int32) = nI 0 from rfl, show (6 : Int32) = nI 6 from rfl, decide_eq_true ((pu_le (by omega) (by omega)).mpr (Nat.zero_le k)), decide_eq_true ((pu_le (by omega) (by omega)).mpr hk)]; rfl
    rw [hd, Option.bind_some, pu_ift, pm_allNow h.1 h.2.1 hk]; rfl
  · have hne : ∀ j, j ≤ 6 → v ≠ nI j := by
      intro j hj e
      subst e
      rw [show (0 : Int32) = nI 0 from rfl, decide_eq_true ((pu_le (by omega) (by omega)).mpr (Nat.zero_le j)), decide_eq_true ((pu_le (by omega) (by omega)).mpr hj)] at hv
      cases hv
    have hx : fn_X6_all σ v = fn_X6_refuse σ (-2) := by
      unfold fn_X6_all
      rw [if_neg (show ¬ v = 0 from hne 0 (by omega)), if_neg (show ¬ v = 1 from hne 1 (by omega)), if_neg (show ¬ v = 2 from hne 2 (by omega)), if_neg (show ¬ v = 3 from hne 3 (by omega)), if_neg (show ¬ v = 4 from hne 4 (by omega)), if_neg (show ¬ v = 5 from hne 5 (by omega)), if_neg (show ¬ v = 6 from hne 6 (by omega)), pu_bid]
    have hy : fn_X7_all τ v = fn_X7_refuses τ (-2) := by
      unfold fn_X7_all
      rw [pu_m_in τ v 0 6 0 6 rfl rfl, show (6 : Int32) = nI 6 from rfl, hv, Option.bind_some, pu_iff, pu_bid]
    rw [hx, hy]; exact Sim.bad h
