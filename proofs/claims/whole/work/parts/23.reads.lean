-- ===== loops over the twelve =====
def pu_fold {A : Type} (f : Nat → A → A) : Nat → Nat → A → A
  | 0, _, a => a
  | m + 1, j, a => pu_fold f m (j + 1) (f j a)
theorem pu_fold_cong {A : Type} {f g : Nat → A → A} : ∀ (m j : Nat) (a : A), (∀ i, j ≤ i → i < j + m → ∀ a, f i a = g i a) → pu_fold f m j a = pu_fold g m j a
  | 0, _, _, _ => rfl
  | m + 1, j, a, h => by
    unfold pu_fold
    rw [h j (Nat.le_refl _) (by omega)]
    exact pu_fold_cong m (j + 1) _ (fun i h1 h2 => h i (by omega) (by omega))
theorem pu_forI {S A R : Type} {body : S → Option (S ⊕ R)} (mk : A → Nat → S) (f : Nat → A → A) (k : A → R) (I : Nat → A → Prop) (hb : ∀ a j, 1 ≤ j → j ≤ 12 → I j a → body (mk a j) = some (.inl (mk (f j a) (j + 1))) ∧ I (j + 1) (f j a)) (he : ∀ a, I 13 a → body (mk a 13) = some (.inr (k a))) : ∀ (m j : Nat) (a : A) (n : Nat), j + m = 13 → 1 ≤ j → m < n → I j a → qm_loop body n (mk a j) = some (k (pu_fold f m j a)) ∧ I 13 (pu_fold f m j a)
  | m, j, a, 0, _, _, h, _ => absurd h (by omega)
  | 0, j, a, n + 1, hj, _, _, hI => by
    have hj : j = 13 := by omega
    subst hj
    exact ⟨by unfold qm_loop; rw [he a hI]; rfl, hI⟩
  | m + 1, j, a, n + 1, hj, h1, hn, hI => by
    obtain ⟨e1, e2⟩ := hb a j h1 (by omega) hI
    obtain ⟨e3, e4⟩ := pu_forI mk f k I hb he m (j + 1) (f j a) n (by omega) (by omega) (by omega) e2
    exact ⟨by unfold qm_loop; rw [e1]; exact e3, e4⟩
theorem pu_for {S A R : Type} {body : S → Option (S ⊕ R)} (mk : A → Nat → S) (f : Nat → A → A) (k : A → R) (hb : ∀ a j, 1 ≤ j → j ≤ 12 → body (mk a j) = some (.inl (mk (f j a) (j + 1)))) (he : ∀ a, body (mk a 13) = some (.inr (k a))) (a : A) : qm_loop body 1000 (mk a 1) = some (k (pu_fold f 12 1 a)) :=
  (pu_forI mk f k (fun _ _ => True) (fun a j h1 h2 _ => ⟨hb a j h1 h2, trivial⟩) (fun a _ => he a) 12 1 a 1000 rfl (by omega) (by omega) trivial).1
/-- two loops step by step -/
theorem pu_for2 {S A R S' A' R' : Type} {body : S → Option (S ⊕ R)} {body' : S' → Option (S' ⊕ R')} (mk : A → Nat → S) (mk' : A' → Nat → S') (Rel : Nat → A → A' → Prop) (Q : R → R' → Prop)
    (hb : ∀ a a' j, 1 ≤ j → j ≤ 12 → Rel j a a' → (∃ b b', body (mk a j) = some (.inl (mk b (j + 1))) ∧ body' (mk' a' j) = some (.inl (mk' b' (j + 1))) ∧ Rel (j + 1) b b') ∨ ∃ r r', body (mk a j) = some (.inr r) ∧ body' (mk' a' j) = some (.inr r') ∧ Q r r')
    (he : ∀ a a', Rel 13 a a' → ∃ r r', body (mk a 13) = some (.inr r) ∧ body' (mk' a' 13) = some (.inr r') ∧ Q r r') : ∀ (m j : Nat) (a : A) (a' : A') (n n' : Nat), j + m = 13 → 1 ≤ j → m < n → m < n' → Rel j a a' → ∃ r r', qm_loop body n (mk a j) = some r ∧ qm_loop body' n' (mk' a' j) = some r' ∧ Q r r'
  | m, j, a, a', 0, _, _, _, h, _, _ => absurd h (by omega)
  | m, j, a, a', _, 0, _, _, _, h, _ => absurd h (by omega)
  | 0, j, a, a', n + 1, n' + 1, hj, _, _, _, hI => by
    have hj : j = 13 := by omega
    subst hj
    obtain ⟨r, r', e1, e2, e3⟩ := he a a' hI
    exact ⟨r, r', by unfold qm_loop; rw [e1], by unfold qm_loop; rw [e2], e3⟩
  | m + 1, j, a, a', n + 1, n' + 1, hj, h1, hn, hn', hI => by
    rcases hb a a' j h1 (by omega) hI with ⟨b, b', e1, e2, e3⟩ | ⟨r, r', e1, e2, e3⟩
    · obtain ⟨r, r', x1, x2, x3⟩ := pu_for2 mk mk' Rel Q hb he m (j + 1) b b' n n' (by omega) (by omega) (by omega) (by omega) e3
      exact ⟨r, r', by unfold qm_loop; rw [e1]; exact x1, by unfold qm_loop; rw [e2]; exact x2, x3⟩
    · exact ⟨r, r', by unfold qm_loop; rw [e1], by unfold qm_loop; rw [e2], e3⟩
-- ===== who is there =====
def pu_th (σ : qm_M) (v : Int32) : Bool := decide (1 ≤ v) && decide (v ≤ 12) && bt (σ.1 0 1) v.toNatClampNeg
def pu_nd (σ : qm_M) (v : Int32) : Bool := decide (v = 0) || pu_th σ v
theorem pu_d1 {j : Nat} (h1 : 1 ≤ j) (h2 : j ≤ 12) : (decide ((1 : Int32) ≤ nI j) && decide (nI j ≤ (12 : Int32))) = true := by
  rw [show (1 : Int32) = nI 1 from rfl, show (12 : Int32) = nI 12 from rfl, decide_eq_true ((pu_le (by omega) (by omega)).mpr h1), decide_eq_true ((pu_le (by omega) (by omega)).mpr h2)]; rfl
theorem pu_d0 {v : Int32} (h : v < 1 ∨ 12 < v) : (decide ((1 : Int32) ≤ v) && decide (v ≤ (12 : Int32))) = false := by
  rcases h with h | h
  · rw [decide_eq_false (by rw [Int32.lt_iff_toInt_lt] at h; rw [Int32.le_iff_toInt_le]; omega)]; rfl
  · rw [decide_eq_false (show ¬ v ≤ 12 by rw [Int32.lt_iff_toInt_lt] at h; rw [Int32.le_iff_toInt_le]; omega), Bool.and_false]
theorem pu_th_nI (σ : qm_M) {j : Nat} (h1 : 1 ≤ j) (h2 : j ≤ 12) : pu_th σ (nI j) = bt (σ.1 0 1) j := by
  unfold pu_th; rw [pu_d1 h1 h2, pu_clamp (by omega)]; rfl
theorem pu_th_t {σ : qm_M} {v : Int32} (h : pu_th σ v = true) : ∃ j, 1 ≤ j ∧ j ≤ 12 ∧ v = nI j ∧ bt (σ.1 0 1) j = true := by
  rcases pu_12 v with ⟨j, h1, h2, rfl⟩ | hv
  · exact ⟨j, h1, h2, rfl, by rw [← pu_th_nI σ h1 h2]; exact h⟩
  · unfold pu_th at h; rw [pu_d0 hv] at h; cases h
theorem pu_nd_t {σ : qm_M} {v : Int32} (h : pu_nd σ v = true) : ∃ j, j ≤ 12 ∧ v = nI j ∧ (j = 0 ∨ bt (σ.1 0 1) j = true) := by
  unfold pu_nd at h
  rw [Bool.or_eq_true] at h
  rcases h with h | h
  · exact ⟨0, by omega, of_decide_eq_true h, Or.inl rfl⟩
  · obtain ⟨j, h1, h2, e, h3⟩ := pu_th_t h
    exact ⟨j, h2, e, Or.inr h3⟩
theorem pc_isThere (σ : qm_M) (v : Int32) : fn_X3_isThere σ 0 v = some (pu_th σ v) := by
  unfold fn_X3_isThere pu_th
  rw [pu_c_within, Option.bind_some]
  rcases pu_12 v with ⟨j, h1, h2, rfl⟩ | hv
  · rw [pu_d1 h1 h2, pu_ift, pu_has _ _ (by omega), Option.bind_some, pu_clamp (by omega), Bool.true_and]
    cases bt (σ.1 0 1) j
    · rw [pu_iff]
    · rw [pu_ift]
  · rw [pu_d0 hv, pu_iff]; rfl
theorem pc_isNode (σ : qm_M) (v : Int32) : fn_X3_isNode σ 0 v = some (pu_nd σ v) := by
  unfold fn_X3_isNode pu_nd
  by_cases h : v = 0
  · rw [if_pos h, decide_eq_true h]; rfl
  · rw [if_neg h, pc_isThere, Option.bind_some, decide_eq_false h, Bool.false_or]
    cases pu_th σ v
    · rw [pu_iff]
    · rw [pu_ift]
theorem pm_isStream {σ τ : qm_M} (h : RT σ (τ.2 211)) (v : Int32) : fn_X7_isStream τ v = some (pu_th σ v) := by
  unfold fn_X7_isStream pu_th
  rw [pu_m_in τ v 1 12 1 12 rfl rfl, Option.bind_some]
  rcases pu_12 v with ⟨j, h1, h2, rfl⟩ | hv
  · rw [pu_d1 h1 h2, pu_ift, pu_its_0 τ h2, Option.bind_some, pu_clamp (by omega), Bool.true_and, Nat.add_zero, h.1 j h1 h2]
    cases bt (σ.1 0 1) j
    · rw [if_neg (show ¬ (false = true) by decide), if_neg (by decide)]
    · rw [if_pos rfl, if_pos (by decide)]
  · rw [pu_d0 hv, pu_iff]; rfl
theorem pm_isPlace {σ τ : qm_M} (h : RT σ (τ.2 211)) (v : Int32) : fn_X7_isPlace τ v = some (pu_nd σ v) := by
  unfold fn_X7_isPlace pu_nd
  by_cases h0 : v = 0
  · rw [if_pos h0, decide_eq_true h0]; rfl
  · rw [if_neg h0, pm_isStream h, Option.bind_some, decide_eq_false h0, Bool.false_or]
    cases pu_th σ v
    · rw [pu_iff]
    · rw [pu_ift]
theorem pm_parent {σ τ : qm_M} (h : RT σ (τ.2 211)) {j : Nat} (h1 : 1 ≤ j) (h2 : j ≤ 12) (ht : bt (σ.1 0 1) j = true) : fn_X7_parent τ (nI j) = some (σ.1 (2 + j) 0) := by
  unfold fn_X7_parent
  rw [pu_its_1 τ h2, Option.bind_some, show 16 * j + 1 = 16 * j + pu_km 0 from rfl, h.2.1 j 0 h1 h2 (by omega) ht, pu_i64]
abbrev pu_ch (σ : qm_M) (p : Int32) (j : Nat) : Bool := bt (σ.1 0 1) j && decide (σ.1 (2 + j) 0 = p)
theorem pc_isChild (σ : qm_M) (p : Int32) {j : Nat} (h2 : j ≤ 12) : fn_X3_isChild σ 0 (nI j) p = some (pu_ch σ p j) := by
  unfold fn_X3_isChild pu_ch
  rw [pu_has _ _ (by omega), Option.bind_some]
  cases bt (σ.1 0 1) j
  · rw [pu_iff]; rfl
  · rw [pu_ift, if_pos (pu_in (show j < 13 by omega) (by omega)), pu_clamp (by omega), Bool.true_and]
    by_cases h : σ.1 (2 + j) 0 = p
    · rw [if_pos h, decide_eq_true h]
    · rw [if_neg h, decide_eq_false h]
theorem pm_isChild {σ τ : qm_M} (h : RT σ (τ.2 211)) (p : Int32) {j : Nat} (h1 : 1 ≤ j) (h2 : j ≤ 12) : fn_X7_isChild τ (nI j) p = some (pu_ch σ p j) := by
  unfold fn_X7_isChild pu_ch
  rw [pm_isStream h, Option.bind_some, pu_th_nI σ h1 h2]
  cases ht : bt (σ.1 0 1) j
  · rw [pu_iff]; rfl
  · rw [pu_ift, pm_parent h h1 h2 ht, Option.bind_some, Bool.true_and]
    by_cases h : σ.1 (2 + j) 0 = p
    · rw [if_pos h, decide_eq_true h]
    · rw [if_neg h, decide_eq_false h]
-- ===== how many children; the i-th child =====
def pu_cnt (P : Nat → Bool) : Int32 := pu_fold (fun j a => if P j = true then a + 1 else a) 12 1 0
theorem pc_childCount (σ : qm_M) (p : Int32) : fn_X3_childCount σ 0 p = some (pu_cnt (pu_ch σ p)) := by
  unfold fn_X3_childCount lp_X3_childCount_4 pu_cnt
  refine pu_for (A := Int32) (fun a j => (a, nI j)) _ id (fun a j h1 h2 => ?_) (fun a => ?_) 0
  · dsimp only
    unfold bb_X3_childCount_4
    rw [if_neg (pu_h12 h2), pc_isChild σ p h2, Option.bind_some, pu_s1]
    cases pu_ch σ p j
    · rw [pu_iff]; rfl
    · rw [pu_ift]; rfl
  · dsimp only
    unfold bb_X3_childCount_4
    rw [if_pos pu_13]; rfl
theorem pm_children {σ τ : qm_M} (h : RT σ (τ.2 211)) (p : Int32) : fn_X7_children τ p = some (pu_cnt (pu_ch σ p)) := by
  unfold fn_X7_children lp_X7_children_4 pu_cnt
  refine pu_for (A := Int32) (fun a j => (a, nI j)) _ id (fun a j h1 h2 => ?_) (fun a => ?_) 0
  · dsimp only
    unfold bb_X7_children_4
    rw [if_neg (pu_h12 h2), pm_isChild h p h1 h2, Option.bind_some, pu_s1]
    cases pu_ch σ p j
    · rw [pu_iff]; simp
    · rw [pu_ift]; rfl
  · dsimp only
    unfold bb_X7_children_4
    rw [if_pos pu_13]; rfl
theorem pu_child {B : Nat} {σ τ : qm_M} (h : Inv B σ τ) (v i : Int32) : Sim B σ τ (fn_X6_child σ v i) (fn_X7_child τ v i) := by
  unfold fn_X6_child fn_X7_child
  rw [pc_isNode, pm_isPlace h.1, Option.bind_some, Option.bind_some]
  cases hn : pu_nd σ v
  · rw [pu_iff, pu_iff, pu_bid, pu_bid]; exact Sim.bad h
  · rw [pu_ift, pu_ift]
    by_cases hi : 0 ≤ i
    · rw [if_pos hi, if_pos hi]
      have key : ∃ r r', qm_loop (fun s : Int32 × Int32 => bb_X3_childAt_5 σ 0 v i s.1 s.2) 1000 ((0 : Int32), nI 1) = some r ∧ qm_loop (fun s : Int32 × Int32 => bb_X7_child_24 τ v s.1 s.2) 1000 (i, nI 1) = some r' ∧ r' = (r, τ) := by
        refine pu_for2 (A := Int32) (A' := Int32) (fun a j => (a, nI j)) (fun a j => (a, nI j)) (fun _ a a' => a' = i - a) _ (fun a a' j h1 h2 hr => ?_) (fun a a' hr => ?_) 12 1 0 i 1000 1000 rfl (by omega) (by omega) (by omega) (by simp)
        · dsimp only
          unfold bb_X3_childAt_5 bb_X7_child_24
          rw [if_neg (pu_h12 h2), if_neg (pu_h12 h2), pc_isChild σ v h2, pm_isChild h.1 v h1 h2]
          simp only [Option.bind_some, pu_s1]
          cases pu_ch σ v j
          · simp only [pu_iff]; exact Or.inl ⟨a, a', rfl, rfl, hr⟩
          · simp only [pu_ift]
            by_cases e : a = i
            · right
              rw [if_pos e, if_pos (by rw [hr, e]; simp)]
              exact ⟨_, _, rfl, rfl, rfl⟩
            · left
              rw [if_neg e, if_neg (by rw [hr]; intro q; exact e (pu_sub0 q).symm)]
              exact ⟨a + 1, a' + (-1), rfl, rfl, by rw [hr, pu_sub1]⟩
        · dsimp only
          unfold bb_X3_childAt_5 bb_X7_child_24
          rw [if_pos pu_13, if_pos pu_13]
          exact ⟨_, _, rfl, rfl, rfl⟩
      obtain ⟨r, r', k1, k2, k3⟩ := key
      have e1 : fn_X3_childAt σ 0 v i = some r := k1
      have e2 : lp_X7_child_24 τ v i 1 = some r' := k2
      rw [e1, e2, k3]
      exact Sim.read h r rfl rfl
    · rw [if_neg hi, if_neg hi, pu_bid, pu_bid]; exact Sim.bad h
