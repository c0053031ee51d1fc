-- ===== share =====
theorem pu_gcd_st (a b : Nat) : Nat.gcd a b = Nat.gcd b (a % b) := by
  rw [Nat.gcd_comm a b, Nat.gcd_rec b a, Nat.gcd_comm]
theorem pu_euc {b c : Nat} (h : c < b) (h0 : 0 < c) : 2 * (b % c) < b := by
  have h1 := Nat.mod_lt b h0
  have h2 : b % c ≤ b - c := by
    rw [Nat.mod_eq_sub_mod (by omega)]
    exact Nat.mod_le _ _
  omega
theorem pc_gcd (σ : qm_M) : ∀ (m a b k N : Nat), b < 2 ^ m → m ≤ 63 → a < 2 ^ 63 → b < 2 ^ 63 → k + 2 * m ≤ 198 → 2 * m + 1 < N → qm_loop (fun s : Int64 × Int64 × Int32 => bb_X1_gcd_9 σ s.1 s.2.1 s.2.2) N (lN a, lN b, nI k) = some (lN (Nat.gcd a b)) := by
  have st : ∀ a b k, a < 2 ^ 63 → 0 < b → b < 2 ^ 63 → k < 200 → bb_X1_gcd_9 σ (lN a) (lN b) (nI k) = some (.inl (lN b, lN (a % b), nI (k + 1))) := by
    intro a b k ha h0 hb hk
    unfold bb_X1_gcd_9
    rw [if_neg (show ¬ (200 : Int32) ≤ nI k by show ¬ nI 200 ≤ nI k; rw [pu_le (by omega) (by omega)]; omega)]
    have nz : ¬ lN b = 0 := by show ¬ lN b = lN 0; rw [pk_lEQ hb (by omega)]; omega
    rw [if_neg (fun q => nz ((lg_cmp_eq _ _).mp q)), if_pos nz, pk_lRem ha h0 hb, pu_s1]; rfl
  have fin : ∀ a k, k < 2147483648 → bb_X1_gcd_9 σ (lN a) (lN 0) (nI k) = some (.inr (lN a)) := by
    intro a k hk
    unfold bb_X1_gcd_9
    rw [if_pos (show lg_cmp (lN 0) 0 = 0 from (lg_cmp_eq _ _).mpr rfl)]
    split <;> rfl
  intro m
  induction m with
  | zero =>
    intro a b k N hb _ ha _ hk hN
    have hb : b = 0 := by omega
    subst hb
    obtain ⟨N, rfl⟩ : ∃ q, N = q + 1 := ⟨N - 1, by omega⟩
    rw [Nat.gcd_zero_right]
    exact pu_inr (fin a k (by omega))
  | succ m ih =>
    intro a b k N hb hm ha hb3 hk hN
    obtain ⟨N, rfl⟩ : ∃ q, N = q + 1 := ⟨N - 1, by omega⟩
    by_cases b0 : b = 0
    · subst b0
      rw [Nat.gcd_zero_right]
      exact pu_inr (fin a k (by omega))
    · have hc := Nat.mod_lt a (show 0 < b by omega)
      rw [pu_inl (st a b k ha (by omega) hb3 (by omega)), pu_gcd_st]
      obtain ⟨N, rfl⟩ : ∃ q, N = q + 1 := ⟨N - 1, by omega⟩
      by_cases c0 : a % b = 0
      · rw [c0, Nat.gcd_zero_right]
        exact pu_inr (fin b (k + 1) (by omega))
      · have hd := pu_euc hc (by omega)
        rw [pu_inl (st b (a % b) (k + 1) hb3 (by omega) (by omega) (by omega)), pu_gcd_st b (a % b)]
        exact ih (a % b) (b % (a % b)) (k + 1 + 1) N (by rw [Nat.pow_succ] at hb; omega) (by omega) (by omega) (by omega) (by omega) (by omega)
theorem pm_gcd (σ : qm_M) : ∀ (m a b N : Nat), b < 2 ^ m → m ≤ 63 → a < 2 ^ 63 → b < 2 ^ 63 → 2 * m + 1 < N → qm_loop (fun s : Int64 × Int64 => bb_X7_divisor_6 σ s.1 s.2) N (lN a, lN b) = some (lN (Nat.gcd a b)) := by
  have st : ∀ a b, a < 2 ^ 63 → 0 < b → b < 2 ^ 63 → bb_X7_divisor_6 σ (lN a) (lN b) = some (.inl (lN b, lN (a % b))) := by
    intro a b ha h0 hb
    unfold bb_X7_divisor_6
    have nz : ¬ lN b = 0 := by show ¬ lN b = lN 0; rw [pk_lEQ hb (by omega)]; omega
    rw [if_neg (fun q => nz ((lg_cmp_eq _ _).mp q)), if_pos nz, pk_lRem ha h0 hb]; rfl
  have fin : ∀ a, bb_X7_divisor_6 σ (lN a) (lN 0) = some (.inr (lN a)) := by
    intro a
    unfold bb_X7_divisor_6
    rw [if_pos (show lg_cmp (lN 0) 0 = 0 from (lg_cmp_eq _ _).mpr rfl)]; rfl
  intro m
  induction m with
  | zero =>
    intro a b N hb _ ha _ hN
    have hb : b = 0 := by omega
    subst hb
    obtain ⟨N, rfl⟩ : ∃ q, N = q + 1 := ⟨N - 1, by omega⟩
    rw [Nat.gcd_zero_right]
    exact pu_inr (fin a)
  | succ m ih =>
    intro a b N hb hm ha hb3 hN
    obtain ⟨N, rfl⟩ : ∃ q, N = q + 1 := ⟨N - 1, by omega⟩
    by_cases b0 : b = 0
    · subst b0
      rw [Nat.gcd_zero_right]
      exact pu_inr (fin a)
    · have hc := Nat.mod_lt a (show 0 < b by omega)
      rw [pu_inl (st a b ha (by omega) hb3), pu_gcd_st]
      obtain ⟨N, rfl⟩ : ∃ q, N = q + 1 := ⟨N - 1, by omega⟩
      by_cases c0 : a % b = 0
      · rw [c0, Nat.gcd_zero_right]
        exact pu_inr (fin b)
      · have hd := pu_euc hc (by omega)
        rw [pu_inl (st b (a % b) hb3 (by omega) (by omega)), pu_gcd_st b (a % b)]
        exact ih (a % b) (b % (a % b)) N (by rw [Nat.pow_succ] at hb; omega) (by omega) (by omega) (by omega) (by omega)
theorem pc_gcd' (σ : qm_M) {a b : Nat} (ha : a < 2 ^ 63) (hb : b < 2 ^ 63) : fn_X1_gcd σ (lN a) (lN b) = some (lN (Nat.gcd a b)) := pc_gcd σ 63 a b 0 1000 hb (by omega) ha hb (by omega) (by omega)
theorem pm_gcd' (σ : qm_M) {a b : Nat} (ha : a < 2 ^ 63) (hb : b < 2 ^ 63) : fn_X7_divisor σ (lN a) (lN b) = some (lN (Nat.gcd a b)) := pm_gcd σ 63 a b 1000 hb (by omega) ha hb (by omega)
-- counting
theorem pu_wf_add {P Q R : Nat → Bool} {w : Nat → Nat} : ∀ (m j a b : Nat), (∀ i, j ≤ i → i < j + m → (R i = (P i || Q i)) ∧ (P i && Q i) = false) → pu_fold (fun j a => if R j = true then a + w j else a) m j (a + b) = pu_fold (fun j a => if P j = true then a + w j else a) m j a + pu_fold (fun j a => if Q j = true then a + w j else a) m j b
  | 0, _, _, _, _ => rfl
  | m + 1, j, a, b, h => by
    unfold pu_fold
    obtain ⟨h1, h2⟩ := h j (Nat.le_refl _) (by omega)
    have ih := fun a b => pu_wf_add (P := P) (Q := Q) (R := R) (w := w) m (j + 1) a b (fun i i1 i2 => h i (by omega) (by omega))
    cases hp : P j
    · cases hq : Q j
      · rw [hp, hq] at h1
        rw [h1, if_neg (by decide), if_neg (by decide)]
        rw [if_neg (by decide)]; exact ih a b
      · rw [hp, hq] at h1
        rw [h1, if_pos (by decide), if_neg (by decide), if_pos rfl, Nat.add_assoc]; exact ih a (b + w j)
    · cases hq : Q j
      · rw [hp, hq] at h1
        rw [h1, if_pos (by decide), if_pos rfl, if_neg (by decide), show a + b + w j = (a + w j) + b by omega]; exact ih (a + w j) b
      · rw [hp, hq] at h2; cases h2
theorem pu_ws_add {P Q R : Nat → Bool} {w : Nat → Nat} (h : ∀ i, 1 ≤ i → i ≤ 12 → (R i = (P i || Q i)) ∧ (P i && Q i) = false) : pu_ws R w = pu_ws P w + pu_ws Q w := by
  unfold pu_ws
  exact pu_wf_add 12 1 0 0 (fun i a b => h i a (by omega))
theorem pu_wf_mono {P Q : Nat → Bool} {w : Nat → Nat} : ∀ (m j a b : Nat), a ≤ 16 * b → (∀ i, j ≤ i → i < j + m → P i = true → Q i = true ∧ w i ≤ 16) → pu_fold (fun j a => if P j = true then a + w j else a) m j a ≤ 16 * pu_fold (fun j a => if Q j = true then a + 1 else a) m j b
  | 0, _, _, _, hab, _ => hab
  | m + 1, j, a, b, hab, h => by
    unfold pu_fold
    refine pu_wf_mono (P := P) (Q := Q) (w := w) m (j + 1) _ _ ?_ (fun i i1 i2 => h i (by omega) (by omega))
    have hj := h j (Nat.le_refl _) (by omega)
    cases hp : P j
    · rw [if_neg (by decide)]; split <;> omega
    · obtain ⟨q, v⟩ := hj hp
      rw [if_pos rfl, if_pos q]; omega
theorem pu_ws_mono {P Q : Nat → Bool} {w : Nat → Nat} (h : ∀ i, 1 ≤ i → i ≤ 12 → P i = true → Q i = true ∧ w i ≤ 16) : pu_ws P w ≤ 16 * pu_ws Q (fun _ => 1) := by
  unfold pu_ws
  exact pu_wf_mono 12 1 0 0 (by omega) (fun i a b => h i a (by omega))
theorem pu_it_add (p : Nat → Nat) : ∀ a d s, pu_it p (a + d) s = pu_it p d (pu_it p a s) := by
  intro a
  induction a with
  | zero => intro d s; rw [Nat.zero_add]; rfl
  | succ a ih => intro d s; rw [show a + 1 + d = (a + d) + 1 by omega]; exact ih d (p s)
/-- a line goes by no place twice -/
theorem pu_it_ne {σ : qm_M} (G : pu_G σ) {s n : Nat} (n3 : pu_it (pu_par σ) n s = 0) (n4 : ∀ i, i < n → pu_t σ (pu_it (pu_par σ) i s) = true) {a b : Nat} (hab : a < b) (hb : b ≤ n) : pu_it (pu_par σ) a s ≠ pu_it (pu_par σ) b s := by
  have ta := n4 a (by omega)
  have za := G.z _ ta
  rcases Nat.lt_or_ge b n with q | q
  · intro e
    have no := G.A.no G.c ta
    refine no ⟨b - a, ?_⟩
    have h1 : pu_it (pu_par σ) (b - a - 1) (pu_par σ (pu_it (pu_par σ) a s)) = pu_it (pu_par σ) a s := by
      rw [← pu_it_s (pu_par σ) a s, ← pu_it_add (pu_par σ) (a + 1) (b - a - 1) s, show a + 1 + (b - a - 1) = b by omega]; exact e.symm
    have h2 := pu_up_it (p := pu_par σ) (b - a - 1) (b - a) (pu_par σ (pu_it (pu_par σ) a s)) (by omega) (fun i hi => by
      rw [← pu_it_s (pu_par σ) a s, ← pu_it_add (pu_par σ) (a + 1) i s]; exact G.z _ (n4 _ (by omega)))
    rw [h1] at h2; exact h2
  · rw [show b = n by omega, n3]; exact za
