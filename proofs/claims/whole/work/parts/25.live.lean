-- ===== who can, who is live =====
def pu_c (σ : qm_M) (j : Nat) : Bool := if σ.1 (2 + j) 6 = 0 then false else if σ.1 (2 + j) 2 ≤ 0 then false else if σ.1 (2 + j) 3 ≤ 0 then false else true
abbrev pu_can (σ : qm_M) (j : Nat) : Bool := pu_t σ j && pu_c σ j
theorem pc_can (σ : qm_M) (j : Nat) : fn_X2_can σ (2 + j) = some (pu_c σ j) := by
  unfold fn_X2_can pu_c
  by_cases h1 : σ.1 (2 + j) 6 = 0
  · rw [if_pos h1, if_pos h1]
  · rw [if_neg h1, if_neg h1]
    by_cases h2 : σ.1 (2 + j) 2 ≤ 0
    · rw [if_pos h2, if_pos h2]
    · rw [if_neg h2, if_neg h2]
      by_cases h3 : σ.1 (2 + j) 3 ≤ 0
      · rw [if_pos h3, if_pos h3]
      · rw [if_neg h3, if_neg h3]
theorem pm_can {B : Nat} {σ τ : qm_M} (h : RT σ (τ.2 211)) (w : WF B σ) {j : Nat} (h1 : 1 ≤ j) (h2 : j ≤ 12) : fn_X7_can τ (nI j) = some (pu_can σ j) := by
  unfold fn_X7_can pu_can
  rw [pm_isStream h, Option.bind_some, pu_th_nI σ h1 h2]
  cases ht : bt (σ.1 0 1) j
  · rw [pu_iff]; simp [ht]
  · rw [pu_ift, pu_its_7 τ h2, pu_its_3 τ h2, pu_its_4 τ h2]
    simp only [Option.bind_some]
    have e6 := h.2.1 j 6 h1 h2 (by omega) ht
    have e2 := h.2.1 j 2 h1 h2 (by omega) ht
    have e3 := h.2.1 j 3 h1 h2 (by omega) ht
    rw [show 16 * j + 7 = 16 * j + pu_km 6 from rfl, show 16 * j + 3 = 16 * j + pu_km 2 from rfl, show 16 * j + 4 = 16 * j + pu_km 3 from rfl, e6, e2, e3]
    have hz : (0 : Int64) = (0 : Int32).toInt64 := rfl
    have ho : (1 : Int64) = (1 : Int32).toInt64 := rfl
    unfold pu_c
    obtain ⟨-, -, -, -, -, -, ⟨n, n1, n2⟩, -⟩ := w.1 j h1 h2 ht
    have c1 : (lg_cmp (σ.1 (2 + j) 6).toInt64 1 = 0) ↔ ¬ σ.1 (2 + j) 6 = 0 := by
      rw [lg_cmp_eq, ho, pu_64inj, n2]
      rw [show (1 : Int32) = nI 1 from rfl, show (0 : Int32) = nI 0 from rfl, pu_eq (by omega) (by omega), pu_eq (by omega) (by omega)]; omega
    have c2 : (lg_cmp (σ.1 (2 + j) 2).toInt64 0 ≤ 0) ↔ σ.1 (2 + j) 2 ≤ 0 := by rw [lg_cmp_le, hz, pu_64le]
    have c3 : (lg_cmp (σ.1 (2 + j) 3).toInt64 0 ≤ 0) ↔ σ.1 (2 + j) 3 ≤ 0 := by rw [lg_cmp_le, hz, pu_64le]
    simp only [pu_t, ht, Bool.true_and]
    by_cases q1 : σ.1 (2 + j) 6 = 0
    · rw [if_pos q1, if_neg (fun q => c1.mp q q1)]
    · rw [if_neg q1, if_pos (c1.mpr q1)]
      by_cases q2 : σ.1 (2 + j) 2 ≤ 0
      · rw [if_pos q2, if_pos (c2.mpr q2)]
      · rw [if_neg q2, if_neg (fun q => q2 (c2.mp q))]
        by_cases q3 : σ.1 (2 + j) 3 ≤ 0
        · rw [if_pos q3, if_pos (c3.mpr q3)]
        · rw [if_neg q3, if_neg (fun q => q3 (c3.mp q))]
/-- a set of streams as bits -/
def pu_set (P : Nat → Bool) : Int32 := pu_fold (fun j a => if P j = true then a ||| ((1 : Int32) <<< (nI j &&& 31)) else a) 12 1 0
theorem pu_set_bt (P : Nat → Bool) {i : Nat} (hi : i < 32) : bt (pu_set P) i = (decide (1 ≤ i ∧ i ≤ 12) && P i) := by
  have key : ∀ m j a, j + m ≤ 32 → bt (pu_fold (fun j a => if P j = true then a ||| ((1 : Int32) <<< (nI j &&& 31)) else a) m j a) i = (bt a i || (decide (j ≤ i ∧ i < j + m) && P i)) := by
    intro m
    induction m with
    | zero =>
      intro j a _
      unfold pu_fold
      rw [decide_eq_false (by omega), Bool.false_and, Bool.or_false]
    | succ m ih =>
      intro j a hj
      unfold pu_fold
      rw [ih (j + 1) _ (by omega)]
      by_cases e : i = j
      · subst e
        rw [decide_eq_false (show ¬ (i + 1 ≤ i ∧ i < i + 1 + m) by omega), decide_eq_true (show i ≤ i ∧ i < i + (m + 1) by omega), Bool.false_and, Bool.or_false, Bool.true_and]
        cases hp : P i
        · rw [if_neg (by decide), Bool.or_false]
        · rw [if_pos rfl, b_or, pu_bit (by omega) hi, decide_eq_true rfl]
      · have e1 : decide (j + 1 ≤ i ∧ i < j + 1 + m) = decide (j ≤ i ∧ i < j + (m + 1)) := decide_eq_decide.mpr (by omega)
        rw [e1]
        congr 1
        cases hp : P j
        · rw [if_neg (by decide)]
        · rw [if_pos rfl, b_or, pu_bit (by omega) hi, decide_eq_false e, Bool.or_false]
  unfold pu_set
  rw [key 12 1 0 (by omega), b_0, Bool.false_or]
  congr 1
  exact decide_eq_decide.mpr (by omega)
theorem pu_set_of {L : Int32} {P : Nat → Bool} (h : ∀ i, i < 32 → bt L i = P i) (hP : ∀ i, P i = true → 1 ≤ i ∧ i ≤ 12) : L = pu_set P := by
  apply b_ext
  intro i hi
  rw [h i hi, pu_set_bt P hi]
  cases hp : P i
  · rw [Bool.and_false]
  · rw [decide_eq_true (hP i hp)]; rfl
theorem pu_set_cong {P Q : Nat → Bool} (h : ∀ j, 1 ≤ j → j ≤ 12 → P j = Q j) : pu_set P = pu_set Q := by
  unfold pu_set
  exact pu_fold_cong 12 1 0 (fun i h1 h2 a => by rw [h i h1 (by omega)])
theorem pu_cnt_cong {P Q : Nat → Bool} (h : ∀ j, 1 ≤ j → j ≤ 12 → P j = Q j) : pu_cnt P = pu_cnt Q := by
  unfold pu_cnt
  exact pu_fold_cong 12 1 0 (fun i h1 h2 a => by rw [h i h1 (by omega)])
theorem pc_canBits (σ : qm_M) : fn_X3_canBits σ 0 = some (pu_set (pu_can σ)) := by
  unfold fn_X3_canBits lp_X3_canBits_4 pu_set
  refine pu_for (A := Int32) (fun a j => (a, nI j)) _ id (fun a j h1 h2 => ?_) (fun a => ?_) 0
  · dsimp only
    unfold bb_X3_canBits_4
    rw [if_neg (pu_h12 h2), pu_has _ _ (by omega), Option.bind_some, pu_s1]
    have hcan : pu_can σ j = (bt (σ.1 0 1) j && pu_c σ j) := rfl
    rw [hcan]
    cases bt (σ.1 0 1) j
    · rw [pu_iff]; rfl
    · rw [pu_ift, if_pos (pu_in (show j < 13 by omega) (by omega)), pu_clamp (by omega), show 0 + 1 + 1 + j = 2 + j by omega, pc_can, Option.bind_some, Bool.true_and]
      cases pu_c σ j
      · rw [pu_iff]; rfl
      · rw [pu_ift]; rfl
  · dsimp only
    unfold bb_X3_canBits_4
    rw [if_pos pu_13]; rfl
theorem pm_canSet {B : Nat} {σ τ : qm_M} (h : RT σ (τ.2 211)) (w : WF B σ) : fn_X7_canSet τ = some (pu_set (pu_can σ)) := by
  unfold fn_X7_canSet lp_X7_canSet_4 pu_set
  refine pu_for (A := Int32) (fun a j => (a, nI j)) _ id (fun a j h1 h2 => ?_) (fun a => ?_) 0
  · dsimp only
    unfold bb_X7_canSet_4
    rw [if_neg (pu_h12 h2), pm_can h w h1 h2, Option.bind_some, pu_s1]
    cases pu_can σ j
    · rw [pu_iff]; simp
    · rw [pu_ift]; rfl
  · dsimp only
    unfold bb_X7_canSet_4
    rw [if_pos pu_13]; rfl
theorem pm_there {σ τ : qm_M} (h : RT σ (τ.2 211)) : fn_X7_there τ = some (σ.1 0 1) := by
  have e : σ.1 0 1 = pu_set (pu_t σ) := pu_set_of (fun i _ => rfl) (fun i hi => by
    rcases Nat.lt_or_ge i 32 with q | q
    · refine Classical.byContradiction fun hn => ?_
      have h1 := h.2.2.2.2.2 i q (by omega)
      have hi : bt (σ.1 0 1) i = true := hi
      rw [h1] at hi; cases hi
    · rw [show pu_t σ i = false from b_big q] at hi; cases hi)
  rw [e]
  unfold fn_X7_there lp_X7_there_4 pu_set
  refine pu_for (A := Int32) (fun a j => (a, nI j)) _ id (fun a j h1 h2 => ?_) (fun a => ?_) 0
  · dsimp only
    unfold bb_X7_there_4
    rw [if_neg (pu_h12 h2), pm_isStream h, Option.bind_some, pu_s1, pu_th_nI σ h1 h2]
    have hcan : pu_t σ j = bt (σ.1 0 1) j := rfl
    rw [hcan]
    cases bt (σ.1 0 1) j
    · rw [pu_iff]; simp
    · rw [pu_ift]; rfl
  · dsimp only
    unfold bb_X7_there_4
    rw [if_pos pu_13]; rfl
def pu_any (P : Nat → Bool) : Nat → Bool
  | 0 => false
  | n + 1 => pu_any P n || P n
theorem pu_any_iff {P : Nat → Bool} : ∀ n, pu_any P n = true ↔ ∃ i, i < n ∧ P i = true
  | 0 => ⟨(fun h => by cases h), (fun ⟨i, h, _⟩ => absurd h (by omega))⟩
  | n + 1 => by
    unfold pu_any
    rw [Bool.or_eq_true, pu_any_iff n]
    constructor
    · rintro (⟨i, h1, h2⟩ | h)
      · exact ⟨i, by omega, h2⟩
      · exact ⟨n, by omega, h⟩
    · rintro ⟨i, h1, h2⟩
      by_cases e : i = n
      · right; rw [← e]; exact h2
      · left; exact ⟨i, by omega, h2⟩
/-- on the way up from s (s itself counts) -/
abbrev pu_ln (σ : qm_M) (s i : Nat) : Bool := pu_up (pu_par σ) 12 s i
theorem pu_ln_eq {σ : qm_M} (G : pu_G σ) {s : Nat} (hs : pu_t σ s = true) (i : Nat) : pu_ln σ s i = (decide (s = i) || pu_bel σ s i) := by
  obtain ⟨n, n1, n2, n3, -⟩ := pu_chain G hs
  obtain ⟨k, rfl⟩ : ∃ k, n = k + 1 := ⟨n - 1, by omega⟩
  unfold pu_bel
  rw [show pu_ln σ s i = pu_up (pu_par σ) (11 + 1) s i from rfl]
  conv => lhs; unfold pu_up
  have := (G.1 s hs).1
  rw [if_neg (by omega), pu_up_st k 11 (pu_par σ s) i n3 (by omega), pu_up_st k 12 (pu_par σ s) i n3 (by omega)]
theorem pu_up_t {σ : qm_M} (G : pu_G σ) : ∀ m s i, (s = 0 ∨ pu_t σ s = true) → pu_up (pu_par σ) m s i = true → pu_t σ i = true
  | 0, s, i, _, h => by cases h
  | m + 1, s, i, hs, h => by
    unfold pu_up at h
    by_cases h0 : s = 0
    · rw [if_pos h0] at h; cases h
    · rw [if_neg h0, Bool.or_eq_true] at h
      have ht := hs.resolve_left h0
      rcases h with h | h
      · rw [← of_decide_eq_true h]; exact ht
      · exact pu_up_t G m _ i (G.2.1 s ht).2.2 h
theorem pu_up_tr {p : Nat → Nat} : ∀ m m' s j i, pu_up p m s j = true → pu_up p m' j i = true → pu_up p (m + m') s i = true
  | 0, m', s, j, i, h, _ => by cases h
  | m + 1, m', s, j, i, h, h' => by
    unfold pu_up at h
    by_cases h0 : s = 0
    · rw [if_pos h0] at h; cases h
    · rw [if_neg h0, Bool.or_eq_true] at h
      rcases h with h | h
      · have e := of_decide_eq_true h
        subst e
        -- the same start: more steps see no less
        have mono : ∀ m s i, pu_up p m s i = true → ∀ d, pu_up p (m + d) s i = true := by
          intro m
          induction m with
          | zero => intro s i h; cases h
          | succ m ih =>
            intro s i h d
            rw [show m + 1 + d = (m + d) + 1 by omega]
            unfold pu_up at h ⊢
            by_cases z : s = 0
            · rw [if_pos z] at h; cases h
            · rw [if_neg z, Bool.or_eq_true] at h ⊢
              exact h.imp id (fun h => ih _ i h d)
        rw [show m + 1 + m' = m' + (m + 1) by omega]
        exact mono m' s i h' (m + 1)
      · rw [show m + 1 + m' = (m + m') + 1 by omega]
        unfold pu_up
        rw [if_neg h0, pu_up_tr m m' (p s) j i h h', Bool.or_true]
theorem pu_ln_tr {σ : qm_M} (G : pu_G σ) {s j i : Nat} (hs : pu_t σ s = true) (h : pu_ln σ s j = true) (h' : pu_ln σ j i = true) : pu_ln σ s i = true := by
  have := pu_up_tr 12 12 s j i h h'
  obtain ⟨n, n1, n2, n3, -⟩ := pu_chain G hs
  rw [pu_up_st n (12 + 12) s i n3 (by omega), ← pu_up_st n 12 s i n3 n2] at this
  exact this
abbrev pu_live (σ : qm_M) (i : Nat) : Bool := pu_any (fun s => pu_can σ s && pu_ln σ s i) 13
theorem pu_live_t {σ : qm_M} (G : pu_G σ) {i : Nat} (h : pu_live σ i = true) : pu_t σ i = true := by
  obtain ⟨s, -, h2⟩ := (pu_any_iff 13).mp h
  rw [Bool.and_eq_true] at h2
  have ht : pu_t σ s = true := by have := h2.1; rw [Bool.and_eq_true] at this; exact this.1
  exact pu_up_t G 12 s i (Or.inr ht) h2.2
theorem pc_liveBits {σ : qm_M} (G : pu_G σ) : fn_X3_liveBits σ 0 (pu_set (pu_can σ)) = some (pu_set (pu_live σ)) := by
  have key : ∃ L, fn_X3_liveBits σ 0 (pu_set (pu_can σ)) = some L ∧ ∀ i, i < 32 → bt L i = pu_live σ i := by
    have hI := pu_loop (S := Int32 × Int32) (R := Int32) (body := fun s => bb_X3_liveBits_4 σ 0 (pu_set (pu_can σ)) s.1 s.2) (Q := fun L => ∀ i, i < 32 → bt L i = pu_live σ i) (fun m s => ∃ j, 1 ≤ j ∧ j + m = 13 ∧ s.2 = nI j ∧ ∀ i, i < 32 → bt s.1 i = pu_any (fun s => pu_can σ s && pu_ln σ s i) j) (fun m s hI => ?_) 1000 12 (0, nI 1) (by omega) ⟨1, by omega, rfl, rfl, fun i _ => by
      rw [b_0]
      show false = (pu_any _ 0 || _)
      have : pu_t σ 0 = false := by
        cases h : pu_t σ 0
        · rfl
        · have := (G.1 0 h).1; omega
      simp [pu_any, pu_can, this]⟩
    · obtain ⟨L, l1, l2⟩ := hI
      exact ⟨L, l1, l2⟩
    · obtain ⟨a, b⟩ := s
      obtain ⟨j, j1, j2, rfl, j4⟩ := hI
      dsimp only at j4 ⊢
      unfold bb_X3_liveBits_4
      by_cases e : j = 13
      · subst e
        left
        rw [if_pos pu_13]
        exact ⟨a, rfl, j4⟩
      · have hj : j ≤ 12 := by omega
        right
        rw [if_neg (pu_h12 hj), pu_has _ _ (by omega), pu_has _ _ (by omega), pu_set_bt _ (by omega), decide_eq_true ⟨j1, hj⟩]
        simp only [Option.bind_some, Bool.true_and, pu_s1]
        cases hc : pu_can σ j
        · simp only [pu_iff]
          refine ⟨_, m - 1, rfl, by omega, j + 1, by omega, by omega, rfl, fun i hi => ?_⟩
          rw [j4 i hi]
          show _ = (pu_any _ j || _)
          dsimp only
          rw [hc, Bool.false_and, Bool.or_false]
        · simp only [pu_ift]
          have ht : pu_t σ j = true := by rw [Bool.and_eq_true] at hc; exact hc.1
          cases hb : bt a j
          · simp only [pu_iff]
            obtain ⟨L, l1, l2⟩ := pc_lineBits G (Or.inr ht)
            rw [l1]
            simp only [Option.bind_some]
            refine ⟨_, m - 1, rfl, by omega, j + 1, by omega, by omega, rfl, fun i hi => ?_⟩
            dsimp only
            rw [b_or, j4 i hi, l2 i hi]
            show _ = (pu_any _ j || _)
            dsimp only
            rw [hc, Bool.true_and]
          · simp only [pu_ift]
            refine ⟨_, m - 1, rfl, by omega, j + 1, by omega, by omega, rfl, fun i hi => ?_⟩
            rw [j4 i hi]
            show _ = (pu_any _ j || _)
            dsimp only
            rw [hc, Bool.true_and]
            cases hl : pu_ln σ j i
            · rw [Bool.or_false]
            · rw [Bool.or_true]
              have h1 := j4 j (by omega)
              rw [hb] at h1
              obtain ⟨s, s1, s2⟩ := (pu_any_iff j).mp h1.symm
              rw [Bool.and_eq_true] at s2
              refine (pu_any_iff j).mpr ⟨s, s1, ?_⟩
              rw [Bool.and_eq_true]
              have hts : pu_t σ s = true := by have := s2.1; rw [Bool.and_eq_true] at this; exact this.1
              exact ⟨s2.1, pu_ln_tr G hts s2.2 hl⟩
  obtain ⟨L, l1, l2⟩ := key
  rw [l1, pu_set_of l2 (fun i hi => G.1 i (pu_live_t G hi))]
theorem pm_isLive {B : Nat} {σ τ : qm_M} (h : RT σ (τ.2 211)) (w : WF B σ) {i : Nat} (h1 : 1 ≤ i) (h2 : i ≤ 12) : fn_X7_isLive τ (nI i) = some (pu_live σ i) := by
  have G := pu_G.of h w
  have e : pu_live σ i = ((pu_can σ i || pu_any (fun x => pu_can σ x && pu_bel σ x i) 13) && pu_t σ i) := by
    rw [Bool.eq_iff_iff, Bool.and_eq_true, Bool.or_eq_true, pu_any_iff, pu_any_iff]
    constructor
    · rintro ⟨s, s1, s2⟩
      refine ⟨?_, pu_live_t G ((pu_any_iff 13).mpr ⟨s, s1, s2⟩)⟩
      rw [Bool.and_eq_true] at s2
      have hts : pu_t σ s = true := by have := s2.1; rw [Bool.and_eq_true] at this; exact this.1
      have s3 := s2.2
      rw [pu_ln_eq G hts, Bool.or_eq_true] at s3
      rcases s3 with q | q
      · left; rw [← of_decide_eq_true q]; exact s2.1
      · right; exact ⟨s, s1, by rw [Bool.and_eq_true]; exact ⟨s2.1, q⟩⟩
    · rintro ⟨q | ⟨s, s1, s2⟩, ht⟩
      · refine ⟨i, by omega, ?_⟩
        rw [Bool.and_eq_true, pu_ln_eq G ht, decide_eq_true rfl]; exact ⟨q, rfl⟩
      · refine ⟨s, s1, ?_⟩
        rw [Bool.and_eq_true] at s2
        have hts : pu_t σ s = true := by have := s2.1; rw [Bool.and_eq_true] at this; exact this.1
        rw [Bool.and_eq_true, pu_ln_eq G hts, s2.2, Bool.or_true]; exact ⟨s2.1, rfl⟩
  have h47 : ∀ b : Bool, bb_X7_isLive_47 τ (nI i) (qm_b b) = some (b && pu_t σ i) := by
    intro b
    unfold bb_X7_isLive_47
    rw [pm_isStream h, pu_th_nI σ h1 h2]
    simp only [Option.bind_some]
    cases b
    · rw [pu_iff]; rfl
    · rw [pu_ift, Bool.true_and]
      show (if qm_b (bt (σ.1 0 1) i) = 0 then some false else some true) = some (bt (σ.1 0 1) i)
      cases bt (σ.1 0 1) i
      · rw [pu_iff]
      · rw [pu_ift]
  have key := pu_loop (S := Int32 × Int32) (R := Bool) (body := fun s => bb_X7_isLive_8 τ (nI i) s.1 s.2) (Q := fun b => b = pu_live σ i) (fun m s => ∃ j, 1 ≤ j ∧ j + m = 13 ∧ s.2 = nI j ∧ s.1 = qm_b (pu_can σ i || pu_any (fun x => pu_can σ x && pu_bel σ x i) j)) (fun m s hI => ?_) 1000 12 (qm_b (pu_can σ i), nI 1) (by omega) ⟨1, by omega, rfl, rfl, by
      have : pu_t σ 0 = false := by
        cases h : pu_t σ 0
        · rfl
        · have := (G.1 0 h).1; omega
      simp [pu_any, pu_can, this]⟩
  · obtain ⟨b, b1, b2⟩ := key
    unfold fn_X7_isLive
    rw [pm_can h w h1 h2]
    simp only [Option.bind_some]
    rw [← b2]; exact b1
  · obtain ⟨a, b⟩ := s
    obtain ⟨j, j1, j2, rfl, rfl⟩ := hI
    dsimp only
    unfold bb_X7_isLive_8
    by_cases e13 : j = 13
    · subst e13
      left
      rw [if_pos pu_13, h47, e]
      exact ⟨_, rfl, rfl⟩
    · have hj : j ≤ 12 := by omega
      rw [if_neg (pu_h12 hj)]
      cases hacc : (pu_can σ i || pu_any (fun x => pu_can σ x && pu_bel σ x i) j)
      · right
        rw [if_pos (show qm_b false = 0 from rfl), pm_can h w j1 hj]
        simp only [Option.bind_some, pu_s1]
        cases hc : pu_can σ j
        · simp only [pu_iff]
          refine ⟨_, m - 1, rfl, by omega, j + 1, by omega, by omega, rfl, ?_⟩
          show (0 : Int32) = qm_b (_ || (pu_any _ j || _))
          dsimp only
          rw [hc, Bool.false_and, Bool.or_false, hacc]; rfl
        · simp only [pu_ift]
          have ht : pu_t σ j = true := by rw [Bool.and_eq_true] at hc; exact hc.1
          rw [pm_isBelow h G ht h1 h2]
          simp only [Option.bind_some]
          cases hb : pu_bel σ j i
          · simp only [pu_iff]
            refine ⟨_, m - 1, rfl, by omega, j + 1, by omega, by omega, rfl, ?_⟩
            show (0 : Int32) = qm_b (_ || (pu_any _ j || _))
            dsimp only
            rw [hc, hb, Bool.and_false, Bool.or_false, hacc]; rfl
          · simp only [pu_ift]
            refine ⟨_, m - 1, rfl, by omega, j + 1, by omega, by omega, rfl, ?_⟩
            show (1 : Int32) = qm_b (_ || (pu_any _ j || _))
            dsimp only
            rw [hc, hb, Bool.and_true, Bool.or_true, Bool.or_true]; rfl
      · left
        rw [if_neg (show ¬ qm_b true = 0 by decide), h47, e]
        refine ⟨_, rfl, ?_⟩
        congr 1
        rw [Bool.or_eq_true] at hacc
        symm
        rw [Bool.or_eq_true]
        rcases hacc with q | q
        · exact Or.inl q
        · right
          obtain ⟨x, x1, x2⟩ := (pu_any_iff j).mp q
          exact (pu_any_iff 13).mpr ⟨x, by omega, x2⟩
theorem pm_liveSet {B : Nat} {σ τ : qm_M} (h : RT σ (τ.2 211)) (w : WF B σ) : fn_X7_liveSet τ = some (pu_set (pu_live σ)) := by
  unfold fn_X7_liveSet lp_X7_liveSet_4 pu_set
  refine pu_for (A := Int32) (fun a j => (a, nI j)) _ id (fun a j h1 h2 => ?_) (fun a => ?_) 0
  · dsimp only
    unfold bb_X7_liveSet_4
    rw [if_neg (pu_h12 h2), pm_isLive h w h1 h2, Option.bind_some, pu_s1]
    cases pu_live σ j
    · rw [pu_iff]; simp
    · rw [pu_ift]; rfl
  · dsimp only
    unfold bb_X7_liveSet_4
    rw [if_pos pu_13]; rfl
