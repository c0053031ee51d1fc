-- ===== the tree's chains =====
theorem fb_holes : ∀ (m n : Nat) (f : Nat → Nat), (∀ i, i < n → f i < m) → (∀ i j, i < j → j < n → f i ≠ f j) → n ≤ m := by
  intro m
  induction m with
  | zero =>
    intro n f h1 _
    rcases Nat.eq_zero_or_pos n with h | h
    · omega
    · exact absurd (h1 0 h) (Nat.not_lt_zero _)
  | succ m ih =>
    intro n f h1 h2
    by_cases hx : ∃ i, i < n ∧ f i = m
    · obtain ⟨a, ha, hfa⟩ := hx
      have hg := ih (n - 1) (fun i => if i < a then f i else f (i + 1)) (by
        intro i hi
        by_cases q : i < a
        · simp only [if_pos q]
          have b1 := h1 i (by omega)
          have b2 := h2 i a q ha
          omega
        · simp only [if_neg q]
          have b1 := h1 (i + 1) (by omega)
          have b2 := h2 a (i + 1) (by omega) (by omega)
          omega) (by
        intro i j hij hj
        by_cases q : i < a
        · by_cases r : j < a
          · simp only [if_pos q, if_pos r]
            exact h2 i j hij (by omega)
          · simp only [if_pos q, if_neg r]
            exact h2 i (j + 1) (by omega) (by omega)
        · have r : ¬ j < a := by omega
          simp only [if_neg q, if_neg r]
          exact h2 (i + 1) (j + 1) (by omega) (by omega))
      omega
    · have hg := ih n f (fun i hi => by
        have b1 := h1 i hi
        have b2 : f i ≠ m := fun e => hx ⟨i, hi, e⟩
        omega) h2
      omega
/-- two of them in one place -/
abbrev pu_t (σ : qm_M) (s : Nat) : Bool := bt (σ.1 0 1) s
def pu_G (σ : qm_M) : Prop := (∀ s, pu_t σ s = true → 1 ≤ s ∧ s ≤ 12) ∧ (∀ s, pu_t σ s = true → pu_par σ s ≤ 12 ∧ σ.1 (2 + s) 0 = nI (pu_par σ s) ∧ (pu_par σ s = 0 ∨ pu_t σ (pu_par σ s) = true)) ∧ ∃ rk : Nat → Nat, ∀ s, pu_t σ s = true → pu_par σ s ≠ 0 → rk (pu_par σ s) < rk s
theorem pu_G.of {B : Nat} {σ : qm_M} {g : Nat → Int64} (h : RT σ g) (w : WF B σ) : pu_G σ := by
  have h1 : ∀ s, pu_t σ s = true → 1 ≤ s ∧ s ≤ 12 := by
    intro s hs
    rcases Nat.lt_or_ge s 32 with q | q
    · refine Classical.byContradiction fun hn => ?_
      have := h.2.2.2.2.2 s q (by omega)
      have hs : bt (σ.1 0 1) s = true := hs
      rw [this] at hs; cases hs
    · rw [show pu_t σ s = false from b_big q] at hs; cases hs
  refine ⟨h1, fun s hs => ?_, ?_⟩
  · obtain ⟨a, b⟩ := h1 s hs
    obtain ⟨⟨p, p1, p2, p3⟩, -⟩ := w.1 s a b hs
    have e : pu_par σ s = p := by unfold pu_par; rw [p2, pu_clamp (by omega)]
    rw [e]; exact ⟨p1, p2, p3⟩
  · obtain ⟨rk, hr⟩ := w.2.1
    exact ⟨rk, fun s hs hp => hr s (h1 s hs).1 (h1 s hs).2 hs hp⟩
def pu_up (p : Nat → Nat) : Nat → Nat → Nat → Bool
  | 0, _, _ => false
  | m + 1, s, i => if s = 0 then false else (decide (s = i) || pu_up p m (p s) i)
theorem pu_chain {σ : qm_M} (G : pu_G σ) {s : Nat} (hs : pu_t σ s = true) : ∃ n, 1 ≤ n ∧ n ≤ 12 ∧ pu_it (pu_par σ) n s = 0 ∧ ∀ i, i < n → pu_t σ (pu_it (pu_par σ) i s) = true := by
  obtain ⟨G1, G2, rk, G3⟩ := G
  have ex : ∀ k s, rk s ≤ k → pu_t σ s = true → ∃ n, 1 ≤ n ∧ pu_it (pu_par σ) n s = 0 ∧ ∀ i, i < n → pu_t σ (pu_it (pu_par σ) i s) = true := by
    intro k
    induction k with
    | zero =>
      intro s hk hs
      by_cases hp : pu_par σ s = 0
      · exact ⟨1, by omega, hp, fun i hi => by rw [show i = 0 by omega]; exact hs⟩
      · have := G3 s hs hp; omega
    | succ k ih =>
      intro s hk hs
      by_cases hp : pu_par σ s = 0
      · exact ⟨1, by omega, hp, fun i hi => by rw [show i = 0 by omega]; exact hs⟩
      · have h3 := G3 s hs hp
        obtain ⟨n, n1, n2, n3⟩ := ih (pu_par σ s) (by omega) ((G2 s hs).2.2.resolve_left hp)
        refine ⟨n + 1, by omega, n2, fun i hi => ?_⟩
        cases i with
        | zero => exact hs
        | succ i => exact n3 i (by omega)
  obtain ⟨n, n1, n2, n3⟩ := ex (rk s) s (Nat.le_refl _) hs
  refine ⟨n, n1, ?_, n2, n3⟩
  have step : ∀ i s, pu_it (pu_par σ) (i + 1) s = pu_par σ (pu_it (pu_par σ) i s) := by
    intro i
    induction i with
    | zero => intro s; rfl
    | succ i ih => intro s; exact ih (pu_par σ s)
  have dec : ∀ i d, i + d + 1 < n → rk (pu_it (pu_par σ) (i + d + 1) s) < rk (pu_it (pu_par σ) i s) := by
    intro i d
    induction d with
    | zero =>
      intro hd
      have h1 := n3 i (by omega)
      have h2 := n3 (i + 1) (by omega)
      have hne : pu_par σ (pu_it (pu_par σ) i s) ≠ 0 := by
        rw [← step]; have := (G1 _ h2).1; omega
      have := G3 _ h1 hne
      rw [← step] at this; exact this
    | succ d ih =>
      intro hd
      have h0 := ih (by omega)
      have h1 := n3 (i + d + 1) (by omega)
      have h2 := n3 (i + d + 1 + 1) (by omega)
      have hne : pu_par σ (pu_it (pu_par σ) (i + d + 1) s) ≠ 0 := by
        rw [← step]; have := (G1 _ h2).1; omega
      have := G3 _ h1 hne
      rw [← step] at this
      rw [show i + (d + 1) + 1 = i + d + 1 + 1 by omega]; omega
  refine fb_holes 12 n (fun i => pu_it (pu_par σ) i s - 1) (fun i hi => ?_) (fun i j hij hj => ?_)
  · have := G1 _ (n3 i hi); show _ - 1 < 12; omega
  · have h1 := G1 _ (n3 i (by omega))
    have h2 := G1 _ (n3 j hj)
    have h3 := dec i (j - i - 1) (by omega)
    rw [show i + (j - i - 1) + 1 = j by omega] at h3
    intro e
    have e : pu_it (pu_par σ) i s - 1 = pu_it (pu_par σ) j s - 1 := e
    have e2 : pu_it (pu_par σ) i s = pu_it (pu_par σ) j s := by omega
    rw [e2] at h3; omega
theorem pu_up_st {p : Nat → Nat} : ∀ (m m' s i : Nat), pu_it p m s = 0 → m ≤ m' → pu_up p m' s i = pu_up p m s i
  | 0, m', s, i, h, _ => by
    have h : s = 0 := h
    subst h
    cases m' with
    | zero => rfl
    | succ m' => unfold pu_up; rw [if_pos rfl]
  | m + 1, 0, s, i, _, h => absurd h (by omega)
  | m + 1, m' + 1, s, i, h, hm => by
    unfold pu_up
    by_cases h0 : s = 0
    · rw [if_pos h0, if_pos h0]
    · rw [if_neg h0, if_neg h0, pu_up_st m m' (p s) i h (by omega)]
/-- a chain does not come back -/
theorem pu_up_no {σ : qm_M} (G : pu_G σ) {s : Nat} (hs : pu_t σ s = true) (m : Nat) : pu_up (pu_par σ) m (pu_par σ s) s = false := by
  obtain ⟨G1, G2, rk, G3⟩ := G
  have key : ∀ m q, (q = 0 ∨ pu_t σ q = true) → (q ≠ 0 → rk q < rk s) → pu_up (pu_par σ) m q s = false := by
    intro m
    induction m with
    | zero => intro q _ _; rfl
    | succ m ih =>
      intro q hq hr
      unfold pu_up
      by_cases h0 : q = 0
      · rw [if_pos h0]
      · rw [if_neg h0]
        have hq := hq.resolve_left h0
        have h1 := hr h0
        have hne : ¬ q = s := fun e => by rw [e] at h1; omega
        rw [decide_eq_false hne, Bool.false_or]
        exact ih _ (G2 q hq).2.2 (fun h => Nat.lt_trans (G3 q hq h) h1)
  exact key m _ (G2 s hs).2.2 (fun h => G3 s hs h)
theorem pc_lineBits {σ : qm_M} (G : pu_G σ) {s : Nat} (hs : s = 0 ∨ pu_t σ s = true) : ∃ L, fn_X3_lineBits σ 0 (nI s) = some L ∧ ∀ i, i < 32 → bt L i = pu_up (pu_par σ) 12 s i := by
  have key : ∀ m k L s, m + k = 12 → (s = 0 ∨ pu_t σ s = true) → ∃ L', qm_loop (fun x : Int32 × Int32 × Int32 => bb_X3_lineBits_7 σ 0 x.1 x.2.1 x.2.2) (m + 1 + (1000 - 13)) (L, nI s, nI k) = some L' ∧ ∀ i, i < 32 → bt L' i = (bt L i || pu_up (pu_par σ) m s i) := by
    intro m
    induction m with
    | zero =>
      intro k L s hk hs
      have hk : k = 12 := by omega
      subst hk
      refine ⟨L, ?_, fun i _ => by unfold pu_up; rw [Bool.or_false]⟩
      rw [show 0 + 1 + (1000 - 13) = 987 + 1 by omega]
      unfold qm_loop bb_X3_lineBits_7
      dsimp only
      rw [if_pos (by decide)]; rfl
    | succ m ih =>
      intro k L s hk hs
      rw [show m + 1 + 1 + (1000 - 13) = (m + 1 + (1000 - 13)) + 1 by omega]
      unfold qm_loop bb_X3_lineBits_7
      dsimp only
      rw [if_neg (by show ¬ nI 12 ≤ nI k; rw [pu_le (by omega) (by omega)]; omega)]
      by_cases h0 : s = 0
      · subst h0
        rw [if_pos (by rfl)]
        exact ⟨L, rfl, fun i _ => by unfold pu_up; rw [if_pos rfl, Bool.or_false]⟩
      · have ht := hs.resolve_left h0
        have hb := G.1 s ht
        have hg := G.2.1 s ht
        rw [if_neg (by show ¬ nI s = nI 0; rw [pu_eq (by omega) (by omega)]; exact h0)]
        simp only [Option.bind_some]
        rw [if_pos (pu_in (show s < 13 by omega) (by omega)), pu_clamp (by omega), pu_s1]
        obtain ⟨L', e1, e2⟩ := ih (k + 1) (L ||| 1 <<< (nI s &&& 31)) (pu_par σ s) (by omega) hg.2.2
        refine ⟨L', ?_, fun i hi => ?_⟩
        · rw [← hg.2.1] at e1
          exact e1
        · rw [e2 i hi, b_or, pu_bit (by omega) hi]
          conv => rhs; unfold pu_up
          rw [if_neg h0, Bool.or_assoc]
          congr 2
          exact decide_eq_decide.mpr ⟨fun h => h.symm, fun h => h.symm⟩
  obtain ⟨L, h1, h2⟩ := key 12 0 0 s rfl hs
  exact ⟨L, h1, fun i hi => by rw [h2 i hi, b_0, Bool.false_or]⟩
/-- below -/
def pu_bel (σ : qm_M) (x s : Nat) : Bool := pu_up (pu_par σ) 12 (pu_par σ x) s
theorem pm_isBelow {σ τ : qm_M} (h : RT σ (τ.2 211)) (G : pu_G σ) {x s : Nat} (hx : pu_t σ x = true) (h1 : 1 ≤ s) (h2 : s ≤ 12) : fn_X7_isBelow τ (nI x) (nI s) = some (pu_bel σ x s) := by
  have key : ∀ m q, (q = 0 ∨ pu_t σ q = true) → pu_it (pu_par σ) m q = 0 → ∀ n, m < n → qm_loop (fun y : Int32 => bb_X7_isBelow_2 τ (nI s) y) n (nI q) = some (if q = 0 then false else pu_up (pu_par σ) m (pu_par σ q) s) := by
    intro m
    induction m with
    | zero =>
      intro q _ hq n hn
      have hq : q = 0 := hq
      subst hq
      cases n with
      | zero => omega
      | succ n => unfold qm_loop bb_X7_isBelow_2; rw [if_pos (show nI 0 = 0 from rfl)]; rfl
    | succ m ih =>
      intro q hq hz n hn
      cases n with
      | zero => omega
      | succ n =>
        unfold qm_loop bb_X7_isBelow_2
        by_cases h0 : q = 0
        · subst h0; rw [if_pos (show nI 0 = 0 from rfl), if_pos rfl]; rfl
        · have ht := hq.resolve_left h0
          have hb := G.1 q ht
          have hg := G.2.1 q ht
          rw [if_neg (by show ¬ nI q = nI 0; rw [pu_eq (by omega) (by omega)]; exact h0), pm_parent h hb.1 hb.2 ht, hg.2.1, if_neg h0]
          simp only [Option.bind_some]
          have e := ih (pu_par σ q) hg.2.2 hz n (by omega)
          unfold pu_up
          by_cases hp : pu_par σ q = s
          · rw [if_pos (by rw [hp]), if_neg (by omega), decide_eq_true hp]; rfl
          · rw [if_neg (by rw [pu_eq (by omega) (by omega)]; exact hp), decide_eq_false hp, Bool.false_or]
            exact e
  obtain ⟨n, n1, n2, n3, -⟩ := pu_chain G hx
  have e := key n x (Or.inr hx) n3 1000 (by omega)
  have h0 : ¬ x = 0 := by have := (G.1 x hx).1; omega
  rw [if_neg h0] at e
  have e2 : fn_X7_isBelow τ (nI x) (nI s) = some (pu_up (pu_par σ) n (pu_par σ x) s) := e
  rw [e2]
  unfold pu_bel
  obtain ⟨k, rfl⟩ : ∃ k, n = k + 1 := ⟨n - 1, by omega⟩
  rw [pu_up_st k (k + 1) (pu_par σ x) s n3 (by omega), pu_up_st k 12 (pu_par σ x) s n3 (by omega)]
theorem pc_isBelow {σ : qm_M} (G : pu_G σ) {x s : Nat} (hx : pu_t σ x = true) (h2 : s ≤ 12) : fn_X3_isBelow σ 0 (nI x) (nI s) = some (pu_bel σ x s) := by
  unfold fn_X3_isBelow
  have hb := G.1 x hx
  by_cases e : x = s
  · subst e; rw [if_pos rfl]; unfold pu_bel; rw [pu_up_no G hx]
  · rw [if_neg (by rw [pu_eq (by omega) (by omega)]; exact e)]
    obtain ⟨L, l1, l2⟩ := pc_lineBits G (Or.inr hx)
    rw [l1, Option.bind_some, pu_has _ _ (by omega), Option.bind_some, l2 s (by omega)]
    have : pu_up (pu_par σ) 12 x s = pu_bel σ x s := by
      obtain ⟨n, n1, n2, n3, -⟩ := pu_chain G hx
      obtain ⟨k, rfl⟩ : ∃ k, n = k + 1 := ⟨n - 1, by omega⟩
      unfold pu_bel
      rw [show (12 : Nat) = 11 + 1 from rfl]
      conv => lhs; unfold pu_up
      rw [if_neg (by omega), decide_eq_false e, Bool.false_or, pu_up_st k 11 (pu_par σ x) s n3 (by omega), pu_up_st k (11 + 1) (pu_par σ x) s n3 (by omega)]
    rw [this]
    cases pu_bel σ x s
    · rw [pu_iff]
    · rw [pu_ift]
theorem pc_isBelow0 {σ : qm_M} (G : pu_G σ) {s : Nat} (h1 : 1 ≤ s) (h2 : s ≤ 12) : fn_X3_isBelow σ 0 (nI 0) (nI s) = some false := by
  unfold fn_X3_isBelow
  rw [if_neg (by rw [pu_eq (by omega) (by omega)]; omega)]
  obtain ⟨L, l1, l2⟩ := pc_lineBits G (Or.inl rfl)
  rw [l1, Option.bind_some, pu_has _ _ (by omega), Option.bind_some, l2 s (by omega)]
  rfl
