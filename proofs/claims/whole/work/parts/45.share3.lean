theorem pu_wf_12 {P : Nat → Bool} : ∀ (m j a : Nat), pu_fold (fun j a => if P j = true then a + 1 else a) m j a ≤ a + m
  | 0, _, a => Nat.le_refl _
  | m + 1, j, a => by
    unfold pu_fold
    have := pu_wf_12 (P := P) m (j + 1) (if P j = true then a + 1 else a)
    have h : (if P j = true then a + 1 else a) ≤ a + 1 := by split <;> omega
    omega
theorem pu_ws_12 (P : Nat → Bool) : pu_ws P (fun _ => 1) ≤ 12 := by
  have := pu_wf_12 (P := P) 12 1 0
  unfold pu_ws; omega
/-- the streams whose parent the line from s has not yet come by after i steps -/
def pu_U (σ : qm_M) (s i : Nat) : Nat := pu_ws (fun x => !pu_any (fun j => decide (pu_it (pu_par σ) (j + 1) s = pu_par σ x)) i) (fun _ => 1)
theorem pu_U_st {σ : qm_M} (G : pu_G σ) {s n : Nat} (n3 : pu_it (pu_par σ) n s = 0) (n4 : ∀ i, i < n → pu_t σ (pu_it (pu_par σ) i s) = true) {i : Nat} (hi : i < n) : pu_U σ s i = pu_ws (fun x => decide (pu_it (pu_par σ) (i + 1) s = pu_par σ x)) (fun _ => 1) + pu_U σ s (i + 1) := by
  unfold pu_U
  refine pu_ws_add (fun x x1 x2 => ?_)
  have e : pu_any (fun j => decide (pu_it (pu_par σ) (j + 1) s = pu_par σ x)) (i + 1) = (pu_any (fun j => decide (pu_it (pu_par σ) (j + 1) s = pu_par σ x)) i || decide (pu_it (pu_par σ) (i + 1) s = pu_par σ x)) := by
    rw [Bool.eq_iff_iff, pu_any_iff, Bool.or_eq_true, pu_any_iff]
    constructor
    · intro ⟨j, j1, j2⟩
      by_cases q : j = i
      · right; rw [q] at j2; exact j2
      · left; exact ⟨j, by omega, j2⟩
    · intro q
      rcases q with ⟨j, j1, j2⟩ | q
      · exact ⟨j, by omega, j2⟩
      · exact ⟨i, by omega, q⟩
  rw [e]
  by_cases q : pu_it (pu_par σ) (i + 1) s = pu_par σ x
  · have f : pu_any (fun j => decide (pu_it (pu_par σ) (j + 1) s = pu_par σ x)) i = false := by
      cases hh : pu_any (fun j => decide (pu_it (pu_par σ) (j + 1) s = pu_par σ x)) i with
      | false => rfl
      | true =>
        rw [pu_any_iff] at hh
        obtain ⟨j, j1, j2⟩ := hh
        have j2 := of_decide_eq_true j2
        exact absurd (j2.trans q.symm) (pu_it_ne G n3 n4 (show j + 1 < i + 1 by omega) (by omega))
    rw [f, decide_eq_true q]
    exact ⟨rfl, rfl⟩
  · rw [decide_eq_false q, Bool.or_false]
    refine ⟨by rw [Bool.false_or], rfl⟩
theorem pu_c16 {c : Nat} (h : 1 ≤ c) : 16 * c ≤ 8 * 2 ^ c := by
  obtain ⟨d, rfl⟩ : ∃ d, c = d + 1 := ⟨c - 1, by omega⟩
  have := Nat.lt_two_pow_self (n := d)
  rw [Nat.pow_succ]; omega
theorem pu_sh0 {B : Nat} {σ τ : qm_M} (h : RT σ (τ.2 211)) (w : WF B σ) (G : pu_G σ) {s : Nat} (hs : s ≤ 12) (L : Int32) : ∀ (m x : Nat), (x = 0 ∨ pu_t σ x = true) → pu_it (pu_par σ) m x = 0 → ∀ N, m < N → qm_loop (fun y : Int32 × qm_M => bb_X7_shares_22 y.2 (nI s) L y.1) N (nI x, pu_sc τ 0 1) = some (pu_sc τ 0 1) := by
  have fin : ∀ N, 0 < N → qm_loop (fun y : Int32 × qm_M => bb_X7_shares_22 y.2 (nI s) L y.1) N (nI 0, pu_sc τ 0 1) = some (pu_sc τ 0 1) := by
    intro N hN
    obtain ⟨N, rfl⟩ : ∃ k, N = k + 1 := ⟨N - 1, by omega⟩
    refine pu_inr ?_
    show bb_X7_shares_22 (pu_sc τ 0 1) (nI s) L (nI 0) = _
    unfold bb_X7_shares_22
    rw [if_pos (show nI 0 = 0 from rfl)]; rfl
  intro m
  induction m with
  | zero =>
    intro x _ hz N hN
    have hz : x = 0 := hz
    subst hz
    exact fin N (by omega)
  | succ m ih =>
    intro x hx hz N hN
    by_cases x0 : x = 0
    · subst x0; exact fin N (by omega)
    · have tx := hx.resolve_left x0
      obtain ⟨N, rfl⟩ : ∃ k, N = k + 1 := ⟨N - 1, by omega⟩
      rw [← ih (pu_par σ x) (G.c x tx) hz N (by omega)]
      refine pu_inl ?_
      show bb_X7_shares_22 (pu_sc τ 0 1) (nI s) L (nI x) = _
      rw [pm_shstep h w G hs tx (by omega) (by omega) (by omega)]
      have e0 : (if x ≠ s ∧ pu_can σ x = true then 0 else 0 * pu_w σ x) = 0 := by split <;> simp
      have S1 := pu_S1_b (pu_S_le w L (pu_par σ x))
      rw [e0, Nat.gcd_zero_left, Nat.one_mul, Nat.zero_div, Nat.div_self (by omega)]
theorem pu_share1 {B : Nat} {σ τ : qm_M} (h : RT σ (τ.2 211)) (w : WF B σ) (G : pu_G σ) {s n : Nat} (hs : s ≤ 12) {L : Int32} (hL : ∀ i, 1 ≤ i → i ≤ 12 → bt L i = pu_live σ i) (n2 : n ≤ 12) (n3 : pu_it (pu_par σ) n s = 0) (n4 : ∀ i, i < n → pu_t σ (pu_it (pu_par σ) i s) = true) (lv : ∀ i, i < n → pu_live σ (pu_it (pu_par σ) i s) = true) (v2 : Int32) :
    ∀ (m i A Bl : Nat), i + m = n → 1 ≤ A → A ≤ 16 ^ i → 1 ≤ Bl → Bl * 2 ^ pu_U σ s i ≤ 2 ^ (3 * i + 12) →
      ((∀ j, i ≤ j → j < n → pu_it (pu_par σ) j s ≠ s → pu_can σ (pu_it (pu_par σ) j s) = false) → ∃ A' B', 1 ≤ A' ∧ A' ≤ 2 ^ 50 ∧ 1 ≤ B' ∧ B' ≤ 2 ^ 50 ∧ (∀ N, m < N → qm_loop (fun y : Int64 × Int64 × Int32 × Int32 => bb_X1_term_63 σ 0 v2 L y.1 y.2.1 y.2.2.1 y.2.2.2) N (lN A, lN Bl, nI (pu_it (pu_par σ) i s), nI i) = bb_X1_term_123 σ v2 (lN A') (lN B')) ∧ ∀ N, m < N → qm_loop (fun y : Int32 × qm_M => bb_X7_shares_22 y.2 (nI s) L y.1) N (nI (pu_it (pu_par σ) i s), pu_sc τ (A / Nat.gcd A Bl) (Bl / Nat.gcd A Bl)) = some (pu_sc τ (A' / Nat.gcd A' B') (B' / Nat.gcd A' B'))) ∧
      ((∃ j, i ≤ j ∧ j < n ∧ pu_it (pu_par σ) j s ≠ s ∧ pu_can σ (pu_it (pu_par σ) j s) = true) → ∀ N, m < N → qm_loop (fun y : Int32 × qm_M => bb_X7_shares_22 y.2 (nI s) L y.1) N (nI (pu_it (pu_par σ) i s), pu_sc τ (A / Nat.gcd A Bl) (Bl / Nat.gcd A Bl)) = some (pu_sc τ 0 1)) := by
  have p50 : ∀ i, i ≤ 12 → 16 ^ i ≤ 2 ^ 48 := fun i hi => Nat.le_trans (Nat.pow_le_pow_right (by omega) hi) (by decide)
  have q50 : ∀ i, i ≤ 12 → 2 ^ (3 * i + 12) ≤ 2 ^ 48 := fun i hi => Nat.pow_le_pow_right (by omega) (by omega)
  intro m
  induction m with
  | zero =>
    intro i A Bl hi a1 a2 b1 b2
    have hi : i = n := by omega
    subst hi
    have bb : Bl ≤ 2 ^ 48 := Nat.le_trans (Nat.le_trans (Nat.le_mul_of_pos_right Bl (Nat.two_pow_pos _)) b2) (q50 i n2)
    have aa := Nat.le_trans a2 (p50 i n2)
    refine ⟨fun _ => ⟨A, Bl, a1, by omega, b1, by omega, fun N hN => ?_, fun N hN => ?_⟩, fun ⟨j, j1, j2, _⟩ => absurd j2 (by omega)⟩
    · rw [n3]
      obtain ⟨N, rfl⟩ : ∃ k, N = k + 1 := ⟨N - 1, by omega⟩
      refine pu_inb ?_
      show bb_X1_term_63 σ 0 v2 L (lN A) (lN Bl) (nI 0) (nI i) = _
      unfold bb_X1_term_63
      rw [if_pos (show nI 0 = 0 from rfl)]
      split <;> rfl
    · rw [n3]
      obtain ⟨N, rfl⟩ : ∃ k, N = k + 1 := ⟨N - 1, by omega⟩
      refine pu_inr ?_
      show bb_X7_shares_22 _ (nI s) L (nI 0) = _
      unfold bb_X7_shares_22
      rw [if_pos (show nI 0 = 0 from rfl)]; rfl
  | succ m ih =>
    intro i A Bl hi a1 a2 b1 b2
    have hin : i < n := by omega
    have tx := n4 i hin
    have bx := G.1 _ tx
    have gx := G.2.1 _ tx
    have lx := lv i hin
    have wx := pu_wI w bx.1 bx.2 tx
    have px : pu_par σ (pu_it (pu_par σ) i s) = pu_it (pu_par σ) (i + 1) s := (pu_it_s _ i s).symm
    have bb : Bl ≤ 2 ^ 48 := Nat.le_trans (Nat.le_trans (Nat.le_mul_of_pos_right Bl (Nat.two_pow_pos _)) b2) (q50 i (by omega))
    have aa := Nat.le_trans a2 (p50 i (by omega))
    have g0 : 0 < Nat.gcd A Bl := Nat.gcd_pos_of_pos_left _ (by omega)
    have ad : A / Nat.gcd A Bl ≤ 2 ^ 50 := Nat.le_trans (Nat.div_le_self _ _) (by omega)
    have bd : Bl / Nat.gcd A Bl ≤ 2 ^ 50 := Nat.le_trans (Nat.div_le_self _ _) (by omega)
    have bd1 : 1 ≤ Bl / Nat.gcd A Bl := Nat.div_pos (Nat.gcd_le_right _ (by omega)) g0
    -- the sum
    have SL := pu_S_le w L (pu_it (pu_par σ) (i + 1) s)
    have S1 : 1 ≤ pu_S σ L (pu_it (pu_par σ) (i + 1) s) := by
      refine Nat.le_trans wx.1 (pu_ws_ge (P := fun j => bt L j && pu_ch σ (nI (pu_it (pu_par σ) (i + 1) s)) j) (fun k k1 k2 hk => ?_) bx.1 bx.2 ?_)
      · rw [Bool.and_eq_true] at hk
        have h2 : (bt (σ.1 0 1) k && _) = true := hk.2
        rw [Bool.and_eq_true] at h2
        exact (pu_wI w k1 k2 h2.1).2.1
      · rw [hL _ bx.1 bx.2, lx, Bool.true_and]
        show (bt (σ.1 0 1) _ && decide (σ.1 (2 + pu_it (pu_par σ) i s) 0 = _)) = true
        have tx' : bt (σ.1 0 1) (pu_it (pu_par σ) i s) = true := tx
        rw [tx', gx.2.1, px, decide_eq_true rfl]; rfl
    have SU := pu_U_st G n3 n4 hin
    generalize hc : pu_ws (fun x => decide (pu_it (pu_par σ) (i + 1) s = pu_par σ x)) (fun _ => 1) = c at SU
    have Sc : pu_S σ L (pu_it (pu_par σ) (i + 1) s) ≤ 16 * c := by
      rw [← hc]
      refine pu_ws_mono (fun k k1 k2 hk => ?_)
      rw [Bool.and_eq_true] at hk
      have h2 : (bt (σ.1 0 1) k && decide (σ.1 (2 + k) 0 = nI (pu_it (pu_par σ) (i + 1) s))) = true := hk.2
      rw [Bool.and_eq_true] at h2
      have gk := G.2.1 k h2.1
      have e := of_decide_eq_true h2.2
      have b12 : pu_it (pu_par σ) (i + 1) s ≤ 12 := by rw [← px]; exact gx.1
      rw [gk.2.1, pu_eq (by omega) (by omega)] at e
      exact ⟨decide_eq_true e.symm, (pu_wI w k1 k2 h2.1).2.1⟩
    have c1 : 1 ≤ c := by omega
    have hS1 : pu_S1 (pu_S σ L (pu_it (pu_par σ) (i + 1) s)) = pu_S σ L (pu_it (pu_par σ) (i + 1) s) := by unfold pu_S1; rw [if_neg (by omega)]
    have step := pm_shstep h w G hs (L := L) tx ad bd bd1
    rw [px, hS1] at step
    have eqA : ∀ X Y, (A / Nat.gcd A Bl * X) / Nat.gcd (A / Nat.gcd A Bl * X) (Bl / Nat.gcd A Bl * Y) = (A * X) / Nat.gcd (A * X) (Bl * Y) ∧ (Bl / Nat.gcd A Bl * Y) / Nat.gcd (A / Nat.gcd A Bl * X) (Bl / Nat.gcd A Bl * Y) = (Bl * Y) / Nat.gcd (A * X) (Bl * Y) := by
      intro X Y
      have e1 : A * X = Nat.gcd A Bl * (A / Nat.gcd A Bl * X) := by rw [← Nat.mul_assoc, Nat.mul_div_cancel' (Nat.gcd_dvd_left A Bl)]
      have e2 : Bl * Y = Nat.gcd A Bl * (Bl / Nat.gcd A Bl * Y) := by rw [← Nat.mul_assoc, Nat.mul_div_cancel' (Nat.gcd_dvd_right A Bl)]
      constructor
      · conv => rhs; rw [e1, e2]
        rw [Nat.gcd_mul_left, Nat.mul_div_mul_left _ _ g0]
      · conv => rhs; rw [e1, e2]
        rw [Nat.gcd_mul_left, Nat.mul_div_mul_left _ _ g0]
    have ih1 := ih (i + 1) (A * pu_w σ (pu_it (pu_par σ) i s)) (Bl * pu_S σ L (pu_it (pu_par σ) (i + 1) s)) (by omega) (Nat.mul_le_mul a1 wx.1) (by rw [Nat.pow_succ]; exact Nat.mul_le_mul a2 wx.2.1) (Nat.mul_le_mul b1 S1) (by
      have k1 : pu_S σ L (pu_it (pu_par σ) (i + 1) s) ≤ 8 * 2 ^ c := Nat.le_trans Sc (pu_c16 c1)
      have k2 : Bl * pu_S σ L (pu_it (pu_par σ) (i + 1) s) * 2 ^ pu_U σ s (i + 1) ≤ Bl * (8 * 2 ^ c) * 2 ^ pu_U σ s (i + 1) := Nat.mul_le_mul_right _ (Nat.mul_le_mul_left _ k1)
      have k3 : Bl * (8 * 2 ^ c) * 2 ^ pu_U σ s (i + 1) = 8 * (Bl * 2 ^ pu_U σ s i) := by
        rw [SU, Nat.pow_add, ← Nat.mul_assoc, ← Nat.mul_assoc, ← Nat.mul_assoc, Nat.mul_comm Bl 8]
      have k4 : 8 * (Bl * 2 ^ pu_U σ s i) ≤ 8 * 2 ^ (3 * i + 12) := Nat.mul_le_mul_left _ b2
      have k5 : 8 * 2 ^ (3 * i + 12) = 2 ^ (3 * (i + 1) + 12) := by
        rw [show 3 * (i + 1) + 12 = 3 + (3 * i + 12) by omega, Nat.pow_add 2 3]
      rw [← k5]; omega)
    refine ⟨fun hg => ?_, fun ⟨j, j1, j2, j3, j4⟩ N hN => ?_⟩
    · obtain ⟨A', B', r1, r2, r3, r4, r5, r6⟩ := ih1.1 (fun j j1 j2 => hg j (by omega) j2)
      refine ⟨A', B', r1, r2, r3, r4, fun N hN => ?_, fun N hN => ?_⟩
      · obtain ⟨N, rfl⟩ : ∃ k, N = k + 1 := ⟨N - 1, by omega⟩
        rw [← r5 N (by omega)]
        refine pu_inl ?_
        show bb_X1_term_63 σ 0 v2 L (lN A) (lN Bl) (nI (pu_it (pu_par σ) i s)) (nI i) = _
        unfold bb_X1_term_63
        rw [if_neg (show ¬ (12 : Int32) ≤ nI i by show ¬ nI 12 ≤ nI i; rw [pu_le (by omega) (by omega)]; omega), if_neg (show ¬ nI (pu_it (pu_par σ) i s) = 0 by show ¬ _ = nI 0; rw [pu_eq (by omega) (by omega)]; omega), if_pos (pu_in (show pu_it (pu_par σ) i s < 13 by omega) (by omega)), Option.bind_some, if_pos (pu_in (show pu_it (pu_par σ) i s < 13 by omega) (by omega)), pu_clamp (by omega), show 0 + 1 + 1 + pu_it (pu_par σ) i s = 2 + pu_it (pu_par σ) i s by omega, wx.2.2, gx.2.1, px, pu_nI64 (by omega), lN_mul]
        simp only [Option.bind_some]
        rw [pc_childWeights w _ _ (P := fun j => bt L j && pu_ch σ (nI (pu_it (pu_par σ) (i + 1) s)) j) (fun _ _ _ => rfl), Option.bind_some, pu_s1]
        have e : (nI (pu_ws (fun j => bt L j && pu_ch σ (nI (pu_it (pu_par σ) (i + 1) s)) j) (pu_w σ))).toInt64 = lN (pu_S σ L (pu_it (pu_par σ) (i + 1) s)) := pu_nI64 (by have : pu_ws (fun j => bt L j && pu_ch σ (nI (pu_it (pu_par σ) (i + 1) s)) j) (pu_w σ) ≤ 192 := SL; omega)
        rw [e, lN_mul]
      · obtain ⟨N, rfl⟩ : ∃ k, N = k + 1 := ⟨N - 1, by omega⟩
        rw [← r6 N (by omega)]
        refine pu_inl ?_
        have f0 : (if pu_it (pu_par σ) i s ≠ s ∧ pu_can σ (pu_it (pu_par σ) i s) = true then 0 else A / Nat.gcd A Bl * pu_w σ (pu_it (pu_par σ) i s)) = A / Nat.gcd A Bl * pu_w σ (pu_it (pu_par σ) i s) := if_neg (fun q => by
          have := hg i (Nat.le_refl _) hin q.1
          rw [q.2] at this; cases this)
        rw [f0] at step
        obtain ⟨q1, q2⟩ := eqA (pu_w σ (pu_it (pu_par σ) i s)) (pu_S σ L (pu_it (pu_par σ) (i + 1) s))
        rw [q1, q2] at step
        exact step
    · obtain ⟨N, rfl⟩ : ∃ k, N = k + 1 := ⟨N - 1, by omega⟩
      by_cases q : pu_it (pu_par σ) i s ≠ s ∧ pu_can σ (pu_it (pu_par σ) i s) = true
      · rw [if_pos q, Nat.gcd_zero_left, Nat.zero_div, Nat.div_self (Nat.mul_pos (by omega) (by omega))] at step
        rw [pu_inl step]
        exact pu_sh0 h w G hs L (n - (i + 1)) _ (by
          rcases Nat.lt_or_ge (i + 1) n with l | l
          · exact Or.inr (n4 _ l)
          · left; rw [show i + 1 = n by omega]; exact n3) (by rw [← pu_it_add, show i + 1 + (n - (i + 1)) = n by omega]; exact n3) N (by omega)
      · have ji : j ≠ i := fun e => q (by rw [← e]; exact ⟨j3, j4⟩)
        rw [if_neg q] at step
        obtain ⟨q1, q2⟩ := eqA (pu_w σ (pu_it (pu_par σ) i s)) (pu_S σ L (pu_it (pu_par σ) (i + 1) s))
        rw [q1, q2] at step
        rw [pu_inl step]
        exact ih1.2 ⟨j, by omega, j2, j3, j4⟩ N (by omega)
theorem Inv.sc {B : Nat} {σ τ : qm_M} (h : Inv B σ τ) (a b : Nat) : Inv B σ (pu_sc τ a b) := by
  obtain ⟨h1, h2, h3, h4, h5⟩ := h
  refine ⟨by rw [pu_sc_211]; exact h1, h2, h3.cong (fun _ _ _ => ⟨rfl, rfl⟩) rfl rfl ?_ rfl, h4, h5⟩
  funext k; unfold pu_sc; dsimp only; rw [if_neg (by omega), if_neg (by omega)]
theorem Fm.sc (τ : qm_M) (a b : Nat) : Fm τ (pu_sc τ a b) := by
  intro id hid
  refine ⟨rfl, ?_⟩
  funext k; unfold pu_sc; dsimp only; rw [if_neg (by omega), if_neg (by omega)]
theorem pu_term {B : Nat} {σ τ : qm_M} (h : RT σ (τ.2 211)) (w : WF B σ) {s : Nat} (ht : pu_t σ s = true) : ∃ a b, fn_X1_term σ 0 (nI s) 1 = some (lN a) ∧ fn_X1_term σ 0 (nI s) 0 = some (lN b) ∧ fn_X7_shares τ (nI s) = some (pu_sc τ a b) := by
  have G := pu_G.of h w
  have hs := G.1 s ht
  obtain ⟨n, n1, n2, n3, n4⟩ := pu_chain G ht
  obtain ⟨line, l1, l2⟩ := pc_lineBits G (Or.inr ht)
  have hC : ∀ i, 1 ≤ i → i ≤ 12 → bt (pu_set (pu_can σ)) i = pu_can σ i := fun i a b => pu_setl a b
  have hL : ∀ i, 1 ≤ i → i ≤ 12 → bt (pu_set (pu_live σ)) i = pu_live σ i := fun i a b => pu_setl a b
  have nz : ∀ i, i < n → pu_it (pu_par σ) i s ≠ 0 := fun i hi => G.z _ (n4 i hi)
  have term : ∀ v2, fn_X1_term σ 0 (nI s) v2 = if qm_b (pu_live σ s) = 0 then bb_X1_term_41 σ v2 else if ((line &&& ((1 <<< (nI s &&& 31)) ^^^ (-1))) &&& pu_set (pu_can σ)) = 0 then lp_X1_term_63 σ 0 v2 (pu_set (pu_live σ)) 1 1 (nI s) 0 else bb_X1_term_41 σ v2 := by
    intro v2
    unfold fn_X1_term
    rw [pc_canBits, Option.bind_some, pc_liveBits G, Option.bind_some, l1, Option.bind_some, pu_has _ _ (by omega), hL s hs.1 hs.2, Option.bind_some]
  have shares : fn_X7_shares τ (nI s) = qm_loop (fun y : Int32 × qm_M => bb_X7_shares_22 y.2 (nI s) (pu_set (pu_live σ)) y.1) 1000 (nI s, pu_sc τ (if pu_live σ s = true then 1 else 0) 1) := by
    unfold fn_X7_shares
    rw [pm_liveSet h w, Option.bind_some, pu_bit1 _ (by omega), hL s hs.1 hs.2]
    simp only [Option.bind_some]
    rw [pu_nI64 (by split <;> omega), show (1 : Int64) = lN 1 from rfl, pu_sc_0]; rfl
  rw [term 1, term 0, shares]
  cases hl : pu_live σ s
  · rw [pu_iff, pu_iff, if_neg (show ¬ (false = true) by decide)]
    refine ⟨0, 1, rfl, rfl, pu_sh0 h w G hs.2 _ n s (Or.inr ht) n3 1000 (by omega)⟩
  · rw [pu_ift, pu_ift, if_pos rfl]
    obtain ⟨jc, j1, j2, j3⟩ := pu_live_ex hl
    have lv : ∀ i, i < n → pu_live σ (pu_it (pu_par σ) i s) = true := by
      intro i hi
      have u : pu_ln σ s (pu_it (pu_par σ) i s) = true := pu_up_it i 12 s (by omega) (fun k hk => nz k (by omega))
      have v := pu_ln_tr G (pu_can_t j2) j3 u
      rw [show pu_live σ (pu_it (pu_par σ) i s) = pu_any (fun s' => pu_can σ s' && pu_ln σ s' (pu_it (pu_par σ) i s)) 13 from rfl, pu_any_iff]
      exact ⟨jc, by omega, by show (pu_can σ jc && pu_ln σ jc _) = true; rw [j2, v]; rfl⟩
    have start : ∀ v2, _ := fun v2 => pu_share1 h w G hs.2 hL n2 n3 n4 lv v2 n 0 1 1 (by omega) (by omega) (by omega) (by omega) (by rw [Nat.one_mul]; exact Nat.pow_le_pow_right (by omega) (by have := pu_ws_12 (fun x => !pu_any (fun j => decide (pu_it (pu_par σ) (j + 1) s = pu_par σ x)) 0); unfold pu_U; omega))
    have m11 : pu_sc τ (1 / Nat.gcd 1 1) (1 / Nat.gcd 1 1) = pu_sc τ 1 1 := by rw [show 1 / Nat.gcd 1 1 = 1 by decide]
    by_cases hz : ((line &&& ((1 <<< (nI s &&& 31)) ^^^ (-1))) &&& pu_set (pu_can σ)) = 0
    · rw [if_pos hz, if_pos hz]
      have good : ∀ j, 0 ≤ j → j < n → pu_it (pu_par σ) j s ≠ s → pu_can σ (pu_it (pu_par σ) j s) = false := by
        intro j _ jn jne
        have bj := G.1 _ (n4 j jn)
        cases hc : pu_can σ (pu_it (pu_par σ) j s) with
        | false => rfl
        | true =>
          have e : bt ((line &&& ((1 <<< (nI s &&& 31)) ^^^ (-1))) &&& pu_set (pu_can σ)) (pu_it (pu_par σ) j s) = true := by
            rw [b_and, b_and, l2 _ (by omega), pu_nbit (by omega) (by omega), hC _ bj.1 bj.2, hc, decide_eq_false jne, pu_up_it j 12 s (by omega) (fun k hk => nz k (by omega))]; rfl
          rw [hz, b_0] at e; cases e
      obtain ⟨A, Bb, r1, r2, r3, r4, r5, r6⟩ := (start 1).1 good
      obtain ⟨A', Bb', r1', r2', r3', r4', r5', r6'⟩ := (start 0).1 good
      have g0 : 0 < Nat.gcd A Bb := Nat.gcd_pos_of_pos_left _ (by omega)
      have g1 : Nat.gcd A Bb ≤ A := Nat.gcd_le_left _ (by omega)
      have g0' : 0 < Nat.gcd A' Bb' := Nat.gcd_pos_of_pos_left _ (by omega)
      have g1' : Nat.gcd A' Bb' ≤ A' := Nat.gcd_le_left _ (by omega)
      have m1 := r6 1000 (by omega)
      have m2 := r6' 1000 (by omega)
      have p1 : lp_X1_term_63 σ 0 1 (pu_set (pu_live σ)) 1 1 (nI s) 0 = bb_X1_term_123 σ 1 (lN A) (lN Bb) := r5 1000 (by omega)
      have p2 : lp_X1_term_63 σ 0 0 (pu_set (pu_live σ)) 1 1 (nI s) 0 = bb_X1_term_123 σ 0 (lN A') (lN Bb') := r5' 1000 (by omega)
      rw [m11] at m1 m2
      have eq : pu_sc τ (A / Nat.gcd A Bb) (Bb / Nat.gcd A Bb) = pu_sc τ (A' / Nat.gcd A' Bb') (Bb' / Nat.gcd A' Bb') := Option.some.inj (m1.symm.trans m2)
      have e5 : lN (Bb' / Nat.gcd A' Bb') = lN (Bb / Nat.gcd A Bb) := by
        rw [← pu_sc_5 τ (A / Nat.gcd A Bb) (Bb / Nat.gcd A Bb), eq, pu_sc_5]
      refine ⟨A / Nat.gcd A Bb, Bb / Nat.gcd A Bb, ?_, ?_, m1⟩
      · rw [p1]
        unfold bb_X1_term_123 fn_X6_cut
        rw [if_neg (by decide), pc_gcd' σ (by omega) (by omega), Option.bind_some, if_pos (by rw [lg_cmp_ge, show (1 : Int64) = lN 1 from rfl, pk_lLE (by omega) (by omega)]; omega), if_pos (by rw [show (0 : Int64) = lN 0 from rfl, pk_lEQ (by omega) (by omega)]; omega), pk_lDiv (by omega) g0 (by omega)]; rfl
      · rw [p2, ← e5]
        unfold bb_X1_term_123 fn_X6_cut
        rw [if_pos rfl, pc_gcd' σ (by omega) (by omega), Option.bind_some, if_pos (by rw [lg_cmp_ge, show (1 : Int64) = lN 1 from rfl, pk_lLE (by omega) (by omega)]; omega), if_pos (by rw [show (0 : Int64) = lN 0 from rfl, pk_lEQ (by omega) (by omega)]; omega), pk_lDiv (by omega) g0' (by omega)]; rfl
    · rw [if_neg hz, if_neg hz]
      have ex : ∃ i, i < 32 ∧ bt ((line &&& ((1 <<< (nI s &&& 31)) ^^^ (-1))) &&& pu_set (pu_can σ)) i = true := by
        refine Classical.byContradiction fun hn => hz (b_ext (fun i hi => ?_))
        rw [b_0]
        cases hh : bt ((line &&& ((1 <<< (nI s &&& 31)) ^^^ (-1))) &&& pu_set (pu_can σ)) i with
        | false => rfl
        | true => exact absurd ⟨i, hi, hh⟩ hn
      obtain ⟨i, i1, i2⟩ := ex
      rw [b_and, b_and, l2 i i1, pu_nbit (by omega) i1, pu_set_bt _ i1, Bool.and_eq_true, Bool.and_eq_true, Bool.and_eq_true] at i2
      obtain ⟨⟨i3, i4⟩, i5, i6⟩ := i2
      obtain ⟨k, k1, k2, k3⟩ := pu_up_ix 12 s i i3
      have kn : k < n := by
        rcases Nat.lt_or_ge k n with q | q
        · exact q
        · exact absurd n3 (k3 n q)
      have ine : i ≠ s := fun e => by rw [decide_eq_true e] at i4; cases i4
      have m1 := (start 0).2 ⟨k, by omega, kn, by rw [k2]; exact ine, by rw [k2]; exact i6⟩ 1000 (by omega)
      rw [m11] at m1
      exact ⟨0, 1, rfl, rfl, m1⟩
theorem pu_share {B : Nat} {σ τ : qm_M} (h : Inv B σ τ) (v k : Int32) : Sim B σ τ (fn_X6_share σ v k) (fn_X7_share τ v k) := by
  have hbad : Sim B σ τ ((fn_X6_refuse σ (-2)).bind fun r => some (r.1.toInt64, r.2)) ((fn_X7_refuses τ (-2)).bind fun r => some (r.1.toInt64, r.2)) := (Sim.bad h).map (fun x => x.toInt64)
  unfold fn_X6_share fn_X7_share
  rw [pc_isThere, pm_isStream h.1, pu_c_within, pu_m_in τ k 0 1 0 1 rfl rfl]
  simp only [Option.bind_some]
  cases ht : pu_th σ v
  · rw [pu_iff, pu_iff]; exact hbad
  · rw [pu_ift, pu_ift]
    obtain ⟨s, h1, h2, rfl, hs⟩ := pu_th_t ht
    rcases pu_al01 (v := k) with ⟨q, hq, rfl, hb⟩ | hb
    · rw [hb, pu_ift, pu_ift]
      obtain ⟨a, b, t1, t2, t3⟩ := pu_term h.1 h.2.1 (s := s) hs
      rw [t1, t2, t3]
      simp only [Option.bind_some]
      match q, hq with
      | 0, _ =>
        rw [if_pos (show nI 0 = 0 from rfl), if_pos (show nI 0 = 0 from rfl), pu_sc_4]
        exact ⟨lN a, σ, pu_sc τ a b, rfl, rfl, h.sc a b, Fc.rf σ, Fm.sc τ a b⟩
      | 1, _ =>
        rw [if_neg (show ¬ nI 1 = 0 by decide), if_neg (show ¬ nI 1 = 0 by decide), pu_sc_5]
        exact ⟨lN b, σ, pu_sc τ a b, rfl, rfl, h.sc a b, Fc.rf σ, Fm.sc τ a b⟩
    · rw [hb, pu_iff, pu_iff]; exact hbad
