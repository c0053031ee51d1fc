def pu_sc (τ : qm_M) (a b : Nat) : qm_M := (τ.1, fun id k => if id = 210 ∧ k = 4 then lN a else if id = 210 ∧ k = 5 then lN b else τ.2 id k)
theorem pu_sc_211 (τ : qm_M) (a b : Nat) : (pu_sc τ a b).2 211 = τ.2 211 := by
  funext k; unfold pu_sc; dsimp only; rw [if_neg (by omega), if_neg (by omega)]
theorem pu_sc_4 (τ : qm_M) (a b : Nat) : (pu_sc τ a b).2 210 4 = lN a := by
  unfold pu_sc; dsimp only; rw [if_pos ⟨rfl, rfl⟩]
theorem pu_sc_5 (τ : qm_M) (a b : Nat) : (pu_sc τ a b).2 210 5 = lN b := by
  unfold pu_sc; dsimp only; rw [if_neg (by omega), if_pos ⟨rfl, rfl⟩]
theorem pu_sc_s4 (τ : qm_M) (a b c : Nat) : qm_sl (pu_sc τ a b) 210 4 (lN c) = pu_sc τ c b := by
  refine Prod.ext rfl ?_
  funext id k
  unfold pu_sc qm_sl
  dsimp only
  by_cases h : id = 210 ∧ k = 4
  · rw [if_pos h, if_pos h]
  · rw [if_neg h, if_neg h, if_neg h]
theorem pu_sc_s5 (τ : qm_M) (a b c : Nat) : qm_sl (pu_sc τ a b) 210 5 (lN c) = pu_sc τ a c := by
  refine Prod.ext rfl ?_
  funext id k
  unfold pu_sc qm_sl
  dsimp only
  by_cases h : id = 210 ∧ k = 5
  · rw [if_pos h, if_neg (by omega), if_pos h]
  · rw [if_neg h, if_neg h, if_neg h]
theorem pu_sc_0 (τ : qm_M) (a b : Nat) : qm_sl (qm_sl τ 210 4 (lN a)) 210 5 (lN b) = pu_sc τ a b := by
  refine Prod.ext rfl ?_
  funext id k
  unfold pu_sc qm_sl
  dsimp only
  by_cases h : id = 210 ∧ k = 5
  · rw [if_pos h, if_neg (by omega), if_pos h]
  · rw [if_neg h, if_neg h]
abbrev pu_S (σ : qm_M) (L : Int32) (p : Nat) : Nat := pu_ws (fun j => bt L j && pu_ch σ (nI p) j) (pu_w σ)
theorem pu_S_le {B : Nat} {σ : qm_M} (w : WF B σ) (L : Int32) (p : Nat) : pu_S σ L p ≤ 192 := by
  refine pu_ws_le (fun i i1 i2 hi => ?_)
  rw [Bool.and_eq_true] at hi
  have h2 : (bt (σ.1 0 1) i && decide (σ.1 (2 + i) 0 = nI p)) = true := hi.2
  rw [Bool.and_eq_true] at h2
  exact (pu_wI w i1 i2 h2.1).2.1
def pu_S1 (n : Nat) : Nat := if n = 0 then 1 else n
theorem pu_S1_b {n : Nat} (h : n ≤ 192) : 1 ≤ pu_S1 n ∧ pu_S1 n ≤ 192 := by unfold pu_S1; split <;> omega
theorem pm_shstep {B : Nat} {σ τ : qm_M} (h : RT σ (τ.2 211)) (w : WF B σ) (G : pu_G σ) {s : Nat} (hs : s ≤ 12) {L : Int32} {x : Nat} (hx : pu_t σ x = true) {a b : Nat} (ha : a ≤ 2 ^ 50) (hb : b ≤ 2 ^ 50) (hb0 : 1 ≤ b) :
    bb_X7_shares_22 (pu_sc τ a b) (nI s) L (nI x) = some (.inl (nI (pu_par σ x), pu_sc τ ((if x ≠ s ∧ pu_can σ x = true then 0 else a * pu_w σ x) / Nat.gcd (if x ≠ s ∧ pu_can σ x = true then 0 else a * pu_w σ x) (b * pu_S1 (pu_S σ L (pu_par σ x)))) ((b * pu_S1 (pu_S σ L (pu_par σ x))) / Nat.gcd (if x ≠ s ∧ pu_can σ x = true then 0 else a * pu_w σ x) (b * pu_S1 (pu_S σ L (pu_par σ x)))))) := by
  have bx := G.1 x hx
  have gx := G.2.1 x hx
  have wx := pu_wI w bx.1 bx.2 hx
  have hR : ∀ a b, RT σ ((pu_sc τ a b).2 211) := fun a b => by rw [pu_sc_211]; exact h
  have SL := pu_S_le w L (pu_par σ x)
  have S1b := pu_S1_b SL
  have aw : a * pu_w σ x ≤ 2 ^ 54 := Nat.le_trans (Nat.mul_le_mul ha wx.2.1) (by decide)
  have bs : b * pu_S1 (pu_S σ L (pu_par σ x)) ≤ 2 ^ 58 := Nat.le_trans (Nat.mul_le_mul hb S1b.2) (by decide)
  have bs1 : 1 ≤ b * pu_S1 (pu_S σ L (pu_par σ x)) := Nat.mul_le_mul hb0 S1b.1
  -- the end of a step
  have e135 : ∀ c, c ≤ 2 ^ 54 → bb_X7_shares_114 (pu_sc τ a b) (nI s) L (nI x) (lN (pu_S σ L (pu_par σ x))) (lN c) = some (.inl (nI (pu_par σ x), pu_sc τ (c / Nat.gcd c (b * pu_S1 (pu_S σ L (pu_par σ x)))) ((b * pu_S1 (pu_S σ L (pu_par σ x))) / Nat.gcd c (b * pu_S1 (pu_S σ L (pu_par σ x)))))) := by
    intro c hc
    have step : ∀ d, d = pu_S1 (pu_S σ L (pu_par σ x)) → bb_X7_shares_135 (pu_sc τ c b) (nI s) L (nI x) (lN d) (lN b) = some (.inl (nI (pu_par σ x), pu_sc τ (c / Nat.gcd c (b * pu_S1 (pu_S σ L (pu_par σ x)))) ((b * pu_S1 (pu_S σ L (pu_par σ x))) / Nat.gcd c (b * pu_S1 (pu_S σ L (pu_par σ x)))))) := by
      intro d hd
      rw [← hd] at bs bs1 ⊢
      have g0 : 0 < Nat.gcd c (b * d) := Nat.gcd_pos_of_pos_right _ (by omega)
      have g1 : Nat.gcd c (b * d) ≤ b * d := Nat.gcd_le_right _ (by omega)
      unfold bb_X7_shares_135
      rw [lN_mul, pu_sc_s5]
      simp only [Option.bind_some]
      rw [pu_sc_4, pu_sc_5, pm_gcd' _ (show c < 2 ^ 63 by omega) (show b * d < 2 ^ 63 by omega)]
      simp only [Option.bind_some]
      have nz : ¬ lN (Nat.gcd c (b * d)) = 0 := by show ¬ lN _ = lN 0; rw [pk_lEQ (by omega) (by omega)]; omega
      rw [if_pos nz, if_pos nz, pk_lDiv (by omega) g0 (by omega), pu_sc_s4, pu_sc_5, pk_lDiv (by omega) g0 (by omega), pu_sc_s5, pm_parent (hR _ _) bx.1 bx.2 hx, gx.2.1]; rfl
    unfold bb_X7_shares_114
    rw [pu_sc_s4]
    simp only [Option.bind_some]
    rw [pu_sc_5]
    by_cases q : pu_S σ L (pu_par σ x) = 0
    · rw [q, if_pos (by decide)]
      have := step 1 (by unfold pu_S1; rw [if_pos q])
      rw [q] at this; exact this
    · rw [if_neg (by rw [lg_cmp_le, show (0 : Int64) = lN 0 from rfl, pk_lLE (by omega) (by omega)]; omega)]
      exact step _ (by unfold pu_S1; rw [if_neg q])
  -- the sum
  have lp : ∀ m j c n, j + m = 13 → 1 ≤ j → m < n → qm_loop (fun y : Int64 × Int32 => bb_X7_shares_32 (pu_sc τ a b) (nI s) L (nI x) y.1 y.2) n (lN c, nI j) = if nI x = nI s then (fn_X7_its (pu_sc τ a b) (nI x) 2).bind (fun r5 => bb_X7_shares_114 (pu_sc τ a b) (nI s) L (nI x) (lN (pu_fold (fun j a => if (bt L j && pu_ch σ (nI (pu_par σ x)) j) = true then a + pu_w σ j else a) m j c)) (((pu_sc τ a b).2 210 4) * r5)) else (fn_X7_can (pu_sc τ a b) (nI x)).bind (fun r15 => if (qm_b r15) = 0 then (fn_X7_its (pu_sc τ a b) (nI x) 2).bind (fun r16 => bb_X7_shares_114 (pu_sc τ a b) (nI s) L (nI x) (lN (pu_fold (fun j a => if (bt L j && pu_ch σ (nI (pu_par σ x)) j) = true then a + pu_w σ j else a) m j c)) (((pu_sc τ a b).2 210 4) * r16)) else bb_X7_shares_114 (pu_sc τ a b) (nI s) L (nI x) (lN (pu_fold (fun j a => if (bt L j && pu_ch σ (nI (pu_par σ x)) j) = true then a + pu_w σ j else a) m j c)) 0) := by
    intro m
    induction m with
    | zero =>
      intro j c n hj h1 hn
      obtain ⟨n, rfl⟩ : ∃ k, n = k + 1 := ⟨n - 1, by omega⟩
      have hj : j = 13 := by omega
      subst hj
      refine pu_inb ?_
      show bb_X7_shares_32 (pu_sc τ a b) (nI s) L (nI x) (lN c) (nI 13) = _
      unfold bb_X7_shares_32
      rw [if_pos pu_13]; rfl
    | succ m ih =>
      intro j c n hj h1 hn
      obtain ⟨n, rfl⟩ : ∃ k, n = k + 1 := ⟨n - 1, by omega⟩
      have h2 : j ≤ 12 := by omega
      unfold pu_fold
      rw [← ih (j + 1) (if (bt L j && pu_ch σ (nI (pu_par σ x)) j) = true then c + pu_w σ j else c) n (by omega) (by omega) (by omega)]
      refine pu_inl ?_
      show bb_X7_shares_32 (pu_sc τ a b) (nI s) L (nI x) (lN c) (nI j) = _
      unfold bb_X7_shares_32
      rw [if_neg (pu_h12 h2), pm_parent (hR a b) bx.1 bx.2 hx, Option.bind_some, gx.2.1, pm_isChild (hR a b) _ h1 h2, Option.bind_some]
      have z0 : lN c + 0 = lN c := by rw [show (0 : Int64) = lN 0 from rfl, lN_add, Nat.add_zero]
      cases hc : pu_ch σ (nI (pu_par σ x)) j
      · rw [pu_iff, Bool.and_false, if_neg (show ¬ (false = true) by decide), pu_s1, z0]; rfl
      · rw [pu_ift, Bool.and_true]
        have hcc : (bt (σ.1 0 1) j && decide (σ.1 (2 + j) 0 = nI (pu_par σ x))) = true := hc
        rw [Bool.and_eq_true] at hcc
        by_cases hl : bt L j = true
        · have wj := pu_wI w h1 h2 hcc.1
          have e2 : (pu_sc τ a b).2 211 (16 * j + 2) = (σ.1 (2 + j) 1).toInt64 := (hR a b).2.1 j 1 h1 h2 (by omega) hcc.1
          rw [if_pos hl, if_pos ((pu_tst L (by omega)).mpr hl), pu_its_2 _ h2, Option.bind_some, e2, wj.2.2, pu_nI64 (by omega), lN_add, pu_s1]; rfl
        · rw [if_neg hl, if_neg (fun q => hl ((pu_tst L (by omega)).mp q)), pu_s1, z0]; rfl
  unfold bb_X7_shares_22
  rw [if_neg (show ¬ nI x = 0 by show ¬ nI x = nI 0; rw [pu_eq (by omega) (by omega)]; omega)]
  have e32 := lp 12 1 0 1000 rfl (by omega) (by omega)
  have e32' : lp_X7_shares_32 (pu_sc τ a b) (nI s) L (nI x) 0 1 = _ := e32
  rw [e32']
  have fS : pu_fold (fun j a => if (bt L j && pu_ch σ (nI (pu_par σ x)) j) = true then a + pu_w σ j else a) 12 1 0 = pu_S σ L (pu_par σ x) := rfl
  have e2 : (pu_sc τ a b).2 211 (16 * x + 2) = lN (pu_w σ x) := by
    have : (pu_sc τ a b).2 211 (16 * x + 2) = (σ.1 (2 + x) 1).toInt64 := (hR a b).2.1 x 1 bx.1 bx.2 (by omega) hx
    rw [this, wx.2.2, pu_nI64 (by omega)]
  rw [fS, pu_its_2 _ bx.2, pu_sc_4, e2]
  simp only [Option.bind_some]
  rw [lN_mul]
  by_cases e : x = s
  · rw [if_pos (by rw [e]), if_neg (fun q => q.1 e)]; exact e135 _ aw
  · rw [if_neg (by rw [pu_eq (by omega) (by omega)]; exact e), pm_can (hR a b) w bx.1 bx.2, Option.bind_some]
    cases hc : pu_can σ x
    · rw [pu_iff, if_neg (fun q => by cases q.2)]; exact e135 _ aw
    · rw [pu_ift, if_pos ⟨e, rfl⟩]; exact e135 0 (by omega)
