-- ===== settings, closes =====
theorem WF.gl {B : Nat} {σ : qm_M} (w : WF B σ) {k n : Nat} (hk : k < 4) (hn : (k = 0 → n ≤ 99999) ∧ (k = 1 → 1 ≤ n ∧ n ≤ 999) ∧ (k = 2 → n ≤ 50) ∧ (k = 3 → n ≤ 1)) : WF B (qm_si σ 0 (3 + k) (nI n)) := by
  obtain ⟨w1, ⟨rk, w2⟩, w3, w4, w5, w6, w7, w8⟩ := w
  have e1 : (qm_si σ 0 (3 + k) (nI n)).1 0 1 = σ.1 0 1 := by rw [qm_si_at, if_neg (by omega)]
  have ex : ∀ x, (qm_si σ 0 (3 + k) (nI n)).1 (2 + x) = σ.1 (2 + x) := fun x => qm_si_ne _ _ _ (by omega)
  refine ⟨fun x a b c => ?_, ⟨rk, fun x a b c hp => ?_⟩, ?_, ?_, ?_, ?_, by rw [qm_si_at, if_neg (by omega)]; exact w7, fun x a => by rw [ex]; exact w8 x a⟩
  · rw [e1] at c ⊢; rw [ex]; exact w1 x a b c
  · rw [e1] at c
    have ep : pu_par (qm_si σ 0 (3 + k) (nI n)) x = pu_par σ x := by unfold pu_par; rw [ex]
    rw [ep] at hp ⊢; exact w2 x a b c hp
  · rw [qm_si_at]
    by_cases e : k = 0
    · rw [if_pos (by omega)]; exact ⟨n, hn.1 e, rfl⟩
    · rw [if_neg (by omega)]; exact w3
  · rw [qm_si_at]
    by_cases e : k = 1
    · rw [if_pos (by omega)]; exact ⟨n, (hn.2.1 e).1, (hn.2.1 e).2, rfl⟩
    · rw [if_neg (by omega)]; exact w4
  · rw [qm_si_at]
    by_cases e : k = 2
    · rw [if_pos (by omega)]; exact ⟨n, hn.2.2.1 e, rfl⟩
    · rw [if_neg (by omega)]; exact w5
  · rw [qm_si_at]
    by_cases e : k = 3
    · rw [if_pos (by omega)]; exact ⟨n, hn.2.2.2 e, rfl⟩
    · rw [if_neg (by omega)]; exact w6
theorem pu_208 {k : Nat} (hk : k < 4) : ¬ ((208 + nI k : Int32) < 0 ∨ 215 ≤ (208 + nI k : Int32).toNatClampNeg) ∧ (208 + nI k : Int32).toNatClampNeg = 208 + k := by
  have e : (208 + nI k : Int32) = nI (208 + k) := nI_add 208 k
  rw [e, pu_clamp (by omega)]
  exact ⟨fun q => by
    rcases q with q | q
    · exact nI_pos (show 208 + k < 2 ^ 31 by omega) q
    · omega, rfl⟩
theorem pu_settings {B : Nat} {σ τ : qm_M} (h : Inv B σ τ) (v x : Int32) : Sim B σ τ (fn_X6_settings σ v x) (fn_X7_settings τ v x) := by
  unfold fn_X6_settings fn_X7_settings
  rw [pu_c_within, pu_m_in τ x 0 99999 0 99999 rfl rfl, pu_m_in τ x 1 999 1 999 rfl rfl, pu_m_in τ x 0 50 0 50 rfl rfl, pu_m_in τ x 0 1 0 1 rfl rfl]
  simp only [Option.bind_some]
  rcases pu_rng (v := v) 3 (by omega) with ⟨k, hk, rfl⟩ | hd
  · have hd : (decide ((0 : Int32) ≤ nI k) && decide (nI k ≤ (3 : Int32))) = true := by
      rw [show (0 : Int32) = nI 0 from rfl, show (3 : Int32) = nI 3 from rfl, decide_eq_true ((pu_le (by omega) (by omega)).mpr (Nat.zero_le k)), decide_eq_true ((pu_le (by omega) (by omega)).mpr hk)]; rfl
    have go : ∀ n, (k = 0 → n ≤ 99999) ∧ (k = 1 → 1 ≤ n ∧ n ≤ 999) ∧ (k = 2 → n ≤ 50) ∧ (k = 3 → n ≤ 1) → Sim B σ τ ((fn_X6_leaveState σ).bind fun r6 => (fn_X3_changeSetting r6 0 (nI k) (nI n)).bind fun r7 => some (r7.1, r7.2)) (bb_X7_settings_70 τ (nI k) (nI n) 1) := by
      intro n hn
      obtain ⟨σ1, τ1, e1, e2, hI, f1, f2, K⟩ := pu_keep h
      unfold bb_X7_settings_70
      rw [e1, e2, if_neg (by decide)]
      simp only [Option.bind_some]
      obtain ⟨p1, p2⟩ := pu_208 (show k < 4 by omega)
      rw [if_pos p1, if_pos p1, p2]
      have eg : τ1.2 211 (208 + k) = (σ1.1 0 (3 + k)).toInt64 := hI.1.2.2.2.2.1 k (by omega)
      have hR : RT (qm_si σ1 0 (3 + k) (nI n)) ((qm_sl τ1 211 (208 + k) (nI n).toInt64).2 211) := by rw [qm_sl_row]; exact hI.1.gl (by omega) (nI n)
      have hW : WF B (qm_si σ1 0 (3 + k) (nI n)) := hI.2.1.gl (by omega) hn
      rw [eg, pu_i64, pu_bid]
      unfold fn_X3_changeSetting
      simp only [Option.bind_some]
      have plain : Sim B σ τ (some (σ1.1 0 (3 + k), qm_si σ1 0 (3 + k) (nI n))) (some (σ1.1 0 (3 + k), qm_sl τ1 211 (208 + k) (nI n).toInt64)) := Sim.done _ rfl rfl hI f1 f2 (Lc.si _ _ _ (by omega)) (Lm.sl _ _ _) hR hW (Nat.le_refl _)
      match k, hk with
      | 0, _ => rw [if_pos (show nI 0 = 0 from rfl), if_neg (show ¬ nI 0 = 2 by decide)]; exact plain
      | 1, _ => rw [if_neg (show ¬ nI 1 = 0 by decide), if_pos (show nI 1 = 1 from rfl), if_neg (show ¬ nI 1 = 2 by decide)]; exact plain
      | 2, _ =>
        rw [if_neg (show ¬ nI 2 = 0 by decide), if_neg (show ¬ nI 2 = 1 by decide), if_pos (show nI 2 = 2 from rfl), if_pos (show nI 2 = 2 from rfl)]
        obtain ⟨σ2, τ2, g1, g2, g3, g4, g5, g6⟩ := pu_letGo hR hW
        have g1 : fn_X3_letGo (qm_si σ1 0 5 (nI n)) 0 = some σ2 := g1
        rw [g1, g2]
        simp only [Option.bind_some]
        exact Sim.done _ rfl rfl hI f1 f2 ((Lc.si σ1 5 (nI n) (by omega)).tr g5) ((Lm.sl _ _ _).tr g6) g3 g4 (Nat.le_refl _)
      | 3, _ => rw [if_neg (show ¬ nI 3 = 0 by decide), if_neg (show ¬ nI 3 = 1 by decide), if_neg (show ¬ nI 3 = 2 by decide), if_neg (show ¬ nI 3 = 2 by decide)]; exact plain
      | k + 4, h => exact absurd h (by omega)
    have bad : ∀ y, bb_X7_settings_70 τ (nI k) y 0 = (fn_X7_refuses τ (-2)) := by
      intro y; unfold bb_X7_settings_70; rw [if_pos rfl, pu_bid]
    rw [hd, pu_ift, if_pos (pu_in (show k < 4 by omega) (by omega)), if_pos (pu_in (show k < 4 by omega) (by omega)), pu_clamp (by omega), pu_c_within]
    simp only [Option.bind_some]
    match k, hk with
    | 0, _ =>
      rw [if_pos (show nI 0 = 0 from rfl), show qm_sv 2 0 = nI 0 from rfl, show qm_sv 3 0 = nI 99999 from rfl]
      rcases pu_rd (v := x) 0 99999 (by omega) (by omega) with ⟨n, n1, n2, rfl, hb⟩ | hb
      · have hb' : (decide ((0 : Int32) ≤ nI n) && decide (nI n ≤ (99999 : Int32))) = true := hb
        rw [hb, hb', pu_ift]
        exact go n ⟨fun _ => n2, fun q => absurd q (by omega), fun q => absurd q (by omega), fun q => absurd q (by omega)⟩
      · have hb' : (decide ((0 : Int32) ≤ x) && decide (x ≤ (99999 : Int32))) = false := hb
        rw [hb, hb', pu_iff, pu_bid, show qm_b false = 0 from rfl, bad]; exact Sim.bad h
    | 1, _ =>
      rw [if_neg (show ¬ nI 1 = 0 by decide), if_pos (show nI 1 = 1 from rfl), show qm_sv 2 1 = nI 1 from rfl, show qm_sv 3 1 = nI 999 from rfl]
      rcases pu_rd (v := x) 1 999 (by omega) (by omega) with ⟨n, n1, n2, rfl, hb⟩ | hb
      · have hb' : (decide ((1 : Int32) ≤ nI n) && decide (nI n ≤ (999 : Int32))) = true := hb
        rw [hb, hb', pu_ift]
        exact go n ⟨fun q => absurd q (by omega), fun _ => ⟨n1, n2⟩, fun q => absurd q (by omega), fun q => absurd q (by omega)⟩
      · have hb' : (decide ((1 : Int32) ≤ x) && decide (x ≤ (999 : Int32))) = false := hb
        rw [hb, hb', pu_iff, pu_bid, show qm_b false = 0 from rfl, bad]; exact Sim.bad h
    | 2, _ =>
      rw [if_neg (show ¬ nI 2 = 0 by decide), if_neg (show ¬ nI 2 = 1 by decide), if_pos (show nI 2 = 2 from rfl), show qm_sv 2 2 = nI 0 from rfl, show qm_sv 3 2 = nI 50 from rfl]
      rcases pu_rd (v := x) 0 50 (by omega) (by omega) with ⟨n, n1, n2, rfl, hb⟩ | hb
      · have hb' : (decide ((0 : Int32) ≤ nI n) && decide (nI n ≤ (50 : Int32))) = true := hb
        rw [hb, hb', pu_ift]
        exact go n ⟨fun q => absurd q (by omega), fun q => absurd q (by omega), fun _ => n2, fun q => absurd q (by omega)⟩
      · have hb' : (decide ((0 : Int32) ≤ x) && decide (x ≤ (50 : Int32))) = false := hb
        rw [hb, hb', pu_iff, pu_bid, show qm_b false = 0 from rfl, bad]; exact Sim.bad h
    | 3, _ =>
      rw [if_neg (show ¬ nI 3 = 0 by decide), if_neg (show ¬ nI 3 = 1 by decide), if_neg (show ¬ nI 3 = 2 by decide), if_pos (show nI 3 = 3 from rfl), show qm_sv 2 3 = nI 0 from rfl, show qm_sv 3 3 = nI 1 from rfl]
      rcases pu_rd (v := x) 0 1 (by omega) (by omega) with ⟨n, n1, n2, rfl, hb⟩ | hb
      · have hb' : (decide ((0 : Int32) ≤ nI n) && decide (nI n ≤ (1 : Int32))) = true := hb
        rw [hb, hb', pu_ift, pu_ift]
        exact go n ⟨fun q => absurd q (by omega), fun q => absurd q (by omega), fun q => absurd q (by omega), fun _ => n2⟩
      · have hb' : (decide ((0 : Int32) ≤ x) && decide (x ≤ (1 : Int32))) = false := hb
        rw [hb, hb', pu_iff, pu_iff, pu_bid, bad]; exact Sim.bad h
    | k + 4, h => exact absurd h (by omega)
  · have hne : ∀ i, i ≤ 3 → v ≠ nI i := by
      intro i hi e
      subst e
      rw [show (0 : Int32) = nI 0 from rfl, decide_eq_true ((pu_le (by omega) (by omega)).mpr (Nat.zero_le i)), decide_eq_true ((pu_le (by omega) (by omega)).mpr hi)] at hd
      cases hd
    rw [show (3 : Int32) = nI 3 from rfl, hd, pu_iff, if_neg (show ¬ v = 0 from hne 0 (by omega)), if_neg (show ¬ v = 1 from hne 1 (by omega)), if_neg (show ¬ v = 2 from hne 2 (by omega)), if_neg (hne 3 (by omega))]
    unfold bb_X7_settings_70
    rw [if_pos rfl, pu_bid, pu_bid]; exact Sim.bad h
-- ===== closes =====
def pu_szN (n : Nat) : Nat := n % 2 + n / 2 % 2 + n / 4 % 2 + n / 8 % 2 + n / 16 % 2 + n / 32 % 2 + n / 64 % 2 + n / 128 % 2 + n / 256 % 2 + n / 512 % 2 + n / 1024 % 2 + n / 2048 % 2 + n / 4096 % 2
def pu_bcN (n : Nat) : Nat :=
  let a := n - ((n >>> 1) &&& 1431655765)
  let b := (a &&& 858993459) + ((a >>> 2) &&& 858993459)
  let c := (b + (b >>> 4)) &&& 252645135
  let d := c + (c >>> 8)
  let e := d + (d >>> 16)
  e &&& 63
theorem pu_bcN_eq : ∀ a, a < 128 → ∀ b, b < 64 → pu_bcN (64 * a + b) = pu_szN (64 * a + b) := by decide +kernel
