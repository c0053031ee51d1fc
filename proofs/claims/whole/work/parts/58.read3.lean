theorem pu_S0_of {n : Nat} {tb : Nat → Nat} (hb : ∀ i, i < n → tb i < 128) {m : Nat} (h0 : ∀ j, j < m → S0 n tb j) (h1 : ∀ j, j < m → S1 n tb j) : S0 n tb m := by
  intro p0 q0 a k c v2 w mo mc nm wt pa σ τ N M p0n hm T U hp hf A Bt D ha kp hN hM hq q0n sk hmo hmc
  have n1 := T.1
  have c12 := D.1
  have a12 : a ≤ 12 := by
    rcases ha with q | ⟨i, i1, i2⟩
    · omega
    · have := (D.2.1 i i1).2.1; rw [← i2]; exact this
  have skb := pu_sk_le (tb := tb) p0n
  have skid : pu_sk tb n (pu_sk tb n p0) = pu_sk tb n p0 := pu_sk_id p0n
  have sklt : pu_sk tb n p0 < n → n - p0 = m := fun _ => hm
  generalize hpp : pu_sk tb n p0 = p at *
  obtain ⟨N, rfl⟩ : ∃ q, N = q + 1 := ⟨N - 1, by clear ha; omega⟩
  obtain ⟨M, rfl⟩ : ∃ q, M = q + 1 := ⟨M - 1, by clear ha; omega⟩
  have M1 : 1 ≤ M := by clear ha; omega
  have za : (nI a = 0) ↔ a = 0 := by show (nI a = nI 0) ↔ _; exact pu_eq (by omega) (by omega)
  have v01 : v2 = 0 ∨ v2 = 1 := hmc.imp (fun q => q.1) (fun q => q.1)
  have bl := pm_blanks U hb hq q0n
  rw [sk] at bl
  have U1 : TM (qm_si τ 210 8 (nI p)) n tb := U.si _ (by omega) (by omega)
  have B1 : PB (qm_si τ 210 8 (nI p)) c nm wt pa := Bt.si _ (Or.inl ⟨rfl, Or.inl rfl⟩)
  have F1 : FM τ (qm_si τ 210 8 (nI p)) := FM.si τ _ (Or.inl ⟨rfl, by omega⟩)
  have e8 : (qm_si τ 210 8 (nI p)).1 210 8 = nI p := by rw [qm_si_at, if_pos rfl]
  have bl1 := pm_blanks U1 hb e8 skb.2.1
  rw [skid, pu_si_si] at bl1
  -- to the stream
  have mh : ¬ pu_at tb n p = -1 → ¬ (pu_at tb n p = 41 ∧ v2 = 0 ∧ a ≠ 0) → ∃ τx qx, pu_ML (M + 1) (nI a, nI v2, τ) = (bb_X7_isRead_62 τx (nI a)).bind (pu_MC M) ∧ FM τ τx ∧ TM τx n tb ∧ PB τx c nm wt pa ∧ qx ≤ n ∧ τx.1 210 8 = nI qx ∧ pu_sk tb n qx = p := by
    intro nm1 n41
    rw [pu_MLb]
    rcases v01 with rfl | rfl
    · refine ⟨qm_si τ 210 8 (nI p), p, ?_, F1, U1, B1, skb.2.1, e8, skid⟩
      congr 1
      unfold bb_X7_isRead_14
      rw [if_pos (show nI 0 = 0 from rfl), bl, Option.bind_some]
      dsimp only
      rw [if_neg nm1]
      unfold bb_X7_isRead_26
      rw [if_pos (show nI 0 = 0 from rfl)]
      by_cases a0 : a = 0
      · rw [if_pos (za.mpr a0)]
      · rw [if_neg (fun q => a0 (za.mp q)), bl1, Option.bind_some]
        dsimp only
        rw [if_neg (fun q => n41 ⟨q, rfl, a0⟩)]
    · refine ⟨τ, q0, ?_, FM.rf τ, U, Bt, q0n, hq, sk⟩
      congr 1
      unfold bb_X7_isRead_14 bb_X7_isRead_26
      rw [if_neg (by decide), if_neg (by decide)]
  -- a fault here
  have mf : ¬ pu_at tb n p = -1 → ¬ (pu_at tb n p = 41 ∧ v2 = 0 ∧ a ≠ 0) → pu_fg tb n p = false → ∃ τ', pu_ML (M + 1) (nI a, nI v2, τ) = some (false, τ') ∧ τ'.1 210 8 = nI p ∧ FM τ τ' := by
    intro x1 x2 x3
    obtain ⟨τx, qx, y1, y2, y3, y4, y5, y6, y7⟩ := mh x1 x2
    obtain ⟨τ', t1, t2, t3⟩ := pm_tsf y3 hb y6 y5 y7 x3 (nI a)
    refine ⟨τ', ?_, t2, y2.tr t3⟩
    rw [y1]
    unfold bb_X7_isRead_62
    rw [t1, Option.bind_some, pu_iff]; rfl
  -- the end
  have me : p = n → (∃ τ', pu_ML (M + 1) (nI a, nI v2, τ) = some (decide (a = 0), τ') ∧ τ'.1 210 8 = nI n ∧ FM τ τ' ∧ (a = 0 → PB τ' c nm wt pa)) := by
    intro pn
    have am : pu_at tb n p = -1 := by unfold pu_at; rw [if_neg (by omega)]
    rw [pu_MLb]
    rcases v01 with rfl | rfl
    · refine ⟨qm_si τ 210 8 (nI p), ?_, by rw [e8, pn], F1, fun _ => B1⟩
      unfold bb_X7_isRead_14
      rw [if_pos (show nI 0 = 0 from rfl), bl, Option.bind_some]
      dsimp only
      rw [if_pos am]
      by_cases a0 : a = 0
      · rw [if_pos (za.mpr a0), decide_eq_true a0]; rfl
      · rw [if_neg (fun q => a0 (za.mp q)), decide_eq_false a0]; rfl
    · have a0 : a ≠ 0 := by
        rcases hmc with q | q
        · exact absurd q.1 (by omega)
        · exact q.2.2
      have x3 : pu_fg tb n p = false := by unfold pu_fg; rw [decide_eq_false (by omega), Bool.false_and]
      obtain ⟨τ', t1, t2, t3⟩ := pm_tsf U hb hq q0n sk x3 (nI a)
      refine ⟨τ', ?_, by rw [t2, pn], t3, fun q => absurd q a0⟩
      unfold bb_X7_isRead_14 bb_X7_isRead_26
      rw [if_neg (by decide), if_neg (by decide)]
      unfold bb_X7_isRead_62
      rw [t1, Option.bind_some, pu_iff, decide_eq_false a0]; rfl
  sorry
