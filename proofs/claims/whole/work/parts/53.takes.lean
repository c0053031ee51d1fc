theorem pm_number {τ : qm_M} {n p0 p most : Nat} {tb : Nat → Nat} (T : TM τ n tb) (hb : ∀ i, i < n → tb i < 128) (hm : most ≤ 16) (hp0 : τ.1 210 8 = nI p0) (h0 : p0 ≤ n) (ep : pu_sk tb n p0 = p) :
    (∀ v p', pu_num tb n most p = .inr (v, p') → fn_X7_takes τ (nI most) = some (true, qm_si (qm_si τ 210 8 (nI p')) 210 9 (nI v))) ∧ (∀ q, pu_num tb n most p = .inl q → ∃ τ', fn_X7_takes τ (nI most) = some (false, τ') ∧ τ'.1 210 8 = nI q ∧ FM τ τ') := by
  have n1 := T.1
  have h : p ≤ n := by rw [← ep]; exact (pu_sk_le h0).2.1
  have S8 : ∀ x v, (qm_si (qm_si τ 210 8 (nI x)) 210 9 (nI v)).1 210 8 = nI x := fun x v => by rw [qm_si_at, if_neg (by omega), qm_si_at, if_pos rfl]
  have S9 : ∀ x v, (qm_si (qm_si τ 210 8 (nI x)) 210 9 (nI v)).1 210 9 = nI v := fun x v => by rw [qm_si_at, if_pos rfl]
  have ST : ∀ x v, TM (qm_si (qm_si τ 210 8 (nI x)) 210 9 (nI v)) n tb := fun x v => (T.si _ (by omega) (by omega)).si _ (by omega) (by omega)
  have SF : ∀ x v, FM τ (qm_si (qm_si τ 210 8 (nI x)) 210 9 (nI v)) := fun x v => (FM.si τ _ (Or.inl ⟨rfl, by omega⟩)).tr (FM.si _ _ (Or.inl ⟨rfl, by omega⟩))
  have step : ∀ j v x, j < 2 → pu_fg tb n x = true → bb_X7_takes_18 (qm_si (qm_si τ 210 8 (nI x)) 210 9 (nI v)) (nI most) (pu_at tb n p) (nI p) (nI j) = some (.inl (nI (j + 1), qm_si (qm_si τ 210 8 (nI (x + 1))) 210 9 (nI (10 * v + (tb x - 48))))) := by
    intro j v x hj hg
    obtain ⟨g1, g2, g3⟩ := pu_fg_t hg
    unfold bb_X7_takes_18
    rw [S8, pm_isFigure (ST x v) hb (by omega), hg, Option.bind_some, pu_ift, if_neg (show ¬ (2 : Int32) ≤ nI j by show ¬ nI 2 ≤ nI j; rw [pu_le (by omega) (by omega)]; omega), if_pos (pu_in (show x < 120 by omega) (by omega)), pu_clamp (by omega), S9, (ST x v).2.2 x g1, pu_dig g2, pu_si_si]
    simp only [Option.bind_some]
    rw [S8, pu_s1, pu_s1, pu_si_cm _ _ _ (show ¬ (210 = 210 ∧ 9 = 8) by omega), pu_si_si]
  have stop : ∀ j v x, (j = 2 ∨ pu_fg tb n x = false) → x ≤ 121 → bb_X7_takes_18 (qm_si (qm_si τ 210 8 (nI x)) 210 9 (nI v)) (nI most) (pu_at tb n p) (nI p) (nI j) = (bb_X7_takes_75 (qm_si (qm_si τ 210 8 (nI x)) 210 9 (nI v)) (nI most) (pu_at tb n p) (nI p) (nI j)).bind (fun y => some (.inr y)) := by
    intro j v x hj hx
    unfold bb_X7_takes_18
    rw [S8, pm_isFigure (ST x v) hb hx, Option.bind_some]
    cases hg : pu_fg tb n x
    · rw [pu_iff]
    · rcases hj with rfl | hj
      · rw [pu_ift, if_pos (by decide)]
      · rw [hg] at hj; cases hj
  have fin : ∀ j v x, 1 ≤ j → j ≤ 2 → p < n → x ≤ 121 → v < 1000 → (pu_fg tb n x = true → ∃ τ', bb_X7_takes_75 (qm_si (qm_si τ 210 8 (nI x)) 210 9 (nI v)) (nI most) (pu_at tb n p) (nI p) (nI j) = some (false, τ') ∧ τ'.1 210 8 = nI x ∧ FM τ τ') ∧ (pu_fg tb n x = false → ((1 ≤ v ∧ v ≤ most) → bb_X7_takes_75 (qm_si (qm_si τ 210 8 (nI x)) 210 9 (nI v)) (nI most) (pu_at tb n p) (nI p) (nI j) = some (true, qm_si (qm_si τ 210 8 (nI x)) 210 9 (nI v))) ∧ (¬ (1 ≤ v ∧ v ≤ most) → ∃ τ', bb_X7_takes_75 (qm_si (qm_si τ 210 8 (nI x)) 210 9 (nI v)) (nI most) (pu_at tb n p) (nI p) (nI j) = some (false, τ') ∧ τ'.1 210 8 = nI p ∧ FM τ τ')) := by
    intro j v x j1 j2 pn hx v9
    have e75 : bb_X7_takes_75 (qm_si (qm_si τ 210 8 (nI x)) 210 9 (nI v)) (nI most) (pu_at tb n p) (nI p) (nI j) = if qm_b (pu_fg tb n x) = 0 then (if qm_b (decide ((1 : Int32) ≤ nI v) && decide (nI v ≤ nI most)) = 0 then some (false, qm_si (qm_si (qm_si τ 210 8 (nI x)) 210 9 (nI v)) 210 8 (nI p)) else some (true, qm_si (qm_si τ 210 8 (nI x)) 210 9 (nI v))) else some (false, qm_si (qm_si τ 210 8 (nI x)) 210 9 (nI v)) := by
      unfold bb_X7_takes_75
      have a1 : ¬ pu_at tb n p = -1 := by unfold pu_at; rw [if_pos pn]; exact pu_m1 (by have := hb p pn; omega)
      rw [if_neg a1, if_neg (show ¬ nI j = 0 by show ¬ nI j = nI 0; rw [pu_eq (by omega) (by omega)]; omega), S8, pm_isFigure (ST x v) hb hx, Option.bind_some, S9, pu_m_in _ _ 1 (nI most).toInt64 1 (nI most) rfl rfl, Option.bind_some]
      rfl
    rw [e75]
    refine ⟨fun hg => ?_, fun hg => ⟨fun hv => ?_, fun hv => ?_⟩⟩
    · rw [hg, pu_ift]
      exact ⟨_, rfl, S8 x v, SF x v⟩
    · have e : (decide ((1 : Int32) ≤ nI v) && decide (nI v ≤ nI most)) = true := by
        rw [show (1 : Int32) = nI 1 from rfl, decide_eq_true ((pu_le (by omega) (by omega)).mpr hv.1), decide_eq_true ((pu_le (by omega) (by omega)).mpr hv.2)]; rfl
      rw [hg, pu_iff, e, pu_ift]
    · have e : (decide ((1 : Int32) ≤ nI v) && decide (nI v ≤ nI most)) = false := by
        rw [show (1 : Int32) = nI 1 from rfl]
        by_cases a : 1 ≤ v
        · rw [decide_eq_false (show ¬ nI v ≤ nI most by rw [pu_le (by omega) (by omega)]; omega), Bool.and_false]
        · rw [decide_eq_false (show ¬ nI 1 ≤ nI v by rw [pu_le (by omega) (by omega)]; omega), Bool.false_and]
      rw [hg, pu_iff, e, pu_iff]
      exact ⟨_, rfl, by rw [qm_si_at, if_pos rfl], (SF x v).tr (FM.si _ _ (Or.inl ⟨rfl, by omega⟩))⟩
  have start : fn_X7_takes τ (nI most) = qm_loop (fun s : Int32 × qm_M => bb_X7_takes_18 s.2 (nI most) (pu_at tb n p) (nI p) s.1) (997 + 1 + 1 + 1) (nI 0, qm_si (qm_si τ 210 8 (nI p)) 210 9 (nI 0)) := by
    unfold fn_X7_takes lp_X7_takes_18
    rw [pm_blanks T hb hp0 h0, ep, Option.bind_some, Option.bind_some, Option.bind_some]
    dsimp only
    rw [qm_si_at, if_pos rfl]; rfl
  have lstep : ∀ N j v x, j < 2 → pu_fg tb n x = true → qm_loop (fun s : Int32 × qm_M => bb_X7_takes_18 s.2 (nI most) (pu_at tb n p) (nI p) s.1) (N + 1) (nI j, qm_si (qm_si τ 210 8 (nI x)) 210 9 (nI v)) = qm_loop (fun s : Int32 × qm_M => bb_X7_takes_18 s.2 (nI most) (pu_at tb n p) (nI p) s.1) N (nI (j + 1), qm_si (qm_si τ 210 8 (nI (x + 1))) 210 9 (nI (10 * v + (tb x - 48)))) := fun N j v x a b => pu_inl (step j v x a b)
  have lstop : ∀ N j v x, (j = 2 ∨ pu_fg tb n x = false) → x ≤ 121 → qm_loop (fun s : Int32 × qm_M => bb_X7_takes_18 s.2 (nI most) (pu_at tb n p) (nI p) s.1) (N + 1) (nI j, qm_si (qm_si τ 210 8 (nI x)) 210 9 (nI v)) = bb_X7_takes_75 (qm_si (qm_si τ 210 8 (nI x)) 210 9 (nI v)) (nI most) (pu_at tb n p) (nI p) (nI j) := fun N j v x a b => pu_inb (stop j v x a b)
  clear step stop
  rw [start]
  unfold pu_num
  cases g0 : pu_fg tb n p
  · rw [if_neg (show ¬ (false = true) by decide)]
    refine ⟨fun v p' e => (nomatch e), fun q e => ?_⟩
    have e := Sum.inl.inj e
    subst e
    rw [lstop _ 0 0 p (Or.inr g0) (by omega)]
    refine ⟨qm_si (qm_si τ 210 8 (nI p)) 210 9 (nI 0), ?_, S8 p 0, SF p 0⟩
    unfold bb_X7_takes_75
    rw [if_pos (show nI 0 = 0 from rfl)]
    split <;> rfl
  · have f0 := pu_fg_t g0
    rw [if_pos rfl, lstep _ 0 0 p (by omega) g0, Nat.mul_zero, Nat.zero_add, Nat.zero_add]
    cases g1 : pu_fg tb n (p + 1)
    · rw [if_neg (show ¬ (false = true) by decide), lstop _ 1 (tb p - 48) (p + 1) (Or.inr g1) (by omega)]
      have F := (fin 1 (tb p - 48) (p + 1) (by omega) (by omega) (by omega) (by omega) (by omega)).2 g1
      unfold pu_val
      by_cases c : 1 ≤ tb p - 48 ∧ tb p - 48 ≤ most
      · rw [if_pos c]
        refine ⟨fun v p' e => ?_, fun q e => (nomatch e)⟩
        have e := Sum.inr.inj e
        rw [← (Prod.mk.inj e).1, ← (Prod.mk.inj e).2]
        exact F.1 c
      · rw [if_neg c]
        refine ⟨fun v p' e => (nomatch e), fun q e => ?_⟩
        have e := Sum.inl.inj e
        subst e
        exact F.2 c
    · have f1 := pu_fg_t g1
      rw [if_pos rfl, lstep _ 1 (tb p - 48) (p + 1) (by omega) g1, lstop _ (1 + 1) _ (p + 1 + 1) (Or.inl rfl) (by omega)]
      have F := fin 2 (10 * (tb p - 48) + (tb (p + 1) - 48)) (p + 1 + 1) (by omega) (by omega) (by omega) (by omega) (by omega)
      cases g2 : pu_fg tb n (p + 2)
      · rw [if_neg (show ¬ (false = true) by decide)]
        have F2 := F.2 g2
        unfold pu_val
        by_cases c : 1 ≤ 10 * (tb p - 48) + (tb (p + 1) - 48) ∧ 10 * (tb p - 48) + (tb (p + 1) - 48) ≤ most
        · rw [if_pos c]
          refine ⟨fun v p' e => ?_, fun q e => (nomatch e)⟩
          have e := Sum.inr.inj e
          rw [← (Prod.mk.inj e).1, ← (Prod.mk.inj e).2]
          exact F2.1 c
        · rw [if_neg c]
          refine ⟨fun v p' e => (nomatch e), fun q e => ?_⟩
          have e := Sum.inl.inj e
          subst e
          exact F2.2 c
      · rw [if_pos rfl]
        refine ⟨fun v p' e => (nomatch e), fun q e => ?_⟩
        have e := Sum.inl.inj e
        subst e
        exact F.1 g2
theorem pu_num_b {tb : Nat → Nat} {n most p v p' : Nat} (h : pu_num tb n most p = .inr (v, p')) : 1 ≤ v ∧ v ≤ most ∧ p < p' ∧ p' ≤ n := by
  unfold pu_num pu_val at h
  cases g0 : pu_fg tb n p
  · rw [g0, if_neg (show ¬ (false = true) by decide)] at h; cases h
  · have f0 := pu_fg_t g0
    rw [g0, if_pos rfl] at h
    cases g1 : pu_fg tb n (p + 1)
    · rw [g1, if_neg (show ¬ (false = true) by decide)] at h
      by_cases c : 1 ≤ tb p - 48 ∧ tb p - 48 ≤ most
      · rw [if_pos c] at h
        have e := Sum.inr.inj h
        rw [← (Prod.mk.inj e).1, ← (Prod.mk.inj e).2]
        exact ⟨c.1, c.2, by omega, by omega⟩
      · rw [if_neg c] at h; cases h
    · have f1 := pu_fg_t g1
      rw [g1, if_pos rfl] at h
      cases g2 : pu_fg tb n (p + 2)
      · rw [g2, if_neg (show ¬ (false = true) by decide)] at h
        by_cases c : 1 ≤ 10 * (tb p - 48) + (tb (p + 1) - 48) ∧ 10 * (tb p - 48) + (tb (p + 1) - 48) ≤ most
        · rw [if_pos c] at h
          have e := Sum.inr.inj h
          rw [← (Prod.mk.inj e).1, ← (Prod.mk.inj e).2]
          exact ⟨c.1, c.2, by omega, by omega⟩
        · rw [if_neg c] at h; cases h
      · rw [g2, if_pos rfl] at h; cases h
