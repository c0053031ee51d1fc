-- ===== turn, common =====
theorem Sim.map {B : Nat} {σ τ : qm_M} {α β : Type} {x y : Option (α × qm_M)} (h : Sim B σ τ x y) (f : α → β) : Sim B σ τ (x.bind fun r => some (f r.1, r.2)) (y.bind fun r => some (f r.1, r.2)) := by
  obtain ⟨r, a, b, h1, h2, h3⟩ := h
  exact ⟨f r, a, b, by rw [h1]; rfl, by rw [h2]; rfl, h3⟩
theorem pu_turn {B : Nat} {σ τ : qm_M} (h : Inv B σ τ) (v k : Int32) : Sim B σ τ (fn_X6_turn σ v k) (fn_X7_turn τ v k) := by
  have hbad : Sim B σ τ ((fn_X6_refuse σ (-2)).bind fun r => some (r.1.toInt64, r.2)) ((fn_X7_refuses τ (-2)).bind fun r => some (r.1.toInt64, r.2)) := (Sim.bad h).map (fun x => x.toInt64)
  unfold fn_X6_turn fn_X7_turn
  rw [pc_isThere, pm_isStream h.1, pu_m_in τ k 0 1 0 1 rfl rfl]
  simp only [Option.bind_some]
  by_cases k0 : k = 0
  · subst k0
    rw [if_pos rfl]
    cases ht : pu_th σ v
    · rw [pu_iff, pu_iff]
      unfold bb_X6_turn_28 bb_X7_turn_18 bb_X7_turn_32
      rw [if_neg (by decide)]
      by_cases v0 : v = 0
      · rw [if_pos v0, if_neg (by decide), if_pos rfl]; exact hbad
      · rw [if_neg v0, if_pos rfl]; exact hbad
    · rw [pu_ift, pu_ift]
      obtain ⟨j, h1, h2, rfl, hj⟩ := pu_th_t ht
      rw [if_pos (pu_in (show j < 13 by omega) (by omega)), pu_clamp (by omega), show 0 + 1 + 1 + j = 2 + j by omega]
      rw [show (decide ((0 : Int32) ≤ 0) && decide ((0 : Int32) ≤ 1)) = true by decide, pu_ift]
      unfold bb_X7_turn_32
      rw [if_neg (by decide), if_pos rfl, pu_its_9 τ h2, Option.bind_some, (h.1.2.2.1 j h1 h2 hj).1]
      exact Sim.read h _ rfl rfl
  · rw [if_neg k0]
    by_cases k1 : k = 1
    · subst k1
      rw [show (decide ((0 : Int32) ≤ 1) && decide ((1 : Int32) ≤ 1)) = true by decide, pu_ift]
      unfold bb_X6_turn_28
      rw [if_pos rfl, pc_isNode, Option.bind_some]
      unfold pu_nd
      cases ht : pu_th σ v
      · rw [pu_iff]
        unfold bb_X7_turn_18
        by_cases v0 : v = 0
        · subst v0
          rw [decide_eq_true rfl, Bool.true_or, pu_ift, if_pos rfl, if_pos rfl, if_pos (show ¬ ((0 : Int32) < 0 ∨ 13 ≤ (0 : Int32).toNatClampNeg) by decide)]
          unfold bb_X7_turn_32
          rw [if_neg (by decide), if_neg (by decide), show (0 : Int32) = nI 0 from rfl, pu_its_10 τ (by omega), Option.bind_some, show 16 * 0 + 10 = 10 from rfl, h.1.2.2.2.1]
          exact Sim.read h _ rfl rfl
        · rw [decide_eq_false v0, Bool.false_or, pu_iff, if_neg v0]
          unfold bb_X7_turn_32
          rw [if_pos rfl]; exact hbad
      · rw [pu_ift, Bool.or_true, pu_ift]
        obtain ⟨j, h1, h2, rfl, hj⟩ := pu_th_t ht
        rw [if_pos (pu_in (show j < 13 by omega) (by omega)), pu_clamp (by omega), show 0 + 1 + 1 + j = 2 + j by omega]
        unfold bb_X7_turn_32
        rw [if_neg (by decide), if_neg (by decide), pu_its_10 τ h2, Option.bind_some, (h.1.2.2.1 j h1 h2 hj).2.1]
        exact Sim.read h _ rfl rfl
    · have hd : (decide ((0 : Int32) ≤ k) && decide (k ≤ (1 : Int32))) = false := by
        rcases pu_rng (v := k) 1 (by omega) with ⟨q, hq, rfl⟩ | hk
        · match q, hq with
          | 0, _ => exact absurd rfl k0
          | 1, _ => exact absurd rfl k1
          | q + 2, h => exact absurd h (by omega)
        · exact hk
      rw [hd, pu_iff]
      unfold bb_X6_turn_28
      rw [if_neg k1]
      have e : bb_X7_turn_18 τ v k = (fn_X7_refuses τ (-2)).bind fun r => some (r.1.toInt64, r.2) := by
        unfold bb_X7_turn_18 bb_X7_turn_32
        by_cases v0 : v = 0
        · rw [if_pos v0, if_neg k1, if_pos rfl]
        · rw [if_neg v0, if_pos rfl]
      rw [e]
      cases pu_th σ v
      · rw [pu_iff]; exact hbad
      · rw [pu_ift]; exact hbad
def pu_com (p : Nat → Nat) (P : Nat → Bool) : Nat → Nat → Nat
  | 0, a => a
  | m + 1, a => if a = 0 then a else if P a = true then a else pu_com p P m (p a)
theorem pu_com_st {p : Nat → Nat} {P : Nat → Bool} : ∀ (m m' a : Nat), pu_it p m a = 0 → m ≤ m' → pu_com p P m' a = pu_com p P m a
  | 0, m', a, h, _ => by
    have h : a = 0 := h
    subst h
    cases m' with
    | zero => rfl
    | succ m' => unfold pu_com; rw [if_pos rfl]
  | m + 1, 0, a, _, h => absurd h (by omega)
  | m + 1, m' + 1, a, h, hm => by
    unfold pu_com
    by_cases h0 : a = 0
    · rw [if_pos h0, if_pos h0]
    · rw [if_neg h0, if_neg h0, pu_com_st m m' (p a) h (by omega)]
theorem pu_common {B : Nat} {σ τ : qm_M} (h : Inv B σ τ) (v k : Int32) : Sim B σ τ (fn_X6_common σ v k) (fn_X7_common τ v k) := by
  unfold fn_X6_common fn_X7_common
  rw [pc_isThere, pm_isStream h.1, pc_isThere, pm_isStream h.1]
  simp only [Option.bind_some]
  cases hv : pu_th σ v
  · rw [pu_iff, pu_iff, pu_bid, pu_bid]; exact Sim.bad h
  · rw [pu_ift, pu_ift]
    cases hk : pu_th σ k
    · rw [pu_iff, pu_iff, pu_bid, pu_bid]; exact Sim.bad h
    · rw [pu_ift, pu_ift]
      have G := pu_G.of h.1 h.2.1
      obtain ⟨s, s1, s2, rfl, hs⟩ := pu_th_t hv
      obtain ⟨t, t1, t2, rfl, ht⟩ := pu_th_t hk
      obtain ⟨L, l1, l2⟩ := pc_lineBits G (Or.inr ht)
      have kc : ∀ m k a, m + k = 12 → (a = 0 ∨ pu_t σ a = true) → qm_loop (fun x : Int32 × Int32 => bb_X3_deepestShared_12 σ 0 L x.1 x.2) (m + 1 + (1000 - 13)) (nI a, nI k) = some (nI (pu_com (pu_par σ) (fun i => pu_ln σ t i) m a)) := by
        intro m
        induction m with
        | zero =>
          intro k a hk ha
          have hk : k = 12 := by omega
          subst hk
          rw [show 0 + 1 + (1000 - 13) = 987 + 1 by omega]
          refine pu_inr ?_
          show bb_X3_deepestShared_12 σ 0 L (nI a) (nI 12) = _
          unfold bb_X3_deepestShared_12
          rw [if_pos (by decide)]; rfl
        | succ m ih =>
          intro k a hk ha
          rw [show m + 1 + 1 + (1000 - 13) = (m + 1 + (1000 - 13)) + 1 by omega]
          have n12 : ¬ ((12 : Int32) ≤ nI k) := by show ¬ nI 12 ≤ nI k; rw [pu_le (by omega) (by omega)]; omega
          unfold pu_com
          by_cases h0 : a = 0
          · subst h0
            rw [if_pos rfl]
            refine pu_inr ?_
            show bb_X3_deepestShared_12 σ 0 L (nI 0) (nI k) = _
            unfold bb_X3_deepestShared_12
            rw [if_neg n12, if_pos (show nI 0 = 0 from rfl)]; rfl
          · have hta := ha.resolve_left h0
            have hb := G.1 a hta
            have hg := G.2.1 a hta
            have hz : ¬ nI a = 0 := by show ¬ nI a = nI 0; rw [pu_eq (by omega) (by omega)]; exact h0
            have l2a : bt L a = pu_ln σ t a := l2 a (by omega)
            rw [if_neg h0]
            cases hc : pu_ln σ t a
            · rw [if_neg (by decide), ← ih (k + 1) (pu_par σ a) (by omega) hg.2.2]
              refine pu_inl ?_
              show bb_X3_deepestShared_12 σ 0 L (nI a) (nI k) = _
              unfold bb_X3_deepestShared_12
              rw [if_neg n12, if_neg hz, pu_has _ _ (by omega), l2a, hc, Option.bind_some, pu_iff, if_pos (pu_in (show a < 13 by omega) (by omega)), pu_clamp (by omega), show 0 + 1 + 1 + a = 2 + a by omega, hg.2.1, pu_s1]; rfl
            · rw [if_pos rfl]
              refine pu_inr ?_
              show bb_X3_deepestShared_12 σ 0 L (nI a) (nI k) = _
              unfold bb_X3_deepestShared_12
              rw [if_neg n12, if_neg hz, pu_has _ _ (by omega), l2a, hc, Option.bind_some, pu_ift]; rfl
      have km : ∀ m a, (a = 0 ∨ pu_t σ a = true) → pu_it (pu_par σ) m a = 0 → ∀ n, m < n → qm_loop (fun y : Int32 => bb_X7_common_25 τ (nI t) y) n (nI a) = some (nI (pu_com (pu_par σ) (fun i => pu_ln σ t i) m a), τ) := by
        intro m
        induction m with
        | zero =>
          intro a _ ha n hn
          have ha : a = 0 := ha
          subst ha
          cases n with
          | zero => omega
          | succ n => unfold qm_loop bb_X7_common_25; rw [if_pos (show nI 0 = 0 from rfl)]; rfl
        | succ m ih =>
          intro a ha hz n hn
          cases n with
          | zero => omega
          | succ n =>
            unfold pu_com
            by_cases h0 : a = 0
            · subst h0; rw [if_pos rfl]; refine pu_inr ?_; unfold bb_X7_common_25; rw [if_pos (show nI 0 = 0 from rfl)]; rfl
            · have hta := ha.resolve_left h0
              have hb := G.1 a hta
              have hg := G.2.1 a hta
              have hz0 : ¬ nI a = 0 := by show ¬ nI a = nI 0; rw [pu_eq (by omega) (by omega)]; exact h0
              rw [if_neg h0, pu_ln_eq G ht a]
              by_cases e : a = t
              · rw [decide_eq_true e.symm, Bool.true_or, if_pos rfl]
                refine pu_inr ?_; unfold bb_X7_common_25
                rw [if_neg hz0, if_pos (by rw [e])]; rfl
              · have ne : ¬ nI a = nI t := by rw [pu_eq (by omega) (by omega)]; exact e
                rw [decide_eq_false (fun q => e q.symm), Bool.false_or]
                cases hbl : pu_bel σ t a
                · rw [if_neg (by decide), ← ih (pu_par σ a) hg.2.2 hz n (by omega)]
                  refine pu_inl ?_; unfold bb_X7_common_25
                  rw [if_neg hz0, if_neg ne, pm_isBelow h.1 G ht hb.1 hb.2, hbl, Option.bind_some, pu_iff, pm_parent h.1 hb.1 hb.2 hta, hg.2.1]; rfl
                · rw [if_pos rfl]
                  refine pu_inr ?_; unfold bb_X7_common_25
                  rw [if_neg hz0, if_neg ne, pm_isBelow h.1 G ht hb.1 hb.2, hbl, Option.bind_some, pu_ift]; rfl
      obtain ⟨n, n1, n2, n3, -⟩ := pu_chain G hs
      have e1 : fn_X3_deepestShared σ 0 (nI s) (nI t) = some (nI (pu_com (pu_par σ) (fun i => pu_ln σ t i) 12 s)) := by
        unfold fn_X3_deepestShared lp_X3_deepestShared_12
        rw [l1]
        simp only [Option.bind_some]
        exact kc 12 0 s rfl (Or.inr hs)
      have e2 : lp_X7_common_25 τ (nI t) (nI s) = some (nI (pu_com (pu_par σ) (fun i => pu_ln σ t i) 12 s), τ) := by
        rw [pu_com_st n 12 s n3 n2]
        exact km n s (Or.inr hs) n3 1000 (by omega)
      rw [e1, e2]
      exact Sim.read h _ rfl rfl
