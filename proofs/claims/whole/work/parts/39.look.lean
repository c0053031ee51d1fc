-- ===== look =====
theorem pu_G.same {σ σ' : qm_M} (G : pu_G σ) (e1 : σ'.1 0 1 = σ.1 0 1) (e2 : ∀ x, σ'.1 (2 + x) 0 = σ.1 (2 + x) 0) : pu_G σ' := by
  have et : ∀ x, pu_t σ' x = pu_t σ x := fun x => by show bt (σ'.1 0 1) x = _; rw [e1]
  have ep : ∀ x, pu_par σ' x = pu_par σ x := fun x => by unfold pu_par; rw [e2]
  obtain ⟨g1, g2, rk, g3⟩ := G
  refine ⟨fun x hx => g1 x (by rw [← et]; exact hx), fun x hx => ?_, rk, fun x hx hp => ?_⟩
  · rw [et] at hx; rw [ep, e2, et]; exact g2 x hx
  · rw [et] at hx; rw [ep] at hp ⊢; exact g3 x hx hp
theorem pm_looks42 {a b : qm_M} (h : RT a (b.2 211)) (L : Int32) : ∃ b', lp_X7_looks_42 b L 1 = some b' ∧ Lm b b' ∧ RT (qm_si a 0 2 L) (b'.2 211) := by
  have key := pu_forR (S := Int32 × qm_M) (A := Unit) (A' := qm_M) (R := qm_M) (body := fun x => bb_X7_looks_42 x.2 L x.1) (fun b j => (nI j, b)) (fun _ a => a) (fun j _ c => Lm b c ∧ (∀ i, (∀ x, 1 ≤ x → x ≤ 12 → i ≠ 16 * x + 15) → c.2 211 i = b.2 211 i) ∧ ∀ x, 1 ≤ x → x < j → c.2 211 (16 * x + 15) = if bt L x = true then 1 else 0) (fun _ c => Lm b c ∧ (∀ i, (∀ x, 1 ≤ x → x ≤ 12 → i ≠ 16 * x + 15) → c.2 211 i = b.2 211 i) ∧ ∀ x, 1 ≤ x → x < 13 → c.2 211 (16 * x + 15) = if bt L x = true then 1 else 0) (fun _ c j h1 h2 hr => ?_) (fun _ c hr => ?_) 12 1 () b 1000 rfl (by omega) (by omega) ⟨Lm.rf b, fun _ _ => rfl, fun x a b => absurd b (by omega)⟩
  · obtain ⟨b', k1, k2, k3, k4⟩ := key
    refine ⟨b', k1, k2, ?_⟩
    obtain ⟨r1, r2, r3, r4, r5, r6⟩ := h
    have e1 : (qm_si a 0 2 L).1 0 1 = a.1 0 1 := by rw [qm_si_at, if_neg (by omega)]
    have e2 : (qm_si a 0 2 L).1 0 2 = L := by rw [qm_si_at, if_pos rfl]
    have ex : ∀ x, (qm_si a 0 2 L).1 (2 + x) = a.1 (2 + x) := fun x => qm_si_ne _ _ _ (by omega)
    refine ⟨fun x x1 x2 => ?_, fun x k x1 x2 hk ht => ?_, fun x x1 x2 ht => ?_, ?_, fun k hk => ?_, fun i hi hj => ?_⟩
    · rw [e1, k3 _ (fun y _ _ => by omega)]; exact r1 x x1 x2
    · rw [e1] at ht
      have hb := pu_km_b hk
      rw [ex, k3 _ (fun y _ _ => by omega)]; exact r2 x k x1 x2 hk ht
    · rw [e1] at ht
      rw [e2, k4 x x1 (by omega), k3 _ (fun y _ _ => by omega), k3 _ (fun y _ _ => by omega)]
      obtain ⟨t1, t2, t3⟩ := r3 x x1 x2 ht
      exact ⟨t1, t2, rfl⟩
    · rw [k3 _ (fun y _ _ => by omega)]; exact r4
    · rw [k3 _ (fun y _ _ => by omega), qm_si_at, if_neg (by omega)]; exact r5 k hk
    · rw [e1]; exact r6 i hi hj
  · obtain ⟨r1, r2, r3⟩ := hr
    show ∃ b', bb_X7_looks_42 c L (nI j) = some (.inl (nI (j + 1), b')) ∧ _
    unfold bb_X7_looks_42
    have eb : ((L >>> (nI j &&& 31)) &&& 1).toInt64 = if bt L j = true then 1 else 0 := by
      rw [pu_bit1 L (by omega)]
      cases bt L j <;> rfl
    rw [if_neg (pu_h12 h2), pu_puts_15 c h2, pu_s1, eb]
    refine ⟨_, rfl, r1.tr (Lm.sl _ _ _), fun i hi => ?_, fun x x1 x2 => ?_⟩
    · rw [qm_sl_at, if_neg (hi j h1 h2)]; exact r2 i hi
    · rw [qm_sl_at]
      by_cases e : x = j
      · rw [if_pos (by rw [e]), e]
      · rw [if_neg (by omega)]; exact r3 x x1 (by omega)
  · show ∃ r, bb_X7_looks_42 c L (nI 13) = some (.inr r) ∧ _
    unfold bb_X7_looks_42
    rw [if_pos pu_13]
    exact ⟨c, rfl, hr⟩
theorem pm_turnOld {σ τ : qm_M} (h : RT σ (τ.2 211)) (G : pu_G σ) {x : Nat} (hx : pu_t σ x = true) {L : Int32} (hL : bt L x = false) : fn_X7_turnThen τ (nI x) L = some (τ.2 211 (16 * x + 9)) := by
  have hb := G.1 x hx
  have g := G.2.1 x hx
  unfold fn_X7_turnThen bb_X7_turnThen_26
  rw [if_neg (fun q => by have := (pu_tst L (by omega)).mp q; rw [hL] at this; cases this), pm_parent h hb.1 hb.2 hx, Option.bind_some, g.2.1, pu_its_10 τ g.1, Option.bind_some, if_pos rfl, pu_its_9 τ hb.2]; rfl
theorem pu_look {B : Nat} {σ τ : qm_M} (h : RT σ (τ.2 211)) (w : WF B σ) : ∃ σ' τ', fn_X0_look σ 0 (pu_set (pu_live σ)) = some σ' ∧ fn_X7_looks τ = some τ' ∧ RT σ' (τ'.2 211) ∧ WF B σ' ∧ Lc σ σ' ∧ Lm τ τ' ∧ ∀ id k, ¬ (id = 0 ∧ k = 2) → σ'.1 id k = σ.1 id k := by
  have G := pu_G.of h w
  have hL : ∀ i, 1 ≤ i → i ≤ 12 → bt (pu_set (pu_live σ)) i = pu_live σ i := fun i a b => pu_setl a b
  generalize hgen : pu_set (pu_live σ) = L at hL
  have key := pu_for2 (S := Int32 × qm_M) (R := qm_M) (S' := Int32 × qm_M) (R' := qm_M) (body := fun x => bb_X0_look_2 x.2 0 L x.1) (body' := fun x => bb_X7_looks_7 x.2 L x.1) (A := qm_M) (A' := qm_M) (fun a j => (nI j, a)) (fun a j => (nI j, a))
    (fun j a b => RT a (b.2 211) ∧ a.1 = σ.1 ∧ (∀ x, a.2 (2 + x) 13 = σ.2 (2 + x) 13) ∧ (∀ x, j ≤ x → a.2 (2 + x) 12 = σ.2 (2 + x) 12) ∧ Lc σ a ∧ Lm τ b)
    (fun a b => RT a (b.2 211) ∧ (∀ id k, ¬ (id = 0 ∧ k = 2) → a.1 id k = σ.1 id k) ∧ Lc σ a ∧ Lm τ b)
    (fun a b j h1 h2 hr => ?_) (fun a b hr => ?_) 12 1 σ τ 1000 1000 rfl (by omega) (by omega) (by omega) ⟨h, rfl, fun _ => rfl, fun _ _ => rfl, Lc.rf σ, Lm.rf τ⟩
  · obtain ⟨σ', τ', k1, k2, k3, k4, k5, k6⟩ := key
    refine ⟨σ', τ', k1, ?_, k3, ?_, k5, k6, k4⟩
    · unfold fn_X7_looks
      rw [pm_liveSet h w, hgen, Option.bind_some]; exact k2
    · obtain ⟨w1, ⟨rk, w2⟩, w3, w4, w5, w6, w7, w8⟩ := w
      have ex : ∀ x, σ'.1 (2 + x) = σ.1 (2 + x) := fun x => by funext k; exact k4 _ _ (by omega)
      have e1 : σ'.1 0 1 = σ.1 0 1 := k4 0 1 (by omega)
      refine ⟨fun x a b c => ?_, ⟨rk, fun x a b c hp => ?_⟩, by rw [k4 0 3 (by omega)]; exact w3, by rw [k4 0 4 (by omega)]; exact w4, by rw [k4 0 5 (by omega)]; exact w5, by rw [k4 0 6 (by omega)]; exact w6, by rw [k4 0 7 (by omega)]; exact w7, fun x a => by rw [ex]; exact w8 x a⟩
      · rw [e1] at c ⊢; rw [ex]; exact w1 x a b c
      · rw [e1] at c
        have ep : pu_par σ' x = pu_par σ x := by unfold pu_par; rw [ex]
        rw [ep] at hp ⊢; exact w2 x a b c hp
  · left
    obtain ⟨r1, r2, r3, r4, r5, r6⟩ := hr
    have Ga : pu_G a := G.same (by rw [r2]) (fun x => by rw [r2])
    have ta : ∀ x, pu_t a x = pu_t σ x := fun x => by show bt (a.1 0 1) x = _; rw [r2]
    dsimp only
    unfold bb_X0_look_2 bb_X7_looks_7
    rw [if_neg (pu_h12 h2), if_neg (pu_h12 h2), pu_has _ _ (by omega), pm_isStream r1, pu_th_nI a h1 h2]
    simp only [Option.bind_some, pu_s1]
    cases hl : bt L j
    · rw [pu_iff]
      cases ht : bt (a.1 0 1) j
      · rw [pu_iff]; exact ⟨a, b, rfl, rfl, r1, r2, r3, fun x hx => r4 x (by omega), r5, r6⟩
      · rw [pu_ift, pm_turnOld r1 Ga ht hl, Option.bind_some, pu_puts_9 b h2]
        refine ⟨a, _, rfl, rfl, ?_, r2, r3, fun x hx => r4 x (by omega), r5, r6.tr (Lm.sl _ _ _)⟩
        have : (qm_sl b 211 (16 * j + 9) (b.2 211 (16 * j + 9))).2 211 = b.2 211 := by
          funext i
          rw [qm_sl_at]
          by_cases e : i = 16 * j + 9
          · rw [if_pos e, e]
          · rw [if_neg e]
        rw [this]; exact r1
    · have lj : pu_live σ j = true := by rw [← hL j h1 h2]; exact hl
      have tj : pu_t a j = true := by rw [ta]; exact pu_live_t G lj
      have tj' : bt (a.1 0 1) j = true := tj
      rw [pu_ift, tj', pu_ift, if_pos (pu_in (show j < 13 by omega) (by omega)), pu_clamp (by omega), show 0 + 1 + 1 + j = 2 + j by omega, pc_turnOnLook Ga tj, pm_turnThen r1 Ga tj hl]
      simp only [Option.bind_some]
      rw [pu_puts_9 b h2]
      refine ⟨qm_sl a (2 + j) 12 (pu_tl a j), qm_sl b 211 (16 * j + 9) (pu_tl a j), rfl, rfl, ?_, r2, fun x => ?_, fun x hx => ?_, r5.tr (Lc.sl _ _ _ (by omega)), r6.tr (Lm.sl _ _ _)⟩
      · rw [qm_sl_row]; exact r1.tn h2 _
      · unfold qm_sl; dsimp only; rw [if_neg (by omega)]; exact r3 x
      · rw [qm_sl_ne _ _ _ (by omega)]; exact r4 x (by omega)
  · obtain ⟨r1, r2, r3, r4, r5, r6⟩ := hr
    obtain ⟨b', m1, m2, m3⟩ := pm_looks42 r1 L
    dsimp only
    unfold bb_X0_look_2 bb_X7_looks_7
    rw [if_pos pu_13, if_pos pu_13, m1]
    refine ⟨qm_si a 0 2 L, b', rfl, rfl, m3, fun id k hk => ?_, r5.tr (Lc.si _ _ _ (by omega)), r6.tr m2⟩
    unfold qm_si
    dsimp only
    rw [if_neg hk, r2]
