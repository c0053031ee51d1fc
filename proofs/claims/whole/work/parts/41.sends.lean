-- ===== waits, ages, sends =====
theorem pu_for3 {S A R S' A' R' : Type} {body : S → Option (S ⊕ R)} {body' : S' → Option (S' ⊕ R')} (mk : A → Nat → S) (mk' : A' → Nat → S') (Rel : Nat → A → A' → Prop) (Q : R → Option R' → Prop)
    (hb : ∀ a a' j, 1 ≤ j → j ≤ 12 → Rel j a a' → ∃ b b', body (mk a j) = some (.inl (mk b (j + 1))) ∧ body' (mk' a' j) = some (.inl (mk' b' (j + 1))) ∧ Rel (j + 1) b b')
    (he : ∀ a a', Rel 13 a a' → ∃ r y, body (mk a 13) = some (.inr r) ∧ body' (mk' a' 13) = y.bind (fun z => some (.inr z)) ∧ Q r y) : ∀ (m j : Nat) (a : A) (a' : A') (n n' : Nat), j + m = 13 → 1 ≤ j → m < n → m < n' → Rel j a a' → ∃ r y, qm_loop body n (mk a j) = some r ∧ qm_loop body' n' (mk' a' j) = y ∧ Q r y
  | m, j, a, a', 0, _, _, _, h, _, _ => absurd h (by omega)
  | m, j, a, a', _, 0, _, _, _, h, _ => absurd h (by omega)
  | 0, j, a, a', n + 1, n' + 1, hj, _, _, _, hI => by
    have hj : j = 13 := by omega
    subst hj
    obtain ⟨r, y, e1, e2, e3⟩ := he a a' hI
    exact ⟨r, y, pu_inr e1, pu_inb e2, e3⟩
  | m + 1, j, a, a', n + 1, n' + 1, hj, h1, hn, hn', hI => by
    obtain ⟨b, b', e1, e2, e3⟩ := hb a a' j h1 (by omega) hI
    obtain ⟨r, y, x1, x2, x3⟩ := pu_for3 mk mk' Rel Q hb he m (j + 1) b b' n n' (by omega) (by omega) (by omega) (by omega) e3
    exact ⟨r, y, by rw [pu_inl e1]; exact x1, by rw [pu_inl e2]; exact x2, x3⟩
theorem pu_waits {B : Nat} (hB : B ≤ 1000000) {σ τ : qm_M} (h : RT σ (τ.2 211)) (w : WF B σ) {s : Nat} (s1 : 1 ≤ s) (s2 : s ≤ 12) (ts : pu_t σ s = true) {C : Int32} (hC : ∀ j, 1 ≤ j → j ≤ 12 → bt C j = true → pu_t σ j = true) (hs : bt C s = true) : ∃ σ' τ', fn_X0_countWaits σ 0 C (nI s) = some σ' ∧ lp_X7_isSent_151 τ (nI s) C 1 = lp_X7_isSent_244 τ' 1 ∧ RT σ' (τ'.2 211) ∧ WF (B + 1) σ' ∧ Lc σ σ' ∧ Lm τ τ' := by
  have key := pu_for3 (S := Int32 × qm_M) (R := qm_M) (S' := Int32 × qm_M) (R' := Bool × qm_M) (body := fun x => bb_X0_countWaits_2 x.2 0 C (nI s) x.1) (body' := fun x => bb_X7_isSent_151 x.2 (nI s) C x.1) (A := qm_M) (A' := qm_M) (fun a j => (nI j, a)) (fun a j => (nI j, a))
    (fun j a b => RT (if s < j then qm_si a (2 + s) 9 0 else a) (b.2 211) ∧ WF (B + 1) a ∧ a.1 0 = σ.1 0 ∧ (∀ x, j ≤ x → a.1 (2 + x) = σ.1 (2 + x)) ∧ Lc σ a ∧ Lm τ b)
    (fun a y => ∃ b, y = lp_X7_isSent_244 b 1 ∧ RT a (b.2 211) ∧ WF (B + 1) a ∧ Lc σ a ∧ Lm τ b)
    (fun a b j h1 h2 hr => ?_) (fun a b hr => ?_) 12 1 σ τ 1000 1000 rfl (by omega) (by omega) (by omega) ⟨by rw [if_neg (by omega)]; exact h, w.mono (by omega), rfl, fun _ _ => rfl, Lc.rf σ, Lm.rf τ⟩
  · obtain ⟨r, y, k1, k2, b, k3, k4, k5, k6, k7⟩ := key
    exact ⟨r, b, k1, k2.trans k3, k4, k5, k6, k7⟩
  · obtain ⟨r1, r2, r3, r4, r5, r6⟩ := hr
    dsimp only
    unfold bb_X0_countWaits_2 bb_X7_isSent_151
    rw [if_neg (pu_h12 h2), if_neg (pu_h12 h2), pu_has _ _ (by omega)]
    simp only [Option.bind_some, pu_s1]
    cases hc : bt C j
    · have js : s ≠ j := fun e => by rw [← e, hs] at hc; cases hc
      rw [pu_iff, if_neg (fun q => by have := (pu_tst C (by omega)).mp q; rw [hc] at this; cases this)]
      refine ⟨a, b, rfl, rfl, ?_, r2, r3, fun x hx => r4 x (by omega), r5, r6⟩
      by_cases q : s < j
      · rw [if_pos q] at r1; rw [if_pos (by omega)]; exact r1
      · rw [if_neg q] at r1; rw [if_neg (by omega)]; exact r1
    · have tj := hC j h1 h2 hc
      have tja : pu_t a j = true := by show bt (a.1 0 1) j = true; rw [r3]; exact tj
      rw [pu_ift, if_pos ((pu_tst C (by omega)).mpr hc)]
      obtain ⟨-, -, -, -, -, -, -, -, -, ⟨wn, wn1, wn2⟩, ⟨lg, lg1, lg2⟩, -⟩ := w.1 j h1 h2 tj
      have ea := r4 j (Nat.le_refl _)
      by_cases e : j = s
      · subst e
        rw [if_pos rfl, if_pos rfl]
        rw [if_neg (Nat.lt_irrefl j)] at r1
        have e13 : b.2 211 (16 * j + 13) = (a.1 (2 + j) 10).toInt64 := r1.2.1 j 10 h1 h2 (by omega) tja
        unfold bb_X7_isSent_188
        have v13 : (qm_sl b 211 (16 * j + 12) 0).2 211 (16 * j + 13) = b.2 211 (16 * j + 13) := by rw [qm_sl_at, if_neg (by omega)]
        have le : lg_cmp 0 (b.2 211 (16 * j + 13)) ≤ 0 := by rw [e13, ea, lg2, lg_cmp_le, show (0 : Int64) = (nI 0).toInt64 from rfl, pu_64le, pu_le (by omega) (by omega)]; omega
        rw [pu_puts_12 b h2, Option.bind_some, pu_its_13 _ h2, Option.bind_some, v13, if_pos le, Option.bind_some, pu_puts_13 _ h2, Option.bind_some, pu_s1]
        refine ⟨a, _, rfl, rfl, ?_, r2, r3, fun x hx => r4 x (by omega), r5, (r6.tr (Lm.sl _ _ _)).tr (Lm.sl _ _ _)⟩
        rw [if_pos (by omega)]
        have same : (qm_sl (qm_sl b 211 (16 * j + 12) 0) 211 (16 * j + 13) (b.2 211 (16 * j + 13))).2 211 = vp_updL (b.2 211) (16 * j + 12) 0 := by
          rw [qm_sl_row, qm_sl_row]
          funext i
          unfold vp_updL
          by_cases q : i = 16 * j + 13
          · rw [if_pos q, if_neg (by omega), q]
          · rw [if_neg q]
        rw [same]
        exact r1.wr h2 (show 9 < 12 by omega) 0
      · have ne : ¬ nI j = nI s := by rw [pu_eq (by omega) (by omega)]; exact e
        rw [if_neg ne, if_neg ne, if_pos (pu_in (show j < 13 by omega) (by omega)), pu_clamp (by omega), show 0 + 1 + 1 + j = 2 + j by omega]
        -- the base
        have bz : ∃ a0, (if s < j then qm_si a (2 + s) 9 0 else a) = a0 ∧ a0.1 (2 + j) = a.1 (2 + j) ∧ a0.1 0 = a.1 0 ∧ ∀ k x, (if s < j + 1 then qm_si (qm_si a (2 + j) k x) (2 + s) 9 0 else qm_si a (2 + j) k x) = qm_si a0 (2 + j) k x := by
          by_cases q : s < j
          · exact ⟨qm_si a (2 + s) 9 0, by rw [if_pos q], qm_si_ne _ _ _ (by omega), qm_si_ne _ _ _ (by omega), fun k x => by rw [if_pos (by omega)]; exact pu_si_cm a x 0 (by omega)⟩
          · exact ⟨a, by rw [if_neg q], rfl, rfl, fun k x => by rw [if_neg (by omega)]⟩
        obtain ⟨a0, z1, z2, z3, z4⟩ := bz
        rw [z1] at r1
        have tj0 : bt (a0.1 0 1) j = true := by rw [z3]; exact tja
        have e12 : b.2 211 (16 * j + 12) = (nI wn).toInt64 := by
          have : b.2 211 (16 * j + 12) = (a0.1 (2 + j) 9).toInt64 := r1.2.1 j 9 h1 h2 (by omega) tj0
          rw [this, z2, ea, wn2]
        have e13 : b.2 211 (16 * j + 13) = (nI lg).toInt64 := by
          have : b.2 211 (16 * j + 13) = (a0.1 (2 + j) 10).toInt64 := r1.2.1 j 10 h1 h2 (by omega) tj0
          rw [this, z2, ea, lg2]
        have pw : fn_X2_waitOnce a (2 + j) = some (qm_si (qm_si a (2 + j) 9 (nI (wn + 1))) (2 + j) 10 (nI (Nat.max lg (wn + 1)))) := by
          unfold fn_X2_waitOnce
          rw [ea, wn2, pu_s1]
          simp only [Option.bind_some]
          rw [qm_si_at, if_neg (by omega), qm_si_at, if_pos rfl, ea, lg2]
          unfold fn_J_max
          by_cases q : lg < wn + 1
          · rw [if_pos ((pu_lt (by omega) (by omega)).mpr q), show Nat.max lg (wn + 1) = wn + 1 from Nat.max_eq_right (by omega)]; rfl
          · rw [if_neg (fun k => q ((pu_lt (by omega) (by omega)).mp k)), show Nat.max lg (wn + 1) = lg from Nat.max_eq_left (by omega)]; rfl
        have mw : ((fn_X7_its b (nI j) 12).bind fun r38 => bb_X7_isSent_188 b (nI s) C (nI j) (r38 + 1)) = some (.inl (nI (j + 1), qm_sl (qm_sl b 211 (16 * j + 12) (nI (wn + 1)).toInt64) 211 (16 * j + 13) (nI (Nat.max lg (wn + 1))).toInt64)) := by
          rw [pu_its_12 b h2, Option.bind_some, e12, show (1 : Int64) = (nI 1).toInt64 from rfl, pu_64add (by omega)]
          unfold bb_X7_isSent_188
          have v13 : (qm_sl b 211 (16 * j + 12) (nI (wn + 1)).toInt64).2 211 (16 * j + 13) = (nI lg).toInt64 := by rw [qm_sl_at, if_neg (by omega)]; exact e13
          rw [pu_puts_12 b h2, Option.bind_some, pu_its_13 _ h2, Option.bind_some, v13, pu_s1]
          by_cases q : wn + 1 ≤ lg
          · rw [if_pos (by rw [lg_cmp_le, pu_64le, pu_le (by omega) (by omega)]; exact q), Option.bind_some, pu_puts_13 _ h2, show Nat.max lg (wn + 1) = lg from Nat.max_eq_left (by omega)]; rfl
          · rw [if_neg (by rw [lg_cmp_le, pu_64le, pu_le (by omega) (by omega)]; exact q), pu_puts_13 _ h2, show Nat.max lg (wn + 1) = wn + 1 from Nat.max_eq_right (by omega)]; rfl
        rw [pw, mw]
        have mx : Nat.max lg (wn + 1) ≤ B + 1 := Nat.max_le.mpr ⟨by omega, by omega⟩
        have W1 := r2.wr h2 (show 9 ≠ 0 by omega) (nI (wn + 1)) (fun p q => WS.k9 (by omega) _ _ _ (r2.1 j p h2 q)) (fun q => absurd q (by omega))
        have W2 := W1.wr h2 (show 10 ≠ 0 by omega) (nI (Nat.max lg (wn + 1))) (fun p q => WS.k10 mx _ _ _ (W1.1 j p h2 q)) (fun q => absurd q (by omega))
        refine ⟨_, _, rfl, rfl, ?_, W2, ?_, fun x hx => ?_, (r5.tr (Lc.si _ _ _ (by omega))).tr (Lc.si _ _ _ (by omega)), (r6.tr (Lm.sl _ _ _)).tr (Lm.sl _ _ _)⟩
        · have zz : (if s < j + 1 then qm_si (qm_si (qm_si a (2 + j) 9 (nI (wn + 1))) (2 + j) 10 (nI (Nat.max lg (wn + 1)))) (2 + s) 9 0 else qm_si (qm_si a (2 + j) 9 (nI (wn + 1))) (2 + j) 10 (nI (Nat.max lg (wn + 1)))) = qm_si (qm_si a0 (2 + j) 9 (nI (wn + 1))) (2 + j) 10 (nI (Nat.max lg (wn + 1))) := by
            rw [← z4 9 (nI (wn + 1))]
            by_cases q : s < j + 1
            · rw [if_pos q, if_pos q]; exact pu_si_cm _ _ 0 (by omega)
            · rw [if_neg q, if_neg q]
          rw [zz, qm_sl_row, qm_sl_row]
          exact (r1.wr h2 (show 9 < 12 by omega) (nI (wn + 1))).wr h2 (show 10 < 12 by omega) _
        · rw [qm_si_ne _ _ _ (by omega), qm_si_ne _ _ _ (by omega)]; exact r3
        · rw [qm_si_ne _ _ _ (by omega), qm_si_ne _ _ _ (by omega)]; exact r4 x (by omega)
  · obtain ⟨r1, r2, r3, r4, r5, r6⟩ := hr
    rw [if_pos (by omega)] at r1
    dsimp only
    unfold bb_X0_countWaits_2 bb_X7_isSent_151
    rw [if_pos pu_13, if_pos pu_13, if_pos (pu_in (show s < 13 by omega) (by omega)), pu_clamp (by omega), show 0 + 1 + 1 + s = 2 + s by omega]
    refine ⟨_, _, rfl, rfl, b, rfl, r1, ?_, r5.tr (Lc.si _ _ _ (by omega)), r6⟩
    exact r2.wr s2 (show 9 ≠ 0 by omega) 0 (fun p q => WS.k9 (n := 0) (by omega) _ _ _ (r2.1 s p s2 q)) (fun q => absurd q (by omega))
theorem pu_old {B : Nat} (hB : B ≤ 1000000) {σ τ : qm_M} (h : RT σ (τ.2 211)) (w : WF B σ) : ∃ σ' τ', fn_X0_growOld σ 0 = some σ' ∧ lp_X7_isSent_244 τ 1 = (fn_X7_goesAll τ').bind (fun r => some (true, r)) ∧ RT σ' (τ'.2 211) ∧ WF (B + 1) σ' ∧ Lc σ σ' ∧ Lm τ τ' := by
  have key := pu_for3 (S := Int32 × qm_M) (R := qm_M) (S' := Int32 × qm_M) (R' := Bool × qm_M) (body := fun x => bb_X0_growOld_2 x.2 0 x.1) (body' := fun x => bb_X7_isSent_244 x.2 x.1) (A := qm_M) (A' := qm_M) (fun a j => (nI j, a)) (fun a j => (nI j, a))
    (fun j a b => RT a (b.2 211) ∧ WF (B + 1) a ∧ a.1 0 = σ.1 0 ∧ (∀ x, j ≤ x → a.1 (2 + x) = σ.1 (2 + x)) ∧ Lc σ a ∧ Lm τ b)
    (fun a y => ∃ b, y = (fn_X7_goesAll b).bind (fun r => some (true, r)) ∧ RT a (b.2 211) ∧ WF (B + 1) a ∧ Lc σ a ∧ Lm τ b)
    (fun a b j h1 h2 hr => ?_) (fun a b hr => ?_) 12 1 σ τ 1000 1000 rfl (by omega) (by omega) (by omega) ⟨h, w.mono (by omega), rfl, fun _ _ => rfl, Lc.rf σ, Lm.rf τ⟩
  · obtain ⟨r, y, k1, k2, b, k3, k4, k5, k6, k7⟩ := key
    exact ⟨r, b, k1, k2.trans k3, k4, k5, k6, k7⟩
  · obtain ⟨r1, r2, r3, r4, r5, r6⟩ := hr
    dsimp only
    unfold bb_X0_growOld_2 bb_X7_isSent_244
    rw [if_neg (pu_h12 h2), if_neg (pu_h12 h2), pu_has _ _ (by omega), pm_isStream r1, pu_th_nI a h1 h2]
    simp only [Option.bind_some, pu_s1]
    cases ht : bt (a.1 0 1) j
    · rw [pu_iff, pu_iff]; exact ⟨a, b, rfl, rfl, r1, r2, r3, fun x hx => r4 x (by omega), r5, r6⟩
    · have tj : bt (σ.1 0 1) j = true := by rw [← r3]; exact ht
      obtain ⟨-, -, -, -, -, -, -, ⟨ag, ag1, ag2⟩, -⟩ := w.1 j h1 h2 tj
      have ea := r4 j (Nat.le_refl _)
      have e7 : b.2 211 (16 * j + 7) = (a.1 (2 + j) 6).toInt64 := r1.2.1 j 6 h1 h2 (by omega) ht
      have e8 : b.2 211 (16 * j + 8) = (a.1 (2 + j) 7).toInt64 := r1.2.1 j 7 h1 h2 (by omega) ht
      have co : (lg_cmp (b.2 211 (16 * j + 7)) 0 = 0) ↔ a.1 (2 + j) 6 = 0 := by
        rw [lg_cmp_eq, e7, show (0 : Int64) = (0 : Int32).toInt64 from rfl, pu_64inj]
      have inj := pu_in (show j < 13 by omega) (by omega : 13 < 2147483648)
      rw [pu_clamp (by omega)] at inj
      rw [pu_ift, pu_ift, pu_clamp (by omega), if_pos inj, show 0 + 1 + 1 + j = 2 + j by omega, pu_its_7 b h2, Option.bind_some]
      by_cases o : a.1 (2 + j) 6 = 0
      · rw [if_pos o, if_pos (co.mpr o), if_pos inj, pu_its_8 b h2, Option.bind_some, e8, ea, ag2, pu_s1, show (1 : Int64) = (nI 1).toInt64 from rfl, pu_64add (by omega), pu_puts_8 b h2]
        have W1 := r2.wr h2 (show 7 ≠ 0 by omega) (nI (ag + 1)) (fun p q => WS.k7 (by omega) _ _ _ (r2.1 j p h2 q)) (fun q => absurd q (by omega))
        refine ⟨_, _, rfl, rfl, ?_, W1, ?_, fun x hx => ?_, r5.tr (Lc.si _ _ _ (by omega)), r6.tr (Lm.sl _ _ _)⟩
        · rw [qm_sl_row]; exact r1.wr h2 (show 7 < 12 by omega) _
        · rw [qm_si_ne _ _ _ (by omega)]; exact r3
        · rw [qm_si_ne _ _ _ (by omega)]; exact r4 x (by omega)
      · rw [if_neg o, if_neg (fun q => o (co.mp q))]; exact ⟨a, b, rfl, rfl, r1, r2, r3, fun x hx => r4 x (by omega), r5, r6⟩
  · obtain ⟨r1, r2, r3, r4, r5, r6⟩ := hr
    dsimp only
    unfold bb_X0_growOld_2 bb_X7_isSent_244
    rw [if_pos pu_13, if_pos pu_13]
    exact ⟨_, _, rfl, rfl, b, rfl, r1, r2, r5, r6⟩
