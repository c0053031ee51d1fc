-- ===== send =====
theorem pu_charge {i : Nat → Nat → Int32} {σ : qm_M} (G : pu_G σ) {B : Nat} (w : WF B σ) (e0 : ∀ x, i (2 + x) 0 = σ.1 (2 + x) 0) (e1 : ∀ x, i (2 + x) 1 = σ.1 (2 + x) 1) (n : Int32) : ∀ (m k at_ : Nat) (l : Nat → Nat → Int64) (τ : qm_M), k + m ≤ 12 → (at_ = 0 ∨ pu_t σ at_ = true) → pu_it (pu_par σ) m at_ = 0 → RT (σ.1, l) (τ.2 211) → ∃ l' τ', (∀ N, m < N → qm_loop (fun x : Int32 × Int32 × qm_M => bb_X0_chargeLine_5 x.2.2 0 n x.1 x.2.1) N (nI at_, nI k, (i, l)) = some (i, l')) ∧ (∀ N, m < N → qm_loop (fun x : Int32 × qm_M => bb_X7_turns_3 x.2 n.toInt64 x.1) N (nI at_, τ) = some τ') ∧ RT (σ.1, l') (τ'.2 211) ∧ (∀ id, 15 ≤ id → l' id = l id) ∧ Lm τ τ' := by
  intro m
  induction m with
  | zero =>
    intro k at_ l τ hk ha hz hR
    have hz : at_ = 0 := hz
    subst hz
    refine ⟨l, τ, fun N hN => ?_, fun N hN => ?_, hR, fun _ _ => rfl, Lm.rf τ⟩
    · obtain ⟨N, rfl⟩ : ∃ q, N = q + 1 := ⟨N - 1, by omega⟩
      refine pu_inr ?_
      show bb_X0_chargeLine_5 (i, l) 0 n (nI 0) (nI k) = _
      unfold bb_X0_chargeLine_5
      rw [if_pos (show nI 0 = 0 from rfl)]
      split <;> rfl
    · obtain ⟨N, rfl⟩ : ∃ q, N = q + 1 := ⟨N - 1, by omega⟩
      refine pu_inr ?_
      show bb_X7_turns_3 τ n.toInt64 (nI 0) = _
      unfold bb_X7_turns_3
      rw [if_pos (show nI 0 = 0 from rfl)]; rfl
  | succ m ih =>
    intro k at_ l τ hk ha hz hR
    by_cases a0 : at_ = 0
    · subst a0
      refine ⟨l, τ, fun N hN => ?_, fun N hN => ?_, hR, fun _ _ => rfl, Lm.rf τ⟩
      · obtain ⟨N, rfl⟩ : ∃ q, N = q + 1 := ⟨N - 1, by omega⟩
        refine pu_inr ?_
        show bb_X0_chargeLine_5 (i, l) 0 n (nI 0) (nI k) = _
        unfold bb_X0_chargeLine_5
        rw [if_pos (show nI 0 = 0 from rfl)]
        split <;> rfl
      · obtain ⟨N, rfl⟩ : ∃ q, N = q + 1 := ⟨N - 1, by omega⟩
        refine pu_inr ?_
        show bb_X7_turns_3 τ n.toInt64 (nI 0) = _
        unfold bb_X7_turns_3
        rw [if_pos (show nI 0 = 0 from rfl)]; rfl
    · have ht := ha.resolve_left a0
      have hb := G.1 at_ ht
      have g := G.2.1 at_ ht
      have ww := pu_wI w hb.1 hb.2 ht
      have hp : pu_t (σ.1, l) at_ = true := ht
      obtain ⟨t1, t2, -⟩ := hR.2.2.1 at_ hb.1 hb.2 ht
      have t1 : τ.2 211 (16 * at_ + 9) = l (2 + at_) 12 := t1
      have wt : τ.2 211 (16 * at_ + 2) = (σ.1 (2 + at_) 1).toInt64 := hR.2.1 at_ 1 hb.1 hb.2 (by omega) ht
      have w64 : (σ.1 (2 + at_) 1).toInt64 = lN (pu_w σ at_) := by rw [ww.2.2, pu_nI64 (by omega)]
      have hR2 := (hR.fl g.1 (l (2 + at_) 12)).tn hb.2 (l (2 + at_) 12 + n.toInt64 * 720720 / lN (pu_w σ at_))
      obtain ⟨l', τ', i1, i2, i3, i4, i5⟩ := ih (k + 1) (pu_par σ at_) (qm_sl (qm_sl (σ.1, l) (2 + pu_par σ at_) 13 (l (2 + at_) 12)) (2 + at_) 12 (l (2 + at_) 12 + n.toInt64 * 720720 / lN (pu_w σ at_))).2 (qm_sl (qm_sl τ 211 (16 * pu_par σ at_ + 10) (l (2 + at_) 12)) 211 (16 * at_ + 9) (l (2 + at_) 12 + n.toInt64 * 720720 / lN (pu_w σ at_))) (by omega) g.2.2 hz (by rw [qm_sl_row, qm_sl_row]; exact hR2)
      have nz : ¬ nI at_ = 0 := by show ¬ nI at_ = nI 0; rw [pu_eq (by omega) (by omega)]; exact a0
      refine ⟨l', τ', fun N hN => ?_, fun N hN => ?_, i3, fun id hid => ?_, ((Lm.sl _ _ _).tr (Lm.sl _ _ _)).tr i5⟩
      · obtain ⟨N, rfl⟩ : ∃ q, N = q + 1 := ⟨N - 1, by omega⟩
        rw [← i1 N (by omega)]
        refine pu_inl ?_
        show bb_X0_chargeLine_5 (i, l) 0 n (nI at_) (nI k) = _
        unfold bb_X0_chargeLine_5
        rw [if_neg (show ¬ (12 : Int32) ≤ nI k by show ¬ nI 12 ≤ nI k; rw [pu_le (by omega) (by omega)]; omega), if_neg nz, if_pos (pu_in (show at_ < 13 by omega) (by omega)), pu_clamp (by omega), show 0 + 1 + 1 + at_ = 2 + at_ by omega]
        rw [show ((i, l) : qm_M).1 (2 + at_) 0 = nI (pu_par σ at_) from (e0 at_).trans g.2.1, if_pos (pu_in (show pu_par σ at_ < 13 by omega) (by omega)), pu_clamp (by omega), show 0 + 1 + 1 + pu_par σ at_ = 2 + pu_par σ at_ by omega]
        simp only [Option.bind_some]
        unfold fn_X6_cut
        have ei : (qm_sl (i, l) (2 + pu_par σ at_) 13 (l (2 + at_) 12)).1 (2 + at_) 1 = σ.1 (2 + at_) 1 := e1 at_
        rw [ei, w64, if_pos (by rw [lg_cmp_ge, show (1 : Int64) = lN 1 from rfl, pk_lLE (by omega) (by omega)]; omega), if_pos (by rw [show (0 : Int64) = lN 0 from rfl, pk_lEQ (by omega) (by omega)]; omega)]
        simp only [Option.bind_some, pu_s1]
        have et : (qm_sl (i, l) (2 + pu_par σ at_) 13 (l (2 + at_) 12)).2 (2 + at_) 12 = l (2 + at_) 12 := by
          unfold qm_sl; dsimp only; rw [if_neg (by omega)]
        have ez : (qm_sl (qm_sl (i, l) (2 + pu_par σ at_) 13 (l (2 + at_) 12)) (2 + at_) 12 (l (2 + at_) 12 + n.toInt64 * 720720 / lN (pu_w σ at_))).1 (2 + at_) 0 = nI (pu_par σ at_) := (e0 at_).trans g.2.1
        rw [et, ez]; rfl
      · obtain ⟨N, rfl⟩ : ∃ q, N = q + 1 := ⟨N - 1, by omega⟩
        rw [← i2 N (by omega)]
        refine pu_inl ?_
        show bb_X7_turns_3 τ n.toInt64 (nI at_) = _
        unfold bb_X7_turns_3
        have gp : σ.1 (2 + at_) 0 = nI (pu_par σ at_) := g.2.1
        rw [if_neg nz, pm_parent hR hb.1 hb.2 ht, Option.bind_some]
        dsimp only
        rw [gp, pu_its_9 τ hb.2, Option.bind_some, pu_puts_10 τ g.1, Option.bind_some, pu_its_9 _ hb.2, Option.bind_some, pu_its_2 _ hb.2, Option.bind_some, t1]
        have v9 : (qm_sl τ 211 (16 * pu_par σ at_ + 10) (l (2 + at_) 12)).2 211 (16 * at_ + 9) = l (2 + at_) 12 := by rw [qm_sl_at, if_neg (by omega)]; exact t1
        have v2 : (qm_sl τ 211 (16 * pu_par σ at_ + 10) (l (2 + at_) 12)).2 211 (16 * at_ + 2) = lN (pu_w σ at_) := by rw [qm_sl_at, if_neg (by omega), wt]; exact w64
        rw [v9, v2, if_pos (by rw [show (0 : Int64) = lN 0 from rfl, pk_lEQ (by omega) (by omega)]; omega), pu_puts_9 _ hb.2, Option.bind_some]
        have hR3 : RT (qm_sl (qm_sl (σ.1, l) (2 + pu_par σ at_) 13 (l (2 + at_) 12)) (2 + at_) 12 (l (2 + at_) 12 + n.toInt64 * 720720 / lN (pu_w σ at_))) ((qm_sl (qm_sl τ 211 (16 * pu_par σ at_ + 10) (l (2 + at_) 12)) 211 (16 * at_ + 9) (l (2 + at_) 12 + n.toInt64 * 720720 / lN (pu_w σ at_))).2 211) := by rw [qm_sl_row, qm_sl_row]; exact hR2
        rw [pm_parent hR3 hb.1 hb.2 ht, Option.bind_some]
        show some (Sum.inl (σ.1 (2 + at_) 0, _)) = _
        rw [gp]
      · rw [i4 id hid]
        unfold qm_sl
        dsimp only
        funext j
        rw [if_neg (by omega), if_neg (by omega)]
def pu_bytes (σ : qm_M) (s : Nat) : Nat := Nat.min (Nat.min (σ.1 0 4).toNatClampNeg (σ.1 0 3).toNatClampNeg) (Nat.min (σ.1 (2 + s) 2).toNatClampNeg (σ.1 (2 + s) 3).toNatClampNeg)
theorem pu_jmin (σ : qm_M) {a b : Nat} (ha : a < 2147483648) (hb : b < 2147483648) : fn_J_min σ (nI a) (nI b) = some (nI (Nat.min a b)) := by
  unfold fn_J_min
  by_cases c : b < a
  · rw [if_pos ((pu_lt hb ha).mpr c), show Nat.min a b = b from Nat.min_eq_right (by omega)]
  · rw [if_neg (fun q => c ((pu_lt hb ha).mp q)), show Nat.min a b = a from Nat.min_eq_left (by omega)]
theorem pu_send {B : Nat} (hB : B ≤ 1000000) {σ τ : qm_M} (h : RT σ (τ.2 211)) (w : WF B σ) {s : Nat} (ht : pu_t σ s = true) : ∃ σ' τ', fn_X0_send σ 0 (nI s) = some σ' ∧ ((fn_X7_bytesOf τ (nI s)).bind fun r4 => if (lg_cmp (τ.2 211 (211 : Int32).toNatClampNeg) 0) = 0 then (fn_X7_turns τ (nI s) r4).bind (fun r50 => bb_X7_isSent_46 r50 (nI s) (pu_set (pu_can σ)) r4) else bb_X7_isSent_46 τ (nI s) (pu_set (pu_can σ)) r4) = lp_X7_isSent_151 τ' (nI s) (pu_set (pu_can σ)) 1 ∧ RT σ' (τ'.2 211) ∧ WF (B + 1) σ' ∧ Lc σ σ' ∧ Lm τ τ' ∧ σ'.1 0 1 = σ.1 0 1 := by
  have G := pu_G.of h w
  have hs := G.1 s ht
  generalize pu_set (pu_can σ) = C
  obtain ⟨pl, pl1, pl2⟩ := w.2.2.1
  obtain ⟨sz, sz0, sz1, sz2⟩ := w.2.2.2.1
  obtain ⟨-, -, ⟨rd, rd1, rd2⟩, ⟨wn, wn1, wn2⟩, -, -, -, -, ⟨st, st1, st2⟩, -, -, -⟩ := w.1 s hs.1 hs.2 ht
  obtain ⟨fr, fr1, fr2⟩ := w.2.2.2.2.2.2.1
  have eB : pu_bytes σ s = Nat.min (Nat.min sz pl) (Nat.min rd wn) := by
    unfold pu_bytes; rw [pl2, sz2, rd2, wn2, pu_clamp (by omega), pu_clamp (by omega), pu_clamp (by omega), pu_clamp (by omega)]
  generalize hn : Nat.min (Nat.min sz pl) (Nat.min rd wn) = n at eB
  have n1 : n ≤ sz := by rw [← hn]; exact Nat.le_trans (Nat.min_le_left _ _) (Nat.min_le_left _ _)
  have n2 : n ≤ pl := by rw [← hn]; exact Nat.le_trans (Nat.min_le_left _ _) (Nat.min_le_right _ _)
  have n3 : n ≤ rd := by rw [← hn]; exact Nat.le_trans (Nat.min_le_right _ _) (Nat.min_le_left _ _)
  have n4 : n ≤ wn := by rw [← hn]; exact Nat.le_trans (Nat.min_le_right _ _) (Nat.min_le_right _ _)
  -- the model's bytes
  have g0 : τ.2 211 (208 : Int32).toNatClampNeg = lN pl := by
    have : τ.2 211 (208 : Int32).toNatClampNeg = (σ.1 0 3).toInt64 := h.2.2.2.2.1 0 (by omega)
    rw [this, pl2, pu_nI64 (by omega)]
  have g1 : τ.2 211 (209 : Int32).toNatClampNeg = lN sz := by
    have : τ.2 211 (209 : Int32).toNatClampNeg = (σ.1 0 4).toInt64 := h.2.2.2.2.1 1 (by omega)
    rw [this, sz2, pu_nI64 (by omega)]
  have g3 : τ.2 211 (16 * s + 3) = lN rd := by
    have : τ.2 211 (16 * s + 3) = (σ.1 (2 + s) 2).toInt64 := h.2.1 s 2 hs.1 hs.2 (by omega) ht
    rw [this, rd2, pu_nI64 (by omega)]
  have g4 : τ.2 211 (16 * s + 4) = lN wn := by
    have : τ.2 211 (16 * s + 4) = (σ.1 (2 + s) 3).toInt64 := h.2.1 s 3 hs.1 hs.2 (by omega) ht
    rw [this, wn2, pu_nI64 (by omega)]
  have lmin : ∀ a b : Nat, a < 2 ^ 31 → b < 2 ^ 31 → (if 0 ≤ lg_cmp (lN a) (lN b) then lN b else lN a) = lN (Nat.min b a) := by
    intro a b ha hb
    by_cases c : b ≤ a
    · rw [if_pos (by rw [lg_cmp_ge, pk_lLE (by omega) (by omega)]; exact c), show Nat.min b a = b from Nat.min_eq_left c]
    · rw [if_neg (by rw [lg_cmp_ge, pk_lLE (by omega) (by omega)]; exact c), show Nat.min b a = a from Nat.min_eq_right (by omega)]
  have b56 : ∀ k, k < 2 ^ 31 → bb_X7_bytesOf_56 τ (nI s) (lN k) = some (lN (Nat.min k wn)) := by
    intro k hk
    unfold bb_X7_bytesOf_56
    rw [pu_its_4 τ hs.2, g4]
    simp only [Option.bind_some]
    rw [← lmin wn k (by omega) hk]
    split <;> rfl
  have b34 : ∀ k, k < 2 ^ 31 → bb_X7_bytesOf_34 τ (nI s) (lN k) = some (lN (Nat.min (Nat.min k rd) wn)) := by
    intro k hk
    unfold bb_X7_bytesOf_34
    rw [pu_its_3 τ hs.2, g3]
    simp only [Option.bind_some]
    by_cases c : 0 ≤ lg_cmp (lN rd) (lN k)
    · have := lmin rd k (by omega) hk
      rw [if_pos c] at this ⊢
      rw [this, b56 _ (by have := Nat.min_le_left k rd; have e : Nat.min k rd ≤ k := this; omega)]
    · have := lmin rd k (by omega) hk
      rw [if_neg c] at this ⊢
      rw [this, b56 _ (by have := Nat.min_le_left k rd; have e : Nat.min k rd ≤ k := this; omega)]
  have mb : fn_X7_bytesOf τ (nI s) = some (nI n).toInt64 := by
    unfold fn_X7_bytesOf
    rw [g1, g0, Option.bind_some, pu_nI64 (show n < 2147483648 by omega)]
    have e : n = Nat.min (Nat.min (Nat.min sz pl) rd) wn := by
      rw [← hn]; exact (Nat.min_assoc _ _ _).symm
    have lm := lmin pl sz (by omega) (by omega)
    have bd : Nat.min sz pl < 2 ^ 31 := by have := Nat.min_le_left sz pl; have e : Nat.min sz pl ≤ sz := this; omega
    by_cases c : 0 ≤ lg_cmp (lN pl) (lN sz)
    · rw [if_pos c] at lm ⊢
      rw [lm, b34 _ bd, e]
    · rw [if_neg c] at lm ⊢
      rw [lm, b34 _ bd, e]
  rw [mb, Option.bind_some]
  have sc : (lg_cmp (τ.2 211 (211 : Int32).toNatClampNeg) 0 = 0) ↔ σ.1 0 6 = 0 := by
    have : τ.2 211 (211 : Int32).toNatClampNeg = (σ.1 0 6).toInt64 := h.2.2.2.2.1 3 (by omega)
    rw [this, lg_cmp_eq, show (0 : Int64) = (0 : Int32).toInt64 from rfl, pu_64inj]
  -- the rest, on any longs
  have rest : ∀ (l : Nat → Nat → Int64) (τ2 : qm_M), RT (σ.1, l) (τ2.2 211) → (∀ id, 15 ≤ id → l id = σ.2 id) → Lm τ τ2 → ∃ σ' τ', bb_X0_send_86 (qm_si (qm_si (qm_si (qm_si (σ.1, l) 0 3 (nI (pl - n))) (2 + s) 2 (nI (rd - n))) (2 + s) 3 (nI (wn - n))) (2 + s) 8 (nI (st + n))) 0 (nI s) (2 + s) (nI n) = some σ' ∧ bb_X7_isSent_46 τ2 (nI s) C (nI n).toInt64 = lp_X7_isSent_151 τ' (nI s) C 1 ∧ RT σ' (τ'.2 211) ∧ WF (B + 1) σ' ∧ Lc σ σ' ∧ Lm τ τ' ∧ σ'.1 0 1 = σ.1 0 1 := by
    intro l τ2 hR hl hm
    have w0 : WF (B + 1) (σ.1, l) := (w.mono (by omega)).cong (fun _ _ => rfl)
    have x1 := hR.gl (k := 0) (by omega) (nI (pl - n))
    have x2 := x1.wr hs.2 (show 2 < 12 by omega) (nI (rd - n))
    have x3 := x2.wr hs.2 (show 3 < 12 by omega) (nI (wn - n))
    have x4 := x3.wr hs.2 (show 8 < 12 by omega) (nI (st + n))
    have x5 := x4.gl (k := 4) (by omega) (nI (fr + 1))
    have x6 := x5.wr hs.2 (show 11 < 12 by omega) (nI (fr + 1))
    have x7 := x6.gl (k := 5) (by omega) (nI n)
    have x8 := x7.gl (k := 6) (by omega) (nI s)
    have y1 : WF (B + 1) (qm_si (σ.1, l) 0 3 (nI (pl - n))) := w0.gl (k := 0) (by omega) ⟨fun _ => by omega, fun q => absurd q (by omega), fun q => absurd q (by omega), fun q => absurd q (by omega)⟩
    have y2 := y1.wr hs.2 (show 2 ≠ 0 by omega) (nI (rd - n)) (fun a b => WS.k2 (by omega) _ _ _ (y1.1 s a hs.2 b)) (fun q => absurd q (by omega))
    have y3 := y2.wr hs.2 (show 3 ≠ 0 by omega) (nI (wn - n)) (fun a b => WS.k3 (by omega) _ _ _ (y2.1 s a hs.2 b)) (fun q => absurd q (by omega))
    have y4 := y3.wr hs.2 (show 8 ≠ 0 by omega) (nI (st + n)) (fun a b => WS.k8 (by omega) _ _ _ (y3.1 s a hs.2 b)) (fun q => absurd q (by omega))
    have gw : ∀ {σ0 : qm_M} (k : Nat) (x : Int32), WF (B + 1) σ0 → (k = 7 → ∃ n, n ≤ B + 1 ∧ x = nI n) → 7 ≤ k → WF (B + 1) (qm_si σ0 0 k x) := by
      intro σ0 k x ⟨w1, ⟨rk, w2⟩, w3, w4, w5, w6, w7, w8⟩ hx hk
      have e1 : ∀ j, j < 7 → (qm_si σ0 0 k x).1 0 j = σ0.1 0 j := fun j hj => by rw [qm_si_at, if_neg (by omega)]
      have ex : ∀ y, (qm_si σ0 0 k x).1 (2 + y) = σ0.1 (2 + y) := fun y => qm_si_ne _ _ _ (by omega)
      refine ⟨fun y a b c => ?_, ⟨rk, fun y a b c hp => ?_⟩, by rw [e1 3 (by omega)]; exact w3, by rw [e1 4 (by omega)]; exact w4, by rw [e1 5 (by omega)]; exact w5, by rw [e1 6 (by omega)]; exact w6, ?_, fun y a => by rw [ex]; exact w8 y a⟩
      · rw [e1 1 (by omega)] at c ⊢; rw [ex]; exact w1 y a b c
      · rw [e1 1 (by omega)] at c
        have ep : pu_par (qm_si σ0 0 k x) y = pu_par σ0 y := by unfold pu_par; rw [ex]
        rw [ep] at hp ⊢; exact w2 y a b c hp
      · rw [qm_si_at]
        by_cases e : 7 = k
        · rw [if_pos e]; exact hx e.symm
        · rw [if_neg e]; exact w7
    have y5 := gw 7 (nI (fr + 1)) y4 (fun _ => ⟨fr + 1, by omega, rfl⟩) (by omega)
    have y6 := y5.wr hs.2 (show 11 ≠ 0 by omega) (nI (fr + 1)) (fun a b => WS.k11 (by omega) _ _ _ (y5.1 s a hs.2 b)) (fun q => absurd q (by omega))
    have y7 := gw 8 (nI n) y6 (fun q => absurd q (by omega)) (by omega)
    have y8 := gw 9 (nI s) y7 (fun q => absurd q (by omega)) (by omega)
    refine ⟨_, qm_sl (qm_sl (qm_sl (qm_sl (qm_sl (qm_sl (qm_sl (qm_sl τ2 211 (208 + 0) (nI (pl - n)).toInt64) 211 (16 * s + 3) (nI (rd - n)).toInt64) 211 (16 * s + 4) (nI (wn - n)).toInt64) 211 (16 * s + 11) (nI (st + n)).toInt64) 211 (208 + 4) (nI (fr + 1)).toInt64) 211 (16 * s + 14) (nI (fr + 1)).toInt64) 211 (208 + 5) (nI n).toInt64) 211 (208 + 6) (nI s).toInt64, ?_, ?_, ?_, y8, ?_, ?_, ?_⟩
    · unfold bb_X0_send_86
      simp only [Option.bind_some]
      have ef : (qm_si (qm_si (qm_si (qm_si (σ.1, l) 0 3 (nI (pl - n))) (2 + s) 2 (nI (rd - n))) (2 + s) 3 (nI (wn - n))) (2 + s) 8 (nI (st + n))).1 0 7 = nI fr := by
        rw [qm_si_ne _ _ _ (by omega), qm_si_ne _ _ _ (by omega), qm_si_ne _ _ _ (by omega), qm_si_at, if_neg (by omega)]; exact fr2
      rw [ef, pu_s1, qm_si_at, if_pos rfl]
    · unfold bb_X7_isSent_46
      have h208 : (208 : Int32).toNatClampNeg = 208 + 0 := rfl
      have h212 : (212 : Int32).toNatClampNeg = 208 + 4 := rfl
      have h213 : (213 : Int32).toNatClampNeg = 208 + 5 := rfl
      have h214 : (214 : Int32).toNatClampNeg = 208 + 6 := rfl
      rw [h208, h212, h213, h214]
      have sub64 : ∀ a, n ≤ a → a < 2147483648 → (nI a).toInt64 - (nI n).toInt64 = (nI (a - n)).toInt64 := fun a ha hb => by
        rw [pu_nI64 hb, pu_nI64 (by omega), pu_nI64 (by omega), lN_sub ha]
      have q0 : τ2.2 211 (208 + 0) = (nI pl).toInt64 := by
        have : τ2.2 211 (208 + 0) = (σ.1 0 3).toInt64 := hR.2.2.2.2.1 0 (by omega)
        rw [this, pl2]
      have q3 : τ2.2 211 (16 * s + 3) = (nI rd).toInt64 := by
        have : τ2.2 211 (16 * s + 3) = (σ.1 (2 + s) 2).toInt64 := hR.2.1 s 2 hs.1 hs.2 (by omega) ht
        rw [this, rd2]
      have q4 : τ2.2 211 (16 * s + 4) = (nI wn).toInt64 := by
        have : τ2.2 211 (16 * s + 4) = (σ.1 (2 + s) 3).toInt64 := hR.2.1 s 3 hs.1 hs.2 (by omega) ht
        rw [this, wn2]
      have q11 : τ2.2 211 (16 * s + 11) = (nI st).toInt64 := by
        have : τ2.2 211 (16 * s + 11) = (σ.1 (2 + s) 8).toInt64 := hR.2.1 s 8 hs.1 hs.2 (by omega) ht
        rw [this, st2]
      have q12 : τ2.2 211 (208 + 4) = (nI fr).toInt64 := by
        have : τ2.2 211 (208 + 4) = (σ.1 0 7).toInt64 := hR.2.2.2.2.1 4 (by omega)
        rw [this, fr2]
      rw [q0, sub64 pl n2 (by omega), Option.bind_some]
      rw [pu_its_3 _ hs.2, Option.bind_some, qm_sl_at, if_neg (by omega), q3, sub64 rd n3 (by omega), pu_puts_3 _ hs.2, Option.bind_some]
      rw [pu_its_4 _ hs.2, Option.bind_some, qm_sl_at, if_neg (by omega), qm_sl_at, if_neg (by omega), q4, sub64 wn n4 (by omega), pu_puts_4 _ hs.2, Option.bind_some]
      rw [pu_its_11 _ hs.2, Option.bind_some, qm_sl_at, if_neg (by omega), qm_sl_at, if_neg (by omega), qm_sl_at, if_neg (by omega), q11, pu_64add (by omega), pu_puts_11 _ hs.2, Option.bind_some]
      rw [qm_sl_at, if_neg (by omega), qm_sl_at, if_neg (by omega), qm_sl_at, if_neg (by omega), qm_sl_at, if_neg (by omega), q12, show (1 : Int64) = (nI 1).toInt64 from rfl, pu_64add (by omega), Option.bind_some]
      rw [qm_sl_at, if_pos rfl, pu_puts_14 _ hs.2, Option.bind_some, Option.bind_some, Option.bind_some]
    · rw [qm_sl_row, qm_sl_row, qm_sl_row, qm_sl_row, qm_sl_row, qm_sl_row, qm_sl_row, qm_sl_row]; exact x8
    · refine Lc.tr (b := ((σ.1, l) : qm_M)) (fun id hid => ⟨rfl, hl id hid⟩) ?_
      exact ((((((((Lc.si _ _ _ (by omega)).tr (Lc.si _ _ _ (by omega))).tr (Lc.si _ _ _ (by omega))).tr (Lc.si _ _ _ (by omega))).tr (Lc.si _ _ _ (by omega))).tr (Lc.si _ _ _ (by omega))).tr (Lc.si _ _ _ (by omega))).tr (Lc.si _ _ _ (by omega)))
    · exact (((((((hm.tr (Lm.sl _ _ _)).tr (Lm.sl _ _ _)).tr (Lm.sl _ _ _)).tr (Lm.sl _ _ _)).tr (Lm.sl _ _ _)).tr (Lm.sl _ _ _)).tr (Lm.sl _ _ _)).tr (Lm.sl _ _ _)
    · rw [qm_si_at, if_neg (by omega), qm_si_at, if_neg (by omega), qm_si_ne _ _ _ (by omega), qm_si_at, if_neg (by omega), qm_si_ne _ _ _ (by omega), qm_si_ne _ _ _ (by omega), qm_si_ne _ _ _ (by omega), qm_si_at, if_neg (by omega)]
  have ea : ∀ l : Nat → Nat → Int64, (qm_si (qm_si (qm_si (qm_si (σ.1, l) 0 3 (nI (pl - n))) (2 + s) 2 (nI (rd - n))) (2 + s) 3 (nI (wn - n))) (2 + s) 8 (nI (st + n))) = ((qm_si (qm_si (qm_si (qm_si σ 0 3 (nI (pl - n))) (2 + s) 2 (nI (rd - n))) (2 + s) 3 (nI (wn - n))) (2 + s) 8 (nI (st + n))).1, l) := fun l => rfl
  have prog : fn_X0_send σ 0 (nI s) = if (qm_si (qm_si (qm_si (qm_si σ 0 3 (nI (pl - n))) (2 + s) 2 (nI (rd - n))) (2 + s) 3 (nI (wn - n))) (2 + s) 8 (nI (st + n))).1 0 6 = 0 then (fn_X0_chargeLine (qm_si (qm_si (qm_si (qm_si σ 0 3 (nI (pl - n))) (2 + s) 2 (nI (rd - n))) (2 + s) 3 (nI (wn - n))) (2 + s) 8 (nI (st + n))) 0 (nI s) (nI n)).bind (fun r13 => bb_X0_send_86 r13 0 (nI s) (2 + s) (nI n)) else bb_X0_send_86 (qm_si (qm_si (qm_si (qm_si σ 0 3 (nI (pl - n))) (2 + s) 2 (nI (rd - n))) (2 + s) 3 (nI (wn - n))) (2 + s) 8 (nI (st + n))) 0 (nI s) (2 + s) (nI n) := by
    unfold fn_X0_send
    rw [if_pos (pu_in (show s < 13 by omega) (by omega)), pu_clamp (by omega), show 0 + 1 + 1 + s = 2 + s by omega, sz2, pl2, pu_jmin σ (by omega) (by omega), Option.bind_some, rd2, wn2, pu_jmin σ (by omega) (by omega), Option.bind_some, pu_jmin σ (by have := Nat.min_le_left sz pl; have e : Nat.min sz pl ≤ sz := this; omega) (by have := Nat.min_le_left rd wn; have e : Nat.min rd wn ≤ rd := this; omega), hn, Option.bind_some, pk_sub n2]
    simp only [Option.bind_some]
    have r1 : (qm_si σ 0 3 (nI (pl - n))).1 (2 + s) 2 = nI rd := by rw [qm_si_ne _ _ _ (by omega)]; exact rd2
    rw [r1, pk_sub n3]
    have r2 : (qm_si (qm_si σ 0 3 (nI (pl - n))) (2 + s) 2 (nI (rd - n))).1 (2 + s) 3 = nI wn := by rw [qm_si_at, if_neg (by omega), qm_si_ne _ _ _ (by omega)]; exact wn2
    rw [r2, pk_sub n4]
    have r3 : (qm_si (qm_si (qm_si σ 0 3 (nI (pl - n))) (2 + s) 2 (nI (rd - n))) (2 + s) 3 (nI (wn - n))).1 (2 + s) 8 = nI st := by rw [qm_si_at, if_neg (by omega), qm_si_at, if_neg (by omega), qm_si_ne _ _ _ (by omega)]; exact st2
    rw [r3, nI_add]
  have e06 : (qm_si (qm_si (qm_si (qm_si σ 0 3 (nI (pl - n))) (2 + s) 2 (nI (rd - n))) (2 + s) 3 (nI (wn - n))) (2 + s) 8 (nI (st + n))).1 0 6 = σ.1 0 6 := by
    rw [qm_si_ne _ _ _ (by omega), qm_si_ne _ _ _ (by omega), qm_si_ne _ _ _ (by omega), qm_si_at, if_neg (by omega)]
  have ek : ∀ x k, k < 2 → (qm_si (qm_si (qm_si (qm_si σ 0 3 (nI (pl - n))) (2 + s) 2 (nI (rd - n))) (2 + s) 3 (nI (wn - n))) (2 + s) 8 (nI (st + n))).1 (2 + x) k = σ.1 (2 + x) k := by
    intro x k hk
    unfold qm_si
    dsimp only
    rw [if_neg (by omega), if_neg (by omega), if_neg (by omega), if_neg (by omega)]
  by_cases s0 : σ.1 0 6 = 0
  · rw [if_pos (sc.mpr s0)]
    rw [if_pos (by rw [e06]; exact s0)] at prog
    obtain ⟨m, m1, m2, m3, -⟩ := pu_chain G ht
    obtain ⟨l', τ', c1, c2, c3, c4, c5⟩ := pu_charge (i := (qm_si (qm_si (qm_si (qm_si σ 0 3 (nI (pl - n))) (2 + s) 2 (nI (rd - n))) (2 + s) 3 (nI (wn - n))) (2 + s) 8 (nI (st + n))).1) G w (fun x => ek x 0 (by omega)) (fun x => ek x 1 (by omega)) (nI n) m 0 s σ.2 τ (by omega) (Or.inr ht) m3 h
    obtain ⟨σ', τ'', d1, d2, d3⟩ := rest l' τ' c3 c4 c5
    have c1 : fn_X0_chargeLine (qm_si (qm_si (qm_si (qm_si σ 0 3 (nI (pl - n))) (2 + s) 2 (nI (rd - n))) (2 + s) 3 (nI (wn - n))) (2 + s) 8 (nI (st + n))) 0 (nI s) (nI n) = some ((qm_si (qm_si (qm_si (qm_si σ 0 3 (nI (pl - n))) (2 + s) 2 (nI (rd - n))) (2 + s) 3 (nI (wn - n))) (2 + s) 8 (nI (st + n))).1, l') := c1 1000 (by omega)
    have c2 : fn_X7_turns τ (nI s) (nI n).toInt64 = some τ' := c2 1000 (by omega)
    rw [c1, Option.bind_some, ← ea l'] at prog
    rw [c2, Option.bind_some]
    exact ⟨σ', τ'', prog.trans d1, d2, d3⟩
  · rw [if_neg (fun q => s0 (sc.mp q))]
    rw [if_neg (by rw [e06]; exact s0)] at prog
    obtain ⟨σ', τ'', d1, d2, d3⟩ := rest σ.2 τ h (fun _ _ => rfl) (Lm.rf τ)
    exact ⟨σ', τ'', prog.trans d1, d2, d3⟩
