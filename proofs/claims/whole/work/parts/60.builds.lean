-- ===== builds =====
theorem Inv.fp {B : Nat} {σ σ' τ τ' : qm_M} (h : Inv B σ τ) (f : FP σ σ') (g : FM τ τ') : Inv B σ' τ' := by
  obtain ⟨h1, h2, h3, h4, h5⟩ := h
  obtain ⟨f1, f2, f3⟩ := f
  obtain ⟨g1, g2, g3⟩ := g
  refine ⟨by rw [g1]; exact h1.cong (fun r hr => ⟨f2 r (by omega) (by omega), by rw [f1]⟩), h2.cong (fun r hr => f2 r (by omega) (by omega)), h3.cong (fun id _ _ => ⟨f2 id (by omega) (by omega), by rw [f1]⟩) (by rw [f2 200 (by omega) (by omega)]) (by rw [f2 200 (by omega) (by omega)]) (by rw [g1]) (g3 2 (by omega)), ?_, ?_⟩
  · unfold Cnt at h4 ⊢; rw [f2 200 (by omega) (by omega), g2 213 (by omega) (by omega)]; exact h4
  · unfold Txt at h5 ⊢; rw [f3, f2 203 (by omega) (by omega), g3 7 (by omega), g2 214 (by omega) (by omega)]; exact h5
theorem FP.fc {σ σ' : qm_M} (f : FP σ σ') : Fc σ σ' := fun id hid => ⟨f.2.1 id (by omega) (by omega), by rw [f.1]⟩
theorem FM.fm {τ τ' : qm_M} (f : FM τ τ') : Fm τ τ' := fun id hid => ⟨f.2.1 id (by omega) (by omega), by rw [f.1]⟩
theorem PA.cong {σ σ' : qm_M} {c : Nat} {nm wt pa : Nat → Nat} (h : PA σ c nm wt pa) (e : ∀ id, 202 ≤ id → id ≤ 207 → σ'.1 id = σ.1 id) : PA σ' c nm wt pa := by
  obtain ⟨a1, a2, a3⟩ := h
  refine ⟨by rw [e 202 (by omega) (by omega)]; exact a1, fun i hi => ?_, fun k hk => ?_⟩
  · rw [e 204 (by omega) (by omega), e 205 (by omega) (by omega), e 206 (by omega) (by omega), e 207 (by omega) (by omega)]; exact a2 i hi
  · rw [e 202 (by omega) (by omega)]; exact a3 k hk
theorem PB.cong {τ τ' : qm_M} {c : Nat} {nm wt pa : Nat → Nat} (h : PB τ c nm wt pa) (e0 : τ'.1 210 10 = τ.1 210 10) (e : ∀ id, 215 ≤ id → id ≤ 217 → τ'.1 id = τ.1 id) : PB τ' c nm wt pa := by
  obtain ⟨a1, a2⟩ := h
  refine ⟨by rw [e0]; exact a1, fun i hi => ?_⟩
  rw [e 215 (by omega) (by omega), e 216 (by omega) (by omega), e 217 (by omega) (by omega)]; exact a2 i hi
/-- the emptied tree, the emptied row -/
def pu_em (σ : qm_M) : qm_M := qm_sl (qm_si σ 0 1 0) 2 13 0
def pu_mz (τ : qm_M) (j : Nat) : qm_M := (τ.1, fun id i => if id = 211 ∧ i < j then 0 else τ.2 id i)
theorem pc_empty (σ : qm_M) : fn_X3_empty σ 0 = some (pu_em σ) := rfl
theorem pm_zero {τ : qm_M} {r : Int32 × qm_M} (hr : lp_X7_builds_43 (pu_mz τ 208) 0 = some r) : lp_X7_builds_21 τ 0 = some r := by
  have key : ∀ m j n, j + m = 208 → m < n → qm_loop (fun s : Int32 × qm_M => bb_X7_builds_21 s.2 s.1) n (nI j, pu_mz τ j) = some r := by
    intro m
    induction m with
    | zero =>
      intro j n hj hn
      obtain ⟨n, rfl⟩ : ∃ q, n = q + 1 := ⟨n - 1, by omega⟩
      have hj : j = 208 := by omega
      subst hj
      refine pu_inr ?_
      show bb_X7_builds_21 (pu_mz τ 208) (nI 208) = _
      unfold bb_X7_builds_21
      rw [if_pos (by decide), hr]; rfl
    | succ m ih =>
      intro j n hj hn
      obtain ⟨n, rfl⟩ : ∃ q, n = q + 1 := ⟨n - 1, by omega⟩
      rw [← ih (j + 1) n (by omega) (by omega)]
      refine pu_inl ?_
      show bb_X7_builds_21 (pu_mz τ j) (nI j) = _
      unfold bb_X7_builds_21
      have e : qm_sl (pu_mz τ j) 211 j 0 = pu_mz τ (j + 1) := by
        refine Prod.ext rfl (funext fun id => funext fun i => ?_)
        unfold qm_sl pu_mz
        dsimp only
        by_cases q : id = 211 ∧ i = j
        · rw [if_pos q, if_pos (by omega)]
        · rw [if_neg q]
          by_cases q2 : id = 211 ∧ i < j
          · rw [if_pos q2, if_pos (by omega)]
          · rw [if_neg q2, if_neg (by omega)]
      rw [if_neg (show ¬ (208 : Int32) ≤ nI j by show ¬ nI 208 ≤ nI j; rw [pu_le (by omega) (by omega)]; omega), if_pos (pu_in (show j < 215 by omega) (by omega)), pu_clamp (by omega), e, pu_s1]; rfl
  have e : pu_mz τ 0 = τ := by
    refine Prod.ext rfl (funext fun id => funext fun i => ?_)
    unfold pu_mz
    dsimp only
    rw [if_neg (by omega)]
  have := key 208 0 1000 rfl (by omega)
  rw [e] at this
  exact this
theorem RT.em {σ τ : qm_M} (h : RT σ (τ.2 211)) : RT (pu_em σ) ((pu_mz τ 208).2 211) := by
  obtain ⟨r1, r2, r3, r4, r5, r6⟩ := h
  have t0 : (pu_em σ).1 0 1 = 0 := by
    show (qm_si σ 0 1 0).1 0 1 = 0
    rw [qm_si_at, if_pos rfl]
  have z : ∀ i, i < 208 → (pu_mz τ 208).2 211 i = 0 := fun i hi => by
    show (if 211 = 211 ∧ i < 208 then 0 else τ.2 211 i) = 0
    rw [if_pos ⟨rfl, hi⟩]
  refine ⟨fun s a b => ?_, fun s k a b c d => ?_, fun s a b d => ?_, ?_, fun k a => ?_, fun i _ _ => ?_⟩
  · rw [t0, b_0, z _ (by omega)]; rfl
  · rw [t0, b_0] at d; cases d
  · rw [t0, b_0] at d; cases d
  · rw [z _ (by omega)]
    show _ = (qm_sl (qm_si σ 0 1 0) 2 13 0).2 2 13
    rw [qm_sl_at, if_pos rfl]
  · have e1 : (pu_mz τ 208).2 211 (208 + k) = τ.2 211 (208 + k) := by
      show (if 211 = 211 ∧ 208 + k < 208 then 0 else τ.2 211 (208 + k)) = _
      rw [if_neg (by omega)]
    have e2 : (pu_em σ).1 0 (3 + k) = σ.1 0 (3 + k) := by
      show (qm_si σ 0 1 0).1 0 (3 + k) = _
      rw [qm_si_at, if_neg (by omega)]
    rw [e1, e2]; exact r5 k a
  · rw [t0, b_0]
theorem WF.em {B : Nat} {σ : qm_M} (h : WF B σ) : WF B (pu_em σ) := by
  obtain ⟨h1, h2, h3, h4, h5, h6, h7, h8⟩ := h
  have t0 : (pu_em σ).1 0 1 = 0 := by
    show (qm_si σ 0 1 0).1 0 1 = 0
    rw [qm_si_at, if_pos rfl]
  have e2 : ∀ k, 3 ≤ k → (pu_em σ).1 0 k = σ.1 0 k := fun k hk => by
    show (qm_si σ 0 1 0).1 0 k = _
    rw [qm_si_at, if_neg (by omega)]
  refine ⟨fun s a b c => ?_, ⟨fun _ => 0, fun s a b c => ?_⟩, by rw [e2 3 (by omega)]; exact h3, by rw [e2 4 (by omega)]; exact h4, by rw [e2 5 (by omega)]; exact h5, by rw [e2 6 (by omega)]; exact h6, by rw [e2 7 (by omega)]; exact h7, fun s a => ?_⟩
  · rw [t0, b_0] at c; cases c
  · rw [t0, b_0] at c; cases c
  · have e : (pu_em σ).1 (2 + s) = σ.1 (2 + s) := qm_si_ne _ _ _ (by omega)
    rw [e]; exact h8 s a
theorem pu_em_L (σ : qm_M) : Lc σ (pu_em σ) := (Lc.si σ _ _ (by omega)).tr (Lc.sl _ _ _ (by omega))
theorem pu_mz_L (τ : qm_M) (j : Nat) : Lm τ (pu_mz τ j) := ⟨rfl, fun id hid => funext fun i => by
  show (if id = 211 ∧ i < j then 0 else τ.2 id i) = _
  rw [if_neg (fun q => hid q.1)]⟩
/-- one more stream, hung on one that is there -/
theorem pu_one {B : Nat} {a b : qm_M} (hR0 : RT a (b.2 211)) (hW0 : WF B a) {s n q : Nat} (h1 : 1 ≤ s) (h2 : s ≤ 12) (n1 : 1 ≤ n) (n2 : n ≤ 16) (tf : pu_t a s = false) (q12 : q ≤ 12) (hq : q = 0 ∨ pu_t a q = true) :
    ∃ b1, fn_X7_begins b (nI s) (nI n) = some b1 ∧ Lm b b1 ∧ RT (pu_hc (pu_en a s (nI n)) s q) ((pu_hm b1 s q).2 211) ∧ WF B (pu_hc (pu_en a s (nI n)) s q) := by
  obtain ⟨τ2, b1, b2, b3, b4⟩ := pm_begins b h2 (nI n)
  have hR := hR0.enter (τ' := τ2) h1 h2 b3 b4
  have hW := hW0.enter (s := s) (n := n) h1 h2 n1 n2
  have hG1 := pu_G.of hR0 hW0
  have tx : ∀ y, y < 32 → pu_t (pu_en a s (nI n)) y = (pu_t a y || decide (y = s)) := fun y hy => pu_en_t a h2 (nI n) hy
  have hqs : q ≠ s := by
    intro e
    rcases hq with hq | hq
    · omega
    · rw [e, tf] at hq; cases hq
  have hq1 : q = 0 ∨ pu_t (pu_en a s (nI n)) q = true := hq.imp id (fun k => by
    rw [tx q (by omega), k, Bool.true_or])
  have hts : pu_t (pu_en a s (nI n)) s = true := by rw [tx s (by omega), decide_eq_true rfl, Bool.or_true]
  have e0 : (qm_si (pu_en a s (nI n)) (2 + s) 0 (nI s)).1 0 = (pu_en a s (nI n)).1 0 := qm_si_ne _ _ _ (by omega)
  have hGa : pu_G (pu_en a s (nI n)) := by
    have g6 := hR.2.2.2.2.2
    have bd : ∀ y, pu_t (pu_en a s (nI n)) y = true → 1 ≤ y ∧ y ≤ 12 := by
      intro y hy
      rcases Nat.lt_or_ge y 32 with l | l
      · refine Classical.byContradiction fun hn => ?_
        have := g6 y l (by omega)
        rw [e0] at this
        have hy : bt ((pu_en a s (nI n)).1 0 1) y = true := hy
        rw [this] at hy; cases hy
      · rw [show pu_t (pu_en a s (nI n)) y = false from b_big l] at hy; cases hy
    refine ⟨bd, fun y hy => ?_, ?_⟩
    · obtain ⟨x, z⟩ := bd y hy
      obtain ⟨⟨p, p1, p2, p3⟩, -⟩ := hW.1 y x z hy
      have e : pu_par (pu_en a s (nI n)) y = p := by unfold pu_par; rw [p2, pu_clamp (by omega)]
      rw [e]; exact ⟨p1, p2, p3⟩
    · obtain ⟨rk, hr⟩ := hW.2.1
      exact ⟨rk, fun y hy hp => hr y (bd y hy).1 (bd y hy).2 hy hp⟩
  have no : ¬ pu_On (pu_par (pu_en a s (nI n))) s q := by
    have key : ∀ m y, y ≠ s → (y = 0 ∨ pu_t (pu_en a s (nI n)) y = true) → pu_up (pu_par (pu_en a s (nI n))) m y s = false := by
      intro m
      induction m with
      | zero => intro y _ _; rfl
      | succ m ih =>
        intro y hy ht
        unfold pu_up
        by_cases y0 : y = 0
        · rw [if_pos y0]
        · rw [if_neg y0, decide_eq_false hy, Bool.false_or]
          have ty := ht.resolve_left y0
          have by1 := hGa.1 y ty
          refine ih _ (fun e => ?_) (hGa.c y ty)
          have ep : pu_par (pu_en a s (nI n)) y = pu_par a y := by unfold pu_par; rw [pu_en_o a _ hy]
          rw [ep] at e
          rw [tx y (by omega), decide_eq_false hy, Bool.or_false] at ty
          have := hG1.c y ty
          rw [e, tf] at this
          rcases this with k | k
          · omega
          · cases k
    intro ⟨m, hm⟩
    rw [key m q hqs hq1] at hm; cases hm
  refine ⟨τ2, b1, b2, ?_, hW.hang hGa hts hq1 q12 no⟩
  have := hR.hang (c := s) (p := q) h2 (by show q = 0 ∨ bt ((qm_si (pu_en a s (nI n)) (2 + s) 0 (nI s)).1 0 1) q = true; rw [e0]; exact hq1) q12
  have e : pu_hc (qm_si (pu_en a s (nI n)) (2 + s) 0 (nI s)) s q = pu_hc (pu_en a s (nI n)) s q := by unfold pu_hc; rw [pu_si_si]; rfl
  rw [e] at this; exact this
theorem pu_bloop {B c : Nat} {nm wt pa : Nat → Nat} (D : PN c nm wt pa) (a0 b0 : qm_M) : ∀ m i (a b : qm_M) (N M : Nat), i + m = c → m < N → m < M → RT a (b.2 211) → WF B a → (∀ x, x < 32 → (pu_t a x = true ↔ ∃ j, j < i ∧ nm j = x)) → PA a c nm wt pa → PB b c nm wt pa → Lc a0 a → Lm b0 b →
    ∃ a' b', qm_loop (fun s : Int32 × qm_M => bb_X6_builds_31 s.2 s.1) N (nI i, a) = some (nI c, a') ∧ qm_loop (fun s : Int32 × qm_M => bb_X7_builds_43 s.2 s.1) M (nI i, b) = some (nI c, b') ∧ RT a' (b'.2 211) ∧ WF B a' ∧ Lc a0 a' ∧ Lm b0 b' := by
  obtain ⟨c12, d2, d3⟩ := D
  intro m
  induction m with
  | zero =>
    intro i a b N M hm hN hM hR hW hT hA hB hL hM'
    obtain ⟨N, rfl⟩ : ∃ q, N = q + 1 := ⟨N - 1, by omega⟩
    obtain ⟨M, rfl⟩ : ∃ q, M = q + 1 := ⟨M - 1, by omega⟩
    have hi : i = c := by omega
    subst hi
    refine ⟨a, b, pu_inr ?_, pu_inr ?_, hR, hW, hL, hM'⟩
    · show bb_X6_builds_31 a (nI i) = _
      unfold bb_X6_builds_31
      rw [hA.1, if_pos ((pu_le (by omega) (by omega)).mpr (Nat.le_refl i))]; rfl
    · show bb_X7_builds_43 b (nI i) = _
      unfold bb_X7_builds_43
      rw [hB.1, if_pos ((pu_le (by omega) (by omega)).mpr (Nat.le_refl i))]; rfl
  | succ m ih =>
    intro i a b N M hm hN hM hR hW hT hA hB hL hM'
    obtain ⟨N, rfl⟩ : ∃ q, N = q + 1 := ⟨N - 1, by omega⟩
    obtain ⟨M, rfl⟩ : ∃ q, M = q + 1 := ⟨M - 1, by omega⟩
    obtain ⟨s1, s2, w1, w2, hp⟩ := d2 i (by omega)
    have hA2 := hA.2.1 i (by omega)
    have hB2 := hB.2 i (by omega)
    have p12 : pa i ≤ 12 := by
      rcases hp with e | ⟨j, j1, j2⟩
      · omega
      · have := d2 j (by omega)
        have l := this.2.1
        omega
    have tf : pu_t a (nm i) = false := by
      cases ht : pu_t a (nm i)
      · rfl
      · obtain ⟨j, j1, j2⟩ := (hT (nm i) (by omega)).mp ht
        exact absurd j2 (d3 j i j1 (by omega))
    have tp : pa i = 0 ∨ pu_t a (pa i) = true := hp.imp id (fun q => (hT (pa i) (by omega)).mpr q)
    obtain ⟨b1, x1, x2, x3, x4⟩ := pu_one hR hW s1 s2 w1 w2 tf p12 tp
    have L1 := pu_en_L a s2 (nI (wt i))
    have L2 := pu_hc_L (pu_en a (nm i) (nI (wt i))) (c := nm i) (pa i) s2
    have M2 := pu_hm_L b1 (nm i) (pa i)
    have hA1 : PA (pu_en a (nm i) (nI (wt i))) c nm wt pa := hA.cong (fun id _ _ => (L1 id (by omega)).1)
    have hB1 : PB b1 c nm wt pa := hB.cong (by rw [x2.1]) (fun id _ _ => by rw [x2.1])
    have hA3 : PA (pu_hc (pu_en a (nm i) (nI (wt i))) (nm i) (pa i)) c nm wt pa := hA1.cong (fun id _ _ => (L2 id (by omega)).1)
    have hB3 : PB (pu_hm b1 (nm i) (pa i)) c nm wt pa := hB1.cong (by rw [M2.1]) (fun id _ _ => by rw [M2.1])
    have hT3 : ∀ x, x < 32 → (pu_t (pu_hc (pu_en a (nm i) (nI (wt i))) (nm i) (pa i)) x = true ↔ ∃ j, j < i + 1 ∧ nm j = x) := by
      intro x hx
      have e0 : (pu_hc (pu_en a (nm i) (nI (wt i))) (nm i) (pa i)).1 0 = (pu_en a (nm i) (nI (wt i))).1 0 := by rw [pu_hc_1]; exact qm_si_ne _ _ _ (by omega)
      have e1 : pu_t (pu_hc (pu_en a (nm i) (nI (wt i))) (nm i) (pa i)) x = pu_t (pu_en a (nm i) (nI (wt i))) x := by
        show bt ((pu_hc (pu_en a (nm i) (nI (wt i))) (nm i) (pa i)).1 0 1) x = _
        rw [e0]
      rw [e1, pu_en_t a s2 _ hx, Bool.or_eq_true, hT x hx, decide_eq_true_iff]
      constructor
      · rintro (⟨j, j1, j2⟩ | e)
        · exact ⟨j, by omega, j2⟩
        · exact ⟨i, by omega, e.symm⟩
      · rintro ⟨j, j1, j2⟩
        by_cases e : j = i
        · right; rw [← j2, e]
        · left; exact ⟨j, by omega, j2⟩
    obtain ⟨a', b', y1, y2, y3⟩ := ih (i + 1) (pu_hc (pu_en a (nm i) (nI (wt i))) (nm i) (pa i)) (pu_hm b1 (nm i) (pa i)) N M (by omega) (by omega) (by omega) x3 x4 hT3 hA3 hB3 ((hL.tr L1).tr L2) ((hM'.tr x2).tr M2)
    have ic := pu_in (show i < 12 by omega) (by omega : 12 < 2147483648)
    refine ⟨a', b', ?_, ?_, y3⟩
    · rw [← y1]
      refine pu_inl ?_
      show bb_X6_builds_31 a (nI i) = _
      unfold bb_X6_builds_31
      rw [hA.1, if_neg (show ¬ nI c ≤ nI i by rw [pu_le (by omega) (by omega)]; omega), if_pos ic, if_pos ic, pu_clamp (by omega), hA2.1, hA2.2.1, pc_enter a s2, Option.bind_some, if_pos (show ¬ (nI i < 0 ∨ 12 ≤ i) by have := ic; rw [pu_clamp (by omega)] at this; exact this), if_pos (show ¬ (nI i < 0 ∨ 12 ≤ i) by have := ic; rw [pu_clamp (by omega)] at this; exact this), (hA1.2.1 i (by omega)).1, (hA1.2.1 i (by omega)).2.2.1, pc_hang _ s2 p12, pu_s1]; rfl
    · rw [← y2]
      refine pu_inl ?_
      show bb_X7_builds_43 b (nI i) = _
      unfold bb_X7_builds_43
      rw [hB.1, if_neg (show ¬ nI c ≤ nI i by rw [pu_le (by omega) (by omega)]; omega), if_pos ic, if_pos ic, pu_clamp (by omega), hB2.1, hB2.2.1, x1, Option.bind_some, if_pos (show ¬ (nI i < 0 ∨ 12 ≤ i) by have := ic; rw [pu_clamp (by omega)] at this; exact this), if_pos (show ¬ (nI i < 0 ∨ 12 ≤ i) by have := ic; rw [pu_clamp (by omega)] at this; exact this), (hB1.2 i (by omega)).1, (hB1.2 i (by omega)).2.2, pm_hang _ s2 p12, pu_s1]; rfl
theorem pu_builds {B : Nat} {σ τ : qm_M} (h : Inv B σ τ) : Sim B σ τ (fn_X6_builds σ) (fn_X7_builds τ) := by
  obtain ⟨n, n0, hr⟩ := pu_read h.2.2.2.2
  rcases hr with ⟨σ1, τ1, c, nm, wt, pa, e1, e2, hA, hB, D, f, g⟩ | ⟨σ1, τ1, q, q0, e1, e2, e3, f, g⟩
  · have hI := h.fp f g
    obtain ⟨σ2, τ2, k1, k2, hI2, k3, k4, K⟩ := pu_keep hI
    have hA2 : PA σ2 c nm wt pa := hA.cong (fun id _ _ => (K.1 id (by omega)).1)
    have hB2 : PB τ2 c nm wt pa := hB.cong (K.2.2.1 10 (by omega)) (fun id _ _ => K.2.1 id (by omega))
    have hA3 : PA (pu_em σ2) c nm wt pa := hA2.cong (fun id _ _ => (pu_em_L σ2 id (by omega)).1)
    have hB3 : PB (pu_mz τ2 208) c nm wt pa := hB2.cong rfl (fun _ _ _ => rfl)
    have hT : ∀ x, x < 32 → (pu_t (pu_em σ2) x = true ↔ ∃ j, j < 0 ∧ nm j = x) := by
      intro x hx
      have t0 : (pu_em σ2).1 0 1 = 0 := by
        show (qm_si σ2 0 1 0).1 0 1 = 0
        rw [qm_si_at, if_pos rfl]
      have e : pu_t (pu_em σ2) x = false := by
        show bt ((pu_em σ2).1 0 1) x = false
        rw [t0, b_0]
      rw [e]
      exact ⟨fun k => (nomatch k), fun ⟨j, j1, _⟩ => absurd j1 (by omega)⟩
    have c12 := D.1
    obtain ⟨a', b', y1, y2, y3, y4, y5, y6⟩ := pu_bloop (B := B) D σ2 τ2 c 0 (pu_em σ2) (pu_mz τ2 208) 1000 1000 (by omega) (by omega) (by omega) hI2.1.em hI2.2.1.em hT hA3 hB3 (pu_em_L σ2) (pu_mz_L τ2 208)
    refine Sim.done (nI c) ?_ ?_ hI2 (f.fc.tr k3) (g.fm.tr k4) y5 y6 y3 y4 (Nat.le_refl _)
    · unfold fn_X6_builds
      rw [e1, Option.bind_some, if_pos rfl, k1, Option.bind_some, pc_empty, Option.bind_some]
      exact y1
    · unfold fn_X7_builds
      rw [e2, Option.bind_some, pu_ift, k2, Option.bind_some]
      exact pm_zero y2
  · refine ⟨(-10) - nI q, σ1, τ1, ?_, ?_, h.fp f g, f.fc, g.fm⟩
    · unfold fn_X6_builds
      rw [e1, Option.bind_some, if_neg (pu_m1 (by omega))]
    · unfold fn_X7_builds
      rw [e2, Option.bind_some, pu_iff, e3]
