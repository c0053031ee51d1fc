theorem pu_try {B : Nat} (hB : B ≤ 900000) {σ τ : qm_M} (h : RT σ (τ.2 211)) (w : WF B σ) : ∃ r σ' τ', fn_X0_tryOne σ 0 = some (r, σ') ∧ fn_X7_isSent τ = some (r, τ') ∧ RT σ' (τ'.2 211) ∧ WF (B + 3) σ' ∧ Lc σ σ' ∧ Lm τ τ' := by
  obtain ⟨σ1, τ1, l1, l2, l3, l4, l5, l6, l7⟩ := pu_look h w
  have ec : pu_can σ = pu_can σ1 := by
    funext j
    show (bt (σ.1 0 1) j && pu_c σ j) = (bt (σ1.1 0 1) j && pu_c σ1 j)
    unfold pu_c
    rw [l7 0 1 (by omega), l7 (2 + j) 6 (by omega), l7 (2 + j) 2 (by omega), l7 (2 + j) 3 (by omega)]
  have ep : pu_par σ = pu_par σ1 := by
    funext x; unfold pu_par; rw [l7 (2 + x) 0 (by omega)]
  have el : pu_live σ = pu_live σ1 := by
    funext i
    show pu_any (fun s => pu_can σ s && pu_up (pu_par σ) 12 s i) 13 = pu_any (fun s => pu_can σ1 s && pu_up (pu_par σ1) 12 s i) 13
    rw [ec, ep]
  obtain ⟨r, r1, r2, r3⟩ := pu_sender l3 l4
  have G := pu_G.of h w
  have G1 := pu_G.of l3 l4
  unfold fn_X0_tryOne fn_X7_isSent
  rw [pc_canBits, Option.bind_some, pc_liveBits G, Option.bind_some, l1, l2, Option.bind_some, Option.bind_some, ec, el, r1, r2]
  simp only [Option.bind_some]
  rcases r3 with rfl | ⟨s, s1, s2, s3, rfl⟩
  · rw [if_pos rfl, if_pos rfl]
    exact ⟨false, σ1, τ1, rfl, rfl, l3, l4.mono (by omega), l5, l6⟩
  · rw [if_neg (pu_m1 (by omega)), if_neg (pu_m1 (by omega)), pm_canSet l3 l4, Option.bind_some]
    obtain ⟨σ2, τ2, a1, a2, a3, a4, a5, a6, a7⟩ := pu_send (by omega) l3 l4 (pu_can_t s3)
    have tt : ∀ j, pu_t σ2 j = pu_t σ1 j := fun j => by show bt (σ2.1 0 1) j = _; rw [a7]
    obtain ⟨σ3, τ3, b1, b2, b3, b4, b5, b6⟩ := pu_waits (by omega) a3 a4 s1 s2 (by rw [tt]; exact pu_can_t s3) (C := pu_set (pu_can σ1)) (fun j j1 j2 hj => by rw [tt]; rw [pu_setl j1 j2] at hj; exact pu_can_t hj) (by rw [pu_setl s1 s2]; exact s3)
    obtain ⟨σ4, τ4, c1, c2, c3, c4, c5, c6⟩ := pu_old (by omega) b3 b4
    obtain ⟨σ5, τ5, d1, d2, d3, d4, d5, d6⟩ := pu_letGo c3 c4
    rw [a1, Option.bind_some, b1, Option.bind_some, c1, Option.bind_some, d1, Option.bind_some]
    refine ⟨true, σ5, τ5, rfl, ?_, d3, d4, (((l5.tr a5).tr b5).tr c5).tr d5, (((l6.tr a6).tr b6).tr c6).tr d6⟩
    rw [a2, b2, c2, d2]; rfl
theorem pu_sends {B : Nat} (hB : B ≤ 600000) {σ τ : qm_M} (h : Inv B σ τ) (v : Int32) : Sim (B + 300) σ τ (fn_X6_sends σ v) (fn_X7_sends τ v) := by
  unfold fn_X6_sends fn_X7_sends
  rw [pu_c_within, pu_m_in τ v 1 100 1 100 rfl rfl, Option.bind_some, Option.bind_some]
  rcases pu_rd (v := v) 1 100 (by omega) (by omega) with ⟨n, n1, n2, rfl, hb⟩ | hb
  · have hb : (decide ((1 : Int32) ≤ nI n) && decide (nI n ≤ (100 : Int32))) = true := hb
    rw [hb, pu_ift, pu_ift]
    obtain ⟨σ1, τ1, e1, e2, hI, f1, f2, K⟩ := pu_keep h
    rw [e1, e2, Option.bind_some, Option.bind_some]
    have key : ∀ m k a b N N', k + m = n → m < N → m < N' → RT a (b.2 211) → WF (B + 3 * k) a → Lc σ1 a → Lm τ1 b → ∃ r a' b', qm_loop (fun x : Int32 × qm_M => bb_X6_sends_23 x.2 (nI n) x.1) N (nI k, a) = some (r, a') ∧ qm_loop (fun x : Int32 × qm_M => bb_X7_sends_25 x.2 (nI n) x.1) N' (nI k, b) = some (r, b') ∧ RT a' (b'.2 211) ∧ WF (B + 300) a' ∧ Lc σ1 a' ∧ Lm τ1 b' := by
      intro m
      induction m with
      | zero =>
        intro k a b N N' hk hN hN' hR hW hL hM
        obtain ⟨N, rfl⟩ : ∃ q, N = q + 1 := ⟨N - 1, by omega⟩
        obtain ⟨N', rfl⟩ : ∃ q, N' = q + 1 := ⟨N' - 1, by omega⟩
        have le : nI n ≤ nI k := (pu_le (by omega) (by omega)).mpr (by omega)
        refine ⟨nI k, a, b, pu_inr ?_, pu_inr ?_, hR, hW.mono (by omega), hL, hM⟩
        · show bb_X6_sends_23 a (nI n) (nI k) = _
          unfold bb_X6_sends_23
          rw [if_pos le]; rfl
        · show bb_X7_sends_25 b (nI n) (nI k) = _
          unfold bb_X7_sends_25
          rw [if_pos le]; rfl
      | succ m ih =>
        intro k a b N N' hk hN hN' hR hW hL hM
        obtain ⟨N, rfl⟩ : ∃ q, N = q + 1 := ⟨N - 1, by omega⟩
        obtain ⟨N', rfl⟩ : ∃ q, N' = q + 1 := ⟨N' - 1, by omega⟩
        have le : ¬ nI n ≤ nI k := fun q => by have := (pu_le (by omega) (by omega)).mp q; omega
        obtain ⟨r, a', b', t1, t2, t3, t4, t5, t6⟩ := pu_try (by omega) hR hW
        cases r
        · refine ⟨nI k, a', b', pu_inr ?_, pu_inr ?_, t3, t4.mono (by omega), hL.tr t5, hM.tr t6⟩
          · show bb_X6_sends_23 a (nI n) (nI k) = _
            unfold bb_X6_sends_23
            rw [if_neg le, t1, Option.bind_some, pu_iff]; rfl
          · show bb_X7_sends_25 b (nI n) (nI k) = _
            unfold bb_X7_sends_25
            rw [if_neg le, t2, Option.bind_some, pu_iff]; rfl
        · obtain ⟨r', a'', b'', u1, u2, u3⟩ := ih (k + 1) a' b' N N' (by omega) (by omega) (by omega) t3 (by rw [show B + 3 * (k + 1) = B + 3 * k + 3 by omega]; exact t4) (hL.tr t5) (hM.tr t6)
          refine ⟨r', a'', b'', ?_, ?_, u3⟩
          · rw [← u1]
            refine pu_inl ?_
            show bb_X6_sends_23 a (nI n) (nI k) = _
            unfold bb_X6_sends_23
            rw [if_neg le, t1, Option.bind_some, pu_ift, pu_s1]; rfl
          · rw [← u2]
            refine pu_inl ?_
            show bb_X7_sends_25 b (nI n) (nI k) = _
            unfold bb_X7_sends_25
            rw [if_neg le, t2, Option.bind_some, pu_ift, pu_s1]; rfl
    obtain ⟨r, a', b', k1, k2, k3, k4, k5, k6⟩ := key n 0 σ1 τ1 1000 1000 (by omega) (by omega) (by omega) hI.1 (hI.2.1.mono (by omega)) (Lc.rf _) (Lm.rf _)
    exact Sim.done r k1 k2 hI f1 f2 k5 k6 k3 k4 (by omega)
  · have hb : (decide ((1 : Int32) ≤ v) && decide (v ≤ (100 : Int32))) = false := hb
    rw [hb, pu_iff, pu_iff, pu_bid, pu_bid]; exact (Sim.bad h).mono (by omega)
