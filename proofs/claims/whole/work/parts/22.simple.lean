-- ===== congruences =====
theorem RT.cong {σ σ' : qm_M} {g : Nat → Int64} (h : RT σ g) (e : ∀ r, r < 15 → σ'.1 r = σ.1 r ∧ σ'.2 r = σ.2 r) : RT σ' g := by
  obtain ⟨h1, h2, h3, h4, h5, h6⟩ := h
  have e0 := (e 0 (by omega)).1
  refine ⟨fun s a b => ?_, fun s k a b c => ?_, fun s a b => ?_, ?_, fun k a => ?_, fun i a => ?_⟩
  · rw [e0]; exact h1 s a b
  · rw [e0, (e (2 + s) (by omega)).1]; exact h2 s k a b c
  · rw [e0, (e (2 + s) (by omega)).2]; exact h3 s a b
  · rw [(e 2 (by omega)).2]; exact h4
  · rw [e0]; exact h5 k a
  · rw [e0]; exact h6 i a
theorem WF.cong {B : Nat} {σ σ' : qm_M} (h : WF B σ) (e : ∀ r, r < 15 → σ'.1 r = σ.1 r) : WF B σ' := by
  obtain ⟨h1, ⟨rk, h2⟩, h3, h4, h5, h6, h7, h8⟩ := h
  have e0 := e 0 (by omega)
  refine ⟨fun s a b c => ?_, ⟨rk, fun s a b c => ?_⟩, by rw [e0]; exact h3, by rw [e0]; exact h4, by rw [e0]; exact h5, by rw [e0]; exact h6, by rw [e0]; exact h7, fun s a => by rw [e (2 + s) (by omega)]; exact h8 s a⟩
  · rw [e0] at c ⊢; rw [e (2 + s) (by omega)]; exact h1 s a b c
  · rw [e0] at c
    have hp : pu_par σ' s = pu_par σ s := by unfold pu_par; rw [e (2 + s) (by omega)]
    rw [hp]; exact h2 s a b c
theorem WS.mono {B B' : Nat} {th : Int32} {f : Nat → Int32} {s : Nat} (h : WS B th f s) (hb : B ≤ B') : WS B' th f s := by
  obtain ⟨h0, h1, h2, h3, h4, h5, h6, ⟨a, a1, a2⟩, ⟨b, b1, b2⟩, ⟨c, c1, c2⟩, ⟨d, d1, d2⟩, h11⟩ := h
  exact ⟨h0, h1, h2, h3, h4, h5, h6, ⟨a, by omega, a2⟩, ⟨b, by omega, b2⟩, ⟨c, by omega, c2⟩, ⟨d, by omega, d2⟩, h11.imp id (fun ⟨n, n1, n2⟩ => ⟨n, by omega, n2⟩)⟩
theorem WF.mono {B B' : Nat} {σ : qm_M} (h : WF B σ) (hb : B ≤ B') : WF B' σ := by
  obtain ⟨h1, h2, h3, h4, h5, h6, ⟨n, n1, n2⟩, h8⟩ := h
  exact ⟨fun s a b c => (h1 s a b c).mono hb, h2, h3, h4, h5, h6, ⟨n, by omega, n2⟩, h8⟩
theorem Hist.cong {B : Nat} {σ σ' τ τ' : qm_M} (h : Hist B σ τ) (e : ∀ id, 32 ≤ id → id < 192 → σ'.1 id = σ.1 id ∧ σ'.2 id = σ.2 id) (e2 : σ'.1 200 2 = σ.1 200 2) (e3 : σ'.1 200 3 = σ.1 200 3) (f1 : τ'.2 212 = τ.2 212) (f2 : τ'.1 210 2 = τ.1 210 2) : Hist B σ' τ' := by
  obtain ⟨o, c, h1, h2, h3, h4, h5, h6⟩ := h
  refine ⟨o, c, h1, h2, by rw [e2]; exact h3, by rw [e3]; exact h4, by rw [f2]; exact h5, fun j hj => ?_⟩
  have hm : (o + j) % 5 < 5 := Nat.mod_lt _ (by omega)
  obtain ⟨a, b⟩ := h6 j hj
  rw [f1]
  exact ⟨a.cong (fun r hr => ⟨by funext k; exact congrFun (e _ (by omega) (by omega)).1 k, by funext k; exact congrFun (e _ (by omega) (by omega)).2 k⟩), b.cong (fun r hr => by funext k; exact congrFun (e _ (by omega) (by omega)).1 k)⟩
theorem Hist.mono {B B' : Nat} {σ τ : qm_M} (h : Hist B σ τ) (hb : B ≤ B') : Hist B' σ τ := by
  obtain ⟨o, c, h1, h2, h3, h4, h5, h6⟩ := h
  exact ⟨o, c, h1, h2, h3, h4, h5, fun j hj => ⟨(h6 j hj).1, (h6 j hj).2.mono hb⟩⟩
theorem Inv.mono {B B' : Nat} {σ τ : qm_M} (h : Inv B σ τ) (hb : B ≤ B') : Inv B' σ τ := ⟨h.1, h.2.1.mono hb, h.2.2.1.mono hb, h.2.2.2⟩
theorem Inv.model {B : Nat} {σ τ τ' : qm_M} (h : Inv B σ τ) (e : Fc τ τ') : Inv B σ τ' := by
  obtain ⟨h1, h2, h3, h4, h5⟩ := h
  refine ⟨by rw [(e 211 (by omega)).2]; exact h1, h2, h3.cong (fun _ _ _ => ⟨rfl, rfl⟩) rfl rfl (e 212 (by omega)).2 (by rw [(e 210 (by omega)).1]), ?_, ?_⟩
  · unfold Cnt at h4 ⊢; rw [(e 213 (by omega)).1]; exact h4
  · unfold Txt at h5 ⊢; rw [(e 210 (by omega)).1, (e 214 (by omega)).1]; exact h5
theorem Inv.own {B : Nat} {σ σ' τ : qm_M} (h : Inv B σ τ) (e : Fm σ σ') : Inv B σ' τ := by
  obtain ⟨h1, h2, h3, h4, h5⟩ := h
  refine ⟨h1.cong (fun r hr => e r (by omega)), h2.cong (fun r hr => (e r (by omega)).1), h3.cong (fun id _ _ => e id (by omega)) (by rw [(e 200 (by omega)).1]) (by rw [(e 200 (by omega)).1]) rfl rfl, ?_, ?_⟩
  · unfold Cnt at h4 ⊢; rw [(e 200 (by omega)).1]; exact h4
  · unfold Txt at h5 ⊢; rw [(e 202 (by omega)).1, (e 203 (by omega)).1]; exact h5
-- ===== one call of both =====
def Sim (B : Nat) (σ τ : qm_M) {α : Type} (x y : Option (α × qm_M)) : Prop := ∃ r σ' τ', x = some (r, σ') ∧ y = some (r, τ') ∧ Inv B σ' τ' ∧ Fc σ σ' ∧ Fm τ τ'
theorem pu_bid {α : Type} (o : Option (α × qm_M)) : o.bind (fun r => some (r.1, r.2)) = o := by cases o <;> rfl
theorem Sim.mono {B B' : Nat} {σ τ : qm_M} {α : Type} {x y : Option (α × qm_M)} (h : Sim B σ τ x y) (hb : B ≤ B') : Sim B' σ τ x y := by
  obtain ⟨r, a, b, h1, h2, h3, h4⟩ := h
  exact ⟨r, a, b, h1, h2, h3.mono hb, h4⟩
theorem Sim.read {B : Nat} {σ τ : qm_M} {α : Type} {x y : Option (α × qm_M)} (h : Inv B σ τ) (r : α) (hx : x = some (r, σ)) (hy : y = some (r, τ)) : Sim B σ τ x y := ⟨r, σ, τ, hx, hy, h, Fc.rf σ, Fm.rf τ⟩
theorem Sim.bad {B : Nat} {σ τ : qm_M} (h : Inv B σ τ) : Sim B σ τ (fn_X6_refuse σ (-2)) (fn_X7_refuses τ (-2)) := by
  obtain ⟨h1, h2, h3, h4, h5⟩ := h
  refine ⟨-2, qm_si σ 200 6 (σ.1 200 6 + 1), qm_si τ 213 0 (τ.1 213 0 + 1), rfl, rfl, ⟨h1.cong (fun r hr => ⟨qm_si_ne σ _ _ (by omega), rfl⟩), h2.cong (fun r hr => qm_si_ne σ _ _ (by omega)), h3.cong (fun id _ _ => ⟨qm_si_ne σ _ _ (by omega), rfl⟩) (by rw [qm_si_at]; rfl) (by rw [qm_si_at]; rfl) rfl (by rw [qm_si_ne τ _ _ (by omega)]), ?_, ?_⟩, Fc.si σ _ _ (by omega), Fm.si τ _ _ (by omega)⟩
  · obtain ⟨a, b, c⟩ := h4
    exact ⟨by rw [qm_si_at, qm_si_at, if_pos rfl, if_pos rfl, a], by rw [qm_si_at, qm_si_at]; exact b, by rw [qm_si_at, qm_si_at]; exact c⟩
  · unfold Txt at h5 ⊢
    rw [qm_si_ne σ _ _ (by omega), qm_si_ne σ _ _ (by omega), qm_si_ne τ _ _ (by omega), qm_si_ne τ _ _ (by omega)]; exact h5
theorem Sim.no {B : Nat} {σ τ : qm_M} (h : Inv B σ τ) : Sim B σ τ (fn_X6_refuse σ (-3)) (fn_X7_refuses τ (-3)) := by
  obtain ⟨h1, h2, h3, h4, h5⟩ := h
  refine ⟨-3, qm_si σ 200 7 (σ.1 200 7 + 1), qm_si τ 213 1 (τ.1 213 1 + 1), rfl, rfl, ⟨h1.cong (fun r hr => ⟨qm_si_ne σ _ _ (by omega), rfl⟩), h2.cong (fun r hr => qm_si_ne σ _ _ (by omega)), h3.cong (fun id _ _ => ⟨qm_si_ne σ _ _ (by omega), rfl⟩) (by rw [qm_si_at]; rfl) (by rw [qm_si_at]; rfl) rfl (by rw [qm_si_ne τ _ _ (by omega)]), ?_, ?_⟩, Fc.si σ _ _ (by omega), Fm.si τ _ _ (by omega)⟩
  · obtain ⟨a, b, c⟩ := h4
    exact ⟨by rw [qm_si_at, qm_si_at]; exact a, by rw [qm_si_at, qm_si_at, if_pos rfl, if_pos rfl, b], by rw [qm_si_at, qm_si_at]; exact c⟩
  · unfold Txt at h5 ⊢
    rw [qm_si_ne σ _ _ (by omega), qm_si_ne σ _ _ (by omega), qm_si_ne τ _ _ (by omega), qm_si_ne τ _ _ (by omega)]; exact h5
theorem Sim.full {B : Nat} {σ τ : qm_M} (h : Inv B σ τ) : Sim B σ τ (fn_X6_refuse σ (-4)) (fn_X7_refuses τ (-4)) := by
  obtain ⟨h1, h2, h3, h4, h5⟩ := h
  refine ⟨-4, qm_si σ 200 8 (σ.1 200 8 + 1), qm_si τ 213 2 (τ.1 213 2 + 1), rfl, rfl, ⟨h1.cong (fun r hr => ⟨qm_si_ne σ _ _ (by omega), rfl⟩), h2.cong (fun r hr => qm_si_ne σ _ _ (by omega)), h3.cong (fun id _ _ => ⟨qm_si_ne σ _ _ (by omega), rfl⟩) (by rw [qm_si_at]; rfl) (by rw [qm_si_at]; rfl) rfl (by rw [qm_si_ne τ _ _ (by omega)]), ?_, ?_⟩, Fc.si σ _ _ (by omega), Fm.si τ _ _ (by omega)⟩
  · obtain ⟨a, b, c⟩ := h4
    exact ⟨by rw [qm_si_at, qm_si_at]; exact a, by rw [qm_si_at, qm_si_at]; exact b, by rw [qm_si_at, qm_si_at, if_pos rfl, if_pos rfl, c]⟩
  · unfold Txt at h5 ⊢
    rw [qm_si_ne σ _ _ (by omega), qm_si_ne σ _ _ (by omega), qm_si_ne τ _ _ (by omega), qm_si_ne τ _ _ (by omega)]; exact h5
-- ===== told, type, clear =====
theorem pu_rng {v : Int32} (n : Nat) (hn : n < 2147483648) : (∃ j, j ≤ n ∧ v = nI j) ∨ (decide ((0 : Int32) ≤ v) && decide (v ≤ nI n)) = false := by
  by_cases h1 : (0 : Int32) ≤ v
  · by_cases h2 : v ≤ nI n
    · exact Or.inl (pu_ge0 hn h1 h2)
    · right; simp [h2]
  · right; simp [h1]
theorem pu_told {B : Nat} {σ τ : qm_M} (h : Inv B σ τ) (v : Int32) : Sim B σ τ (fn_X6_told σ v) (fn_X7_told τ v) := by
  have hi := h
  obtain ⟨⟨-, -, -, -, hg, -⟩, -, ⟨o, c, -, -, -, ho, hc, -⟩, ⟨c0, c1, c2⟩, ⟨n, -, n1, n2, -⟩⟩ := h
  rcases pu_rng (v := v) 9 (by omega) with ⟨j, hj, rfl⟩ | hv
  · have e0 := hg 0 (by omega); have e1 := hg 1 (by omega); have e2 := hg 2 (by omega); have e3 := hg 3 (by omega); have e4 := hg 4 (by omega)
    match j, hj with
    | 0, _ => exact Sim.read hi _ rfl (show some (τ.1 213 0, τ) = _ by rw [c0])
    | 1, _ => exact Sim.read hi _ rfl (show some (τ.1 213 1, τ) = _ by rw [c1])
    | 2, _ => exact Sim.read hi _ rfl (show some (τ.1 213 2, τ) = _ by rw [c2])
    | 3, _ => exact Sim.read hi _ rfl (show some (τ.1 210 7, τ) = _ by rw [n1, n2])
    | 4, _ => exact Sim.read hi _ rfl (show some ((τ.2 211 (208 + 0)).toInt32, τ) = _ by rw [e0, pu_i64])
    | 5, _ => exact Sim.read hi _ rfl (show some ((τ.2 211 (208 + 1)).toInt32, τ) = _ by rw [e1, pu_i64])
    | 6, _ => exact Sim.read hi _ rfl (show some ((τ.2 211 (208 + 2)).toInt32, τ) = _ by rw [e2, pu_i64])
    | 7, _ => exact Sim.read hi _ rfl (show some ((τ.2 211 (208 + 3)).toInt32, τ) = _ by rw [e3, pu_i64])
    | 8, _ => exact Sim.read hi _ rfl (show some ((τ.2 211 (208 + 4)).toInt32, τ) = _ by rw [e4, pu_i64])
    | 9, _ => exact Sim.read hi _ rfl (show some (τ.1 210 2, τ) = _ by rw [ho, hc])
    | j + 10, hj => exact absurd hj (by omega)
  · have hne : ∀ j, j ≤ 9 → v ≠ nI j := by
      intro j hj e
      subst e
      rw [show (0 : Int32) = nI 0 from rfl, decide_eq_true ((pu_le (by omega) (by omega)).mpr (Nat.zero_le j)), decide_eq_true ((pu_le (by omega) (by omega)).mpr hj)] at hv
      cases hv
    have hx : fn_X6_told σ v = fn_X6_refuse σ (-2) := by
      unfold fn_X6_told
      rw [if_neg (show ¬ v = 0 from hne 0 (by omega)), if_neg (show ¬ v = 1 from hne 1 (by omega)), if_neg (show ¬ v = 2 from hne 2 (by omega)), if_neg (show ¬ v = 3 from hne 3 (by omega)), if_neg (show ¬ v = 4 from hne 4 (by omega)), if_neg (show ¬ v = 5 from hne 5 (by omega)), if_neg (show ¬ v = 6 from hne 6 (by omega)), if_neg (show ¬ v = 7 from hne 7 (by omega)), if_neg (show ¬ v = 8 from hne 8 (by omega)), if_neg (show ¬ v = 9 from hne 9 (by omega)), pu_bid]
    have hy : fn_X7_told τ v = fn_X7_refuses τ (-2) := by
      unfold fn_X7_told
      rw [pu_m_in τ v 0 9 0 9 rfl rfl, show (9 : Int32) = nI 9 from rfl, hv]
      rw [Option.bind_some, pu_iff, pu_bid]
    rw [hx, hy]
    exact Sim.bad hi
theorem pu_clear {B : Nat} {σ τ : qm_M} (h : Inv B σ τ) : Sim B σ τ (fn_X6_clear σ) (fn_X7_clear τ) := by
  obtain ⟨h1, h2, h3, h4, ⟨n, n0, n1, n2, n3⟩⟩ := h
  refine ⟨nI n, qm_si σ 202 1 0, qm_si τ 210 7 0, by show some (σ.1 202 1, _) = _; rw [n1], by show some (τ.1 210 7, _) = _; rw [n2], ⟨h1.cong (fun r hr => ⟨qm_si_ne σ _ _ (by omega), rfl⟩), h2.cong (fun r hr => qm_si_ne σ _ _ (by omega)), h3.cong (fun id _ _ => ⟨qm_si_ne σ _ _ (by omega), rfl⟩) (by rw [qm_si_ne σ _ _ (by omega)]) (by rw [qm_si_ne σ _ _ (by omega)]) rfl (by rw [qm_si_at]; rfl), ?_, ?_⟩, Fc.si σ _ _ (by omega), Fm.si τ _ _ (by omega)⟩
  · unfold Cnt at h4 ⊢; rw [qm_si_ne σ _ _ (by omega), qm_si_ne τ _ _ (by omega)]; exact h4
  · exact ⟨0, by omega, by rw [qm_si_at]; rfl, by rw [qm_si_at]; rfl, fun i hi => absurd hi (by omega)⟩
theorem pu_type {B : Nat} {σ τ : qm_M} (h : Inv B σ τ) (v : Int32) : Sim B σ τ (fn_X6_type σ v) (fn_X7_type τ v) := by
  have hi := h
  obtain ⟨h1, h2, h3, h4, ⟨n, n0, n1, n2, n3⟩⟩ := h
  unfold fn_X6_type fn_X7_type
  rw [pu_c_within, pu_m_in τ v 0 127 0 127 rfl rfl]
  rcases pu_rng (v := v) 127 (by omega) with ⟨j, hj, rfl⟩ | hv
  · have hd : (decide ((0 : Int32) ≤ nI j) && decide (nI j ≤ (127 : Int32))) = true := by
      rw [show (0 : Int32) = nI 0 from rfl, show (127 : Int32) = nI 127 from rfl, decide_eq_true ((pu_le (by omega) (by omega)).mpr (Nat.zero_le j)), decide_eq_true ((pu_le (by omega) (by omega)).mpr hj)]; rfl
    rw [hd]
    rw [Option.bind_some, Option.bind_some, pu_ift, pu_ift, n1, n2]
    by_cases hn : n = 120
    · subst hn
      rw [if_neg (by decide), if_pos (show nI 120 = 120 from rfl), pu_bid, pu_bid]
      exact Sim.full hi
    · have hlt : n < 120 := by omega
      rw [if_pos (by show nI n < nI 120; rw [pu_lt (by omega) (by omega)]; exact hlt), if_neg (by show ¬ nI n = nI 120; rw [pu_eq (by omega) (by omega)]; exact hn), if_pos (pu_in hlt (by omega)), pu_clamp (by omega)]
      unfold fn_X5_append
      rw [n1, if_neg (by show ¬ nI 120 ≤ nI n; rw [pu_le (by omega) (by omega)]; omega), if_pos (pu_in hlt (by omega)), pu_clamp (by omega)]
      refine ⟨nI (n + 1), qm_si (qm_si σ 203 n (nI j)) 202 1 (nI (n + 1)), qm_si (qm_si τ 214 n (nI j)) 210 7 (nI (n + 1)), ?_, ?_, ⟨?_, ?_, ?_, ?_, ?_⟩, (Fc.si σ _ _ (by omega)).tr (Fc.si _ _ _ (by omega)), (Fm.si τ _ _ (by omega)).tr (Fm.si _ _ _ (by omega))⟩
      · simp only [Option.bind_some]
        rw [qm_si_ne σ _ _ (show (202 : Nat) ≠ 203 by omega), n1, pu_s1, qm_si_at, if_pos rfl]
      · simp only [Option.bind_some]
        rw [qm_si_ne τ _ _ (show (210 : Nat) ≠ 214 by omega), n2, pu_s1, qm_si_at, if_pos rfl]
      · rw [qm_si_2, qm_si_2]
        exact h1.cong (fun r hr => ⟨by rw [qm_si_ne _ _ _ (by omega), qm_si_ne _ _ _ (by omega)], rfl⟩)
      · exact h2.cong (fun r hr => by rw [qm_si_ne _ _ _ (by omega), qm_si_ne _ _ _ (by omega)])
      · exact h3.cong (fun id _ _ => ⟨by rw [qm_si_ne _ _ _ (by omega), qm_si_ne _ _ _ (by omega)], rfl⟩) (by rw [qm_si_ne _ _ _ (by omega), qm_si_ne _ _ _ (by omega)]) (by rw [qm_si_ne _ _ _ (by omega), qm_si_ne _ _ _ (by omega)]) rfl (by rw [qm_si_at, if_neg (by omega), qm_si_ne _ _ _ (by omega)])
      · unfold Cnt at h4 ⊢
        rw [qm_si_ne _ _ _ (by omega), qm_si_ne _ _ _ (by omega), qm_si_ne _ _ _ (by omega), qm_si_ne _ _ _ (by omega)]; exact h4
      · refine ⟨n + 1, by omega, by rw [qm_si_at, if_pos rfl], by rw [qm_si_at, if_pos rfl], fun i hi => ?_⟩
        rw [qm_si_ne (qm_si σ 203 n (nI j)) _ _ (show (203 : Nat) ≠ 202 by omega), qm_si_ne (qm_si τ 214 n (nI j)) _ _ (show (214 : Nat) ≠ 210 by omega), qm_si_at, qm_si_at]
        by_cases e : i = n
        · rw [if_pos e, if_pos e]; exact ⟨rfl, j, by omega, rfl⟩
        · rw [if_neg e, if_neg e]; exact n3 i (by omega)
  · rw [show (127 : Int32) = nI 127 from rfl, hv]
    rw [Option.bind_some, Option.bind_some, pu_iff, pu_iff, pu_bid, pu_bid]
    exact Sim.bad hi
