-- ===== the model's rows kept and taken back =====
def pu_row (τ : qm_M) (c j : Nat) : qm_M := (τ.1, fun i k => if i = 212 ∧ 215 * c ≤ k ∧ k < 215 * c + j then τ.2 211 (k - 215 * c) else τ.2 i k)
theorem pm_keep51 {τ : qm_M} {c : Nat} (hc : c < 5) (h : τ.1 210 2 = nI c) : lp_X7_keep_51 τ 0 = some (qm_si (pu_row τ c 215) 210 2 (nI (c + 1))) := by
  have key : ∀ m j n, j + m = 215 → m < n → qm_loop (fun s : Int32 × qm_M => bb_X7_keep_51 s.2 s.1) n (nI j, pu_row τ c j) = some (qm_si (pu_row τ c 215) 210 2 (nI (c + 1))) := by
    intro m
    induction m with
    | zero =>
      intro j n hj hn
      have hj : j = 215 := by omega
      subst hj
      cases n with
      | zero => omega
      | succ n =>
        refine pu_inr ?_
        show bb_X7_keep_51 (pu_row τ c 215) (nI 215) = _
        unfold bb_X7_keep_51
        rw [if_pos (by decide)]
        have e : (pu_row τ c 215).1 210 2 = nI c := h
        rw [e, pu_s1]; rfl
    | succ m ih =>
      intro j n hj hn
      cases n with
      | zero => omega
      | succ n =>
        rw [← ih (j + 1) n (by omega) (by omega)]
        refine pu_inl ?_
        show bb_X7_keep_51 (pu_row τ c j) (nI j) = _
        unfold bb_X7_keep_51
        have e : (pu_row τ c j).1 210 2 = nI c := h
        have ei : (215 : Int32) * nI c + nI j = nI (215 * c + j) := by
          show nI 215 * nI c + nI j = _
          rw [pk_mul, nI_add]
        rw [e, ei, if_neg (by show ¬ nI 215 ≤ nI j; rw [pu_le (by omega) (by omega)]; omega), if_pos (pu_in (show j < 215 by omega) (by omega)), if_pos (pu_in (show 215 * c + j < 1075 by omega) (by omega)), pu_clamp (by omega), pu_clamp (by omega), pu_s1]
        simp only [Option.bind_some]
        refine congrArg some (congrArg Sum.inl (congrArg (Prod.mk (nI (j + 1))) (Prod.ext rfl (funext fun i => funext fun k => ?_))))
        unfold qm_sl pu_row
        dsimp only
        by_cases hi : i = 212 ∧ k = 215 * c + j
        · rw [if_pos hi, if_neg (by omega), if_pos (by omega), hi.2, show 215 * c + j - 215 * c = j by omega]
        · rw [if_neg hi]
          by_cases hq : i = 212 ∧ 215 * c ≤ k ∧ k < 215 * c + j
          · rw [if_pos hq, if_pos (by omega)]
          · rw [if_neg hq, if_neg (by omega)]
  have e0 : pu_row τ c 0 = τ := Prod.ext rfl (funext fun i => funext fun k => by unfold pu_row; dsimp only; rw [if_neg (by omega)])
  have := key 215 0 1000 rfl (by omega)
  rw [e0] at this
  exact this
def pu_sh (τ : qm_M) (j : Nat) : qm_M := (τ.1, fun i k => if i = 212 ∧ k < j then τ.2 212 (k + 215) else τ.2 i k)
theorem pm_keep10 {τ : qm_M} (h : τ.1 210 2 = nI 5) : lp_X7_keep_10 τ 0 = some (qm_si (pu_row (qm_si (pu_sh τ 860) 210 2 (nI 4)) 4 215) 210 2 (nI 5)) := by
  have key : ∀ m j n, j + m = 860 → m < n → qm_loop (fun s : Int32 × qm_M => bb_X7_keep_10 s.2 s.1) n (nI j, pu_sh τ j) = some (qm_si (pu_row (qm_si (pu_sh τ 860) 210 2 (nI 4)) 4 215) 210 2 (nI 5)) := by
    intro m
    induction m with
    | zero =>
      intro j n hj hn
      have hj : j = 860 := by omega
      subst hj
      cases n with
      | zero => omega
      | succ n =>
        refine pu_inr ?_
        show bb_X7_keep_10 (pu_sh τ 860) (nI 860) = _
        unfold bb_X7_keep_10
        rw [if_pos (by decide)]
        have e : (pu_sh τ 860).1 210 2 = nI 5 := h
        rw [e, show nI 5 - 1 = nI 4 from rfl, Option.bind_some, pm_keep51 (c := 4) (by omega) (by rw [qm_si_at, if_pos rfl])]
        rfl
    | succ m ih =>
      intro j n hj hn
      cases n with
      | zero => omega
      | succ n =>
        rw [← ih (j + 1) n (by omega) (by omega)]
        refine pu_inl ?_
        show bb_X7_keep_10 (pu_sh τ j) (nI j) = _
        unfold bb_X7_keep_10
        have ei : nI j + (215 : Int32) = nI (j + 215) := by
          show nI j + nI 215 = _
          rw [nI_add]
        rw [ei, if_neg (by show ¬ nI 860 ≤ nI j; rw [pu_le (by omega) (by omega)]; omega), if_pos (pu_in (show j + 215 < 1075 by omega) (by omega)), if_pos (pu_in (show j < 1075 by omega) (by omega)), pu_clamp (by omega), pu_clamp (by omega), pu_s1]
        simp only [Option.bind_some]
        refine congrArg some (congrArg Sum.inl (congrArg (Prod.mk (nI (j + 1))) (Prod.ext rfl (funext fun i => funext fun k => ?_))))
        unfold qm_sl pu_sh
        dsimp only
        by_cases hi : i = 212 ∧ k = j
        · rw [if_pos hi, if_neg (by omega), if_pos (by omega), hi.2]
        · rw [if_neg hi]
          by_cases hq : i = 212 ∧ k < j
          · rw [if_pos hq, if_pos (by omega)]
          · rw [if_neg hq, if_neg (by omega)]
  have e0 : pu_sh τ 0 = τ := Prod.ext rfl (funext fun i => funext fun k => by unfold pu_sh; dsimp only; rw [if_neg (by omega)])
  have := key 860 0 1000 rfl (by omega)
  rw [e0] at this
  exact this
def pu_bk (τ : qm_M) (c j : Nat) : qm_M := (τ.1, fun i k => if i = 211 ∧ k < j then τ.2 212 (215 * c + k) else τ.2 i k)
theorem pm_back26 {τ : qm_M} {c : Nat} (hc : c < 5) (h : τ.1 210 2 = nI c) : lp_X7_back_26 τ 0 = some (nI c, pu_bk τ c 215) := by
  have key : ∀ m j n, j + m = 215 → m < n → qm_loop (fun s : Int32 × qm_M => bb_X7_back_26 s.2 s.1) n (nI j, pu_bk τ c j) = some (nI c, pu_bk τ c 215) := by
    intro m
    induction m with
    | zero =>
      intro j n hj hn
      have hj : j = 215 := by omega
      subst hj
      cases n with
      | zero => omega
      | succ n =>
        refine pu_inr ?_
        show bb_X7_back_26 (pu_bk τ c 215) (nI 215) = _
        unfold bb_X7_back_26
        rw [if_pos (by decide)]
        have e : (pu_bk τ c 215).1 210 2 = nI c := h
        rw [e]; rfl
    | succ m ih =>
      intro j n hj hn
      cases n with
      | zero => omega
      | succ n =>
        rw [← ih (j + 1) n (by omega) (by omega)]
        refine pu_inl ?_
        show bb_X7_back_26 (pu_bk τ c j) (nI j) = _
        unfold bb_X7_back_26
        have e : (pu_bk τ c j).1 210 2 = nI c := h
        have ei : (215 : Int32) * nI c + nI j = nI (215 * c + j) := by
          show nI 215 * nI c + nI j = _
          rw [pk_mul, nI_add]
        rw [e, ei, if_neg (by show ¬ nI 215 ≤ nI j; rw [pu_le (by omega) (by omega)]; omega), if_pos (pu_in (show 215 * c + j < 1075 by omega) (by omega)), if_pos (pu_in (show j < 215 by omega) (by omega)), pu_clamp (by omega), pu_clamp (by omega), pu_s1]
        simp only [Option.bind_some]
        refine congrArg some (congrArg Sum.inl (congrArg (Prod.mk (nI (j + 1))) (Prod.ext rfl (funext fun i => funext fun k => ?_))))
        unfold qm_sl pu_bk
        dsimp only
        by_cases hi : i = 211 ∧ k = j
        · rw [if_pos hi, if_neg (by omega), if_pos (by omega), hi.2]
        · rw [if_neg hi]
          by_cases hq : i = 211 ∧ k < j
          · rw [if_pos hq, if_pos (by omega)]
          · rw [if_neg hq, if_neg (by omega)]
  have e0 : pu_bk τ c 0 = τ := Prod.ext rfl (funext fun i => funext fun k => by unfold pu_bk; dsimp only; rw [if_neg (by omega)])
  have := key 215 0 1000 rfl (by omega)
  rw [e0] at this
  exact this
theorem RT.row {σ : qm_M} {g g' : Nat → Int64} (h : RT σ g) (e : ∀ k, k < 215 → g' k = g k) : RT σ g' := by
  obtain ⟨h1, h2, h3, h4, h5, h6⟩ := h
  have hk : ∀ k, k < 12 → pu_km k ≤ 14 := fun k hk => by unfold pu_km; split <;> omega
  refine ⟨fun s a b => ?_, fun s k a b c d => ?_, fun s a b c => ?_, ?_, fun k a => ?_, h6⟩
  · rw [e _ (by omega)]; exact h1 s a b
  · have := hk k c; rw [e _ (by omega)]; exact h2 s k a b c d
  · rw [e _ (by omega), e _ (by omega), e _ (by omega)]; exact h3 s a b c
  · rw [e _ (by omega)]; exact h4
  · rw [e _ (by omega)]; exact h5 k a
theorem pu_V0 (σ : qm_M) : pu_V 0 σ = σ := Prod.ext (funext fun r => by unfold pu_V; simp) (funext fun r => by unfold pu_V; simp)
theorem pu_mod {o c : Nat} (ho : o < 5) (hc : c ≤ 5) : (nI o + nI c) - (nI o + nI c) / 5 * 5 = nI ((o + c) % 5) := by
  rw [nI_add]
  show nI (o + c) - nI (o + c) / nI 5 * nI 5 = _
  rw [pk_rem (by omega) (by omega) (by omega)]
/-- what keeping a state leaves as it was -/
def Kp (σ σ' τ τ' : qm_M) : Prop := (∀ id, id < 32 ∨ 201 ≤ id → σ'.1 id = σ.1 id ∧ σ'.2 id = σ.2 id) ∧ (∀ id, id ≠ 210 → τ'.1 id = τ.1 id) ∧ (∀ k, k ≠ 2 → τ'.1 210 k = τ.1 210 k) ∧ (∀ id, id ≠ 212 → τ'.2 id = τ.2 id) ∧ (∀ k, 6 ≤ k → σ'.1 200 k = σ.1 200 k)
theorem pu_keep {B : Nat} {σ τ : qm_M} (h : Inv B σ τ) : ∃ σ' τ', fn_X6_leaveState σ = some σ' ∧ fn_X7_keep τ = some τ' ∧ Inv B σ' τ' ∧ Fc σ σ' ∧ Fm τ τ' ∧ Kp σ σ' τ τ' := by
  obtain ⟨h1, h2, ⟨o, c, ho, hc, so, sc, tc, hh⟩, h4, h5⟩ := h
  have w6 : ∀ s, s ≤ 12 → σ.1 (0 + 2 + s) 6 = 0 ∨ σ.1 (0 + 2 + s) 6 = 1 := fun s hs => by rw [show 0 + 2 + s = 2 + s by omega]; exact h2.2.2.2.2.2.2.2 s hs
  -- the memory of the program, once there is room
  have room : ∀ (σ1 : qm_M) (o c : Nat), o < 5 → c < 5 → σ1.1 200 2 = nI o → σ1.1 200 3 = nI c → (∀ s, s ≤ 12 → σ1.1 (0 + 2 + s) 6 = 0 ∨ σ1.1 (0 + 2 + s) 6 = 1) → bb_X6_leaveState_30 σ1 = some (qm_si (pu_cp (32 * ((o + c) % 5 + 1)) 0 σ1) 200 3 (nI (c + 1))) := by
    intro σ1 o c ho hc so sc w
    have hm : (o + c) % 5 < 5 := Nat.mod_lt _ (by omega)
    unfold bb_X6_leaveState_30
    rw [so, sc, pu_mod ho (by omega), if_pos (pu_in hm (by omega)), pu_clamp (by omega), pc_copy _ 0 (by omega) w, Option.bind_some]
    have e : (pu_cp (32 * ((o + c) % 5 + 1)) 0 σ1).1 200 3 = nI c := by unfold pu_cp; dsimp only; rw [if_neg (by omega), if_neg (by omega)]; exact sc
    rw [e, pu_s1]; rfl
  by_cases hc5 : c = 5
  · subst hc5
    have e1 : fn_X6_leaveState σ = bb_X6_leaveState_30 (qm_si (qm_si σ 200 2 (nI ((o + 1) % 5))) 200 3 (nI 4)) := by
      unfold fn_X6_leaveState
      rw [sc, if_pos (show nI 5 = 5 from rfl), so, show nI o + 1 - (nI o + 1) / 5 * 5 = nI ((o + 1) % 5) from pu_mod (c := 1) ho (by omega)]
      simp only [Option.bind_some]
      rw [qm_si_at, if_neg (by omega), sc]; rfl
    have hm : (o + 1) % 5 < 5 := Nat.mod_lt _ (by omega)
    have hm2 : ((o + 1) % 5 + 4) % 5 < 5 := Nat.mod_lt _ (by omega)
    have e2 := room (qm_si (qm_si σ 200 2 (nI ((o + 1) % 5))) 200 3 (nI 4)) ((o + 1) % 5) 4 hm (by omega) (by rw [qm_si_at, if_neg (by omega), qm_si_at, if_pos rfl]) (by rw [qm_si_at, if_pos rfl]) (fun s hs => by rw [qm_si_ne _ _ _ (by omega), qm_si_ne _ _ _ (by omega)]; exact w6 s hs)
    have e3 : fn_X7_keep τ = some (qm_si (pu_row (qm_si (pu_sh τ 860) 210 2 (nI 4)) 4 215) 210 2 (nI 5)) := by
      unfold fn_X7_keep
      rw [tc, if_pos (show nI 5 = 5 from rfl), pm_keep10 tc]
    -- what the program's memory is behind it
    have q1 : ∀ id, id < 32 ∨ 201 ≤ id → ∀ k, (qm_si (pu_cp (32 * (((o + 1) % 5 + 4) % 5 + 1)) 0 (qm_si (qm_si σ 200 2 (nI ((o + 1) % 5))) 200 3 (nI 4))) 200 3 (nI (4 + 1))).1 id k = σ.1 id k := fun id hid k => by
      rw [qm_si_ne _ _ _ (by omega)]
      unfold pu_cp; dsimp only
      rw [if_neg (by omega), if_neg (by omega), qm_si_ne _ _ _ (by omega), qm_si_ne _ _ _ (by omega)]
    have q2 : ∀ id, id < 32 ∨ 201 ≤ id → ∀ k, (qm_si (pu_cp (32 * (((o + 1) % 5 + 4) % 5 + 1)) 0 (qm_si (qm_si σ 200 2 (nI ((o + 1) % 5))) 200 3 (nI 4))) 200 3 (nI (4 + 1))).2 id k = σ.2 id k := fun id hid k => by
      rw [qm_si_2]
      unfold pu_cp; dsimp only
      rw [if_neg (by omega)]; rfl
    refine ⟨_, _, e1.trans e2, e3, ⟨?_, ?_, ?_, ?_, ?_⟩, fun id hid => ⟨funext (q1 id (by omega)), funext (q2 id (by omega))⟩, fun id hid => ⟨?_, ?_⟩, fun id hid => ⟨funext (q1 id hid), funext (q2 id hid)⟩, fun id hid => ?_, fun k hk => ?_, fun id hid => ?_, fun k hk => ?_⟩
    · refine (h1.cong (fun r hr => ⟨funext (q1 r (by omega)), funext (q2 r (by omega))⟩)).row (fun k _ => ?_)
      rw [qm_si_2]; unfold pu_row; dsimp only; rw [if_neg (by omega)]; rw [qm_si_2]; unfold pu_sh; dsimp only; rw [if_neg (by omega)]
    · exact h2.cong (fun r hr => funext (q1 r (by omega)))
    · refine ⟨(o + 1) % 5, 5, hm, by omega, ?_, by rw [qm_si_at, if_pos rfl], by rw [qm_si_at, if_pos rfl], fun j hj => ?_⟩
      · rw [qm_si_at, if_neg (by omega)]
        unfold pu_cp; dsimp only
        rw [if_neg (by omega), if_neg (by omega), qm_si_at, if_neg (by omega), qm_si_at, if_pos rfl]
      · by_cases hj4 : j = 4
        · subst hj4
          have r1 : RT (pu_V 0 (qm_si (qm_si σ 200 2 (nI ((o + 1) % 5))) 200 3 (nI 4))) (τ.2 211) := by
            rw [pu_V0]; exact h1.cong (fun r hr => ⟨by rw [qm_si_ne _ _ _ (by omega), qm_si_ne _ _ _ (by omega)], rfl⟩)
          have r2 : WF B (pu_V 0 (qm_si (qm_si σ 200 2 (nI ((o + 1) % 5))) 200 3 (nI 4))) := by
            rw [pu_V0]; exact h2.cong (fun r hr => by rw [qm_si_ne _ _ _ (by omega), qm_si_ne _ _ _ (by omega)])
          refine ⟨((pu_cp_V (32 * (((o + 1) % 5 + 4) % 5 + 1)) 0 r1).cong (fun r hr => ⟨funext fun k => ?_, funext fun k => ?_⟩)).row (fun k hk => ?_), (pu_cp_W (32 * (((o + 1) % 5 + 4) % 5 + 1)) 0 r2).cong (fun r hr => funext fun k => ?_)⟩
          · show (qm_si _ 200 3 _).1 _ k = _; rw [qm_si_ne _ _ _ (by omega)]; rfl
          · rfl
          · rw [qm_si_2]; unfold pu_row; dsimp only; rw [if_pos (by omega), show 215 * 4 + k - 215 * 4 = k by omega, qm_si_2]; unfold pu_sh; dsimp only; rw [if_neg (by omega)]
          · show (qm_si _ 200 3 _).1 _ k = _; rw [qm_si_ne _ _ _ (by omega)]; rfl
        · have hx : ((o + 1) % 5 + j) % 5 = (o + (j + 1)) % 5 := by omega
          have hn : (o + (j + 1)) % 5 ≠ ((o + 1) % 5 + 4) % 5 := by omega
          have hl : (o + (j + 1)) % 5 < 5 := Nat.mod_lt _ (by omega)
          obtain ⟨r1, r2⟩ := hh (j + 1) (by omega)
          rw [hx]
          refine ⟨(r1.cong (fun r hr => ⟨funext fun k => ?_, funext fun k => ?_⟩)).row (fun k hk => ?_), r2.cong (fun r hr => funext fun k => ?_)⟩
          · show (qm_si _ 200 3 _).1 _ k = σ.1 _ k
            rw [qm_si_ne _ _ _ (by omega)]
            unfold pu_cp; dsimp only
            rw [if_neg (by omega), if_neg (by omega), qm_si_ne _ _ _ (by omega), qm_si_ne _ _ _ (by omega)]
          · show (pu_cp (32 * (((o + 1) % 5 + 4) % 5 + 1)) 0 (qm_si (qm_si σ 200 2 (nI ((o + 1) % 5))) 200 3 (nI 4))).2 (32 * ((o + (j + 1)) % 5 + 1) + r) k = σ.2 (32 * ((o + (j + 1)) % 5 + 1) + r) k
            unfold pu_cp; dsimp only
            rw [if_neg (by omega)]; rfl
          · rw [qm_si_2]; unfold pu_row; dsimp only; rw [if_neg (by omega), qm_si_2]; unfold pu_sh; dsimp only; rw [if_pos (by omega), show 215 * j + k + 215 = 215 * (j + 1) + k by omega]
          · show (qm_si _ 200 3 _).1 _ k = σ.1 _ k
            rw [qm_si_ne _ _ _ (by omega)]
            unfold pu_cp; dsimp only
            rw [if_neg (by omega), if_neg (by omega), qm_si_ne _ _ _ (by omega), qm_si_ne _ _ _ (by omega)]
    · have f : ∀ k, 6 ≤ k → (qm_si (pu_cp (32 * (((o + 1) % 5 + 4) % 5 + 1)) 0 (qm_si (qm_si σ 200 2 (nI ((o + 1) % 5))) 200 3 (nI 4))) 200 3 (nI (4 + 1))).1 200 k = σ.1 200 k := fun k hk => by
        rw [qm_si_at, if_neg (by omega)]
        unfold pu_cp; dsimp only
        rw [if_neg (by omega), if_neg (by omega), qm_si_at, if_neg (by omega), qm_si_at, if_neg (by omega)]
      unfold Cnt at h4 ⊢
      rw [f 6 (by omega), f 7 (by omega), f 8 (by omega), qm_si_ne _ _ _ (show (213 : Nat) ≠ 210 by omega)]
      exact h4
    · unfold Txt at h5 ⊢
      rw [q1 202 (by omega) 1, show (qm_si (pu_cp (32 * (((o + 1) % 5 + 4) % 5 + 1)) 0 (qm_si (qm_si σ 200 2 (nI ((o + 1) % 5))) 200 3 (nI 4))) 200 3 (nI (4 + 1))).1 203 = σ.1 203 from funext (q1 203 (by omega)), qm_si_at, if_neg (by omega), qm_si_ne _ _ _ (show (214 : Nat) ≠ 210 by omega)]
      show ∃ n, n ≤ 120 ∧ σ.1 202 1 = nI n ∧ (qm_si (pu_sh τ 860) 210 2 (nI 4)).1 210 7 = nI n ∧ ∀ i, i < n → σ.1 203 i = (qm_si (pu_sh τ 860) 210 2 (nI 4)).1 214 i ∧ ∃ b, b < 128 ∧ σ.1 203 i = nI b
      rw [qm_si_at, if_neg (by omega), qm_si_ne _ _ _ (show (214 : Nat) ≠ 210 by omega)]
      exact h5
    · rw [qm_si_ne _ _ _ (by omega)]; show (qm_si _ 210 2 _).1 id = _; rw [qm_si_ne _ _ _ (by omega)]; rfl
    · funext k; rw [qm_si_2]; unfold pu_row; dsimp only; rw [if_neg (by omega), qm_si_2]; unfold pu_sh; dsimp only; rw [if_neg (by omega)]
    · rw [qm_si_ne _ _ _ hid]; show (qm_si _ 210 2 _).1 id = _; rw [qm_si_ne _ _ _ hid]; rfl
    · rw [qm_si_at, if_neg hk]; show (qm_si _ 210 2 _).1 210 k = _; rw [qm_si_at, if_neg hk]; rfl
    · funext k; rw [qm_si_2]; unfold pu_row; dsimp only; rw [if_neg (by omega), qm_si_2]; unfold pu_sh; dsimp only; rw [if_neg (by omega)]
    · rw [qm_si_at, if_neg (by omega)]
      unfold pu_cp; dsimp only
      rw [if_neg (by omega), if_neg (by omega), qm_si_at, if_neg (by omega), qm_si_at, if_neg (by omega)]
  · have hcl : c < 5 := by omega
    have hm : (o + c) % 5 < 5 := Nat.mod_lt _ (by omega)
    have e1 : fn_X6_leaveState σ = bb_X6_leaveState_30 σ := by
      unfold fn_X6_leaveState
      rw [sc, if_neg (by show ¬ nI c = nI 5; rw [pu_eq (by omega) (by omega)]; exact hc5)]
    have e2 := room σ o c ho hcl so sc w6
    have e3 : fn_X7_keep τ = some (qm_si (pu_row τ c 215) 210 2 (nI (c + 1))) := by
      unfold fn_X7_keep
      rw [tc, if_neg (by show ¬ nI c = nI 5; rw [pu_eq (by omega) (by omega)]; exact hc5), pm_keep51 hcl tc]
    have q1 : ∀ id, id < 32 ∨ 201 ≤ id → ∀ k, (qm_si (pu_cp (32 * ((o + c) % 5 + 1)) 0 σ) 200 3 (nI (c + 1))).1 id k = σ.1 id k := fun id hid k => by
      rw [qm_si_ne _ _ _ (by omega)]
      unfold pu_cp; dsimp only
      rw [if_neg (by omega), if_neg (by omega)]
    have q2 : ∀ id, id < 32 ∨ 201 ≤ id → ∀ k, (qm_si (pu_cp (32 * ((o + c) % 5 + 1)) 0 σ) 200 3 (nI (c + 1))).2 id k = σ.2 id k := fun id hid k => by
      rw [qm_si_2]
      unfold pu_cp; dsimp only
      rw [if_neg (by omega)]
    refine ⟨_, _, e1.trans e2, e3, ⟨?_, ?_, ?_, ?_, ?_⟩, fun id hid => ⟨funext (q1 id (by omega)), funext (q2 id (by omega))⟩, fun id hid => ⟨?_, ?_⟩, fun id hid => ⟨funext (q1 id hid), funext (q2 id hid)⟩, fun id hid => ?_, fun k hk => ?_, fun id hid => ?_, fun k hk => ?_⟩
    · refine (h1.cong (fun r hr => ⟨funext (q1 r (by omega)), funext (q2 r (by omega))⟩)).row (fun k _ => ?_)
      rw [qm_si_2]; unfold pu_row; dsimp only; rw [if_neg (by omega)]
    · exact h2.cong (fun r hr => funext (q1 r (by omega)))
    · refine ⟨o, c + 1, ho, by omega, ?_, by rw [qm_si_at, if_pos rfl], by rw [qm_si_at, if_pos rfl], fun j hj => ?_⟩
      · rw [qm_si_at, if_neg (by omega)]
        unfold pu_cp; dsimp only
        rw [if_neg (by omega), if_neg (by omega)]; exact so
      · by_cases hj4 : j = c
        · subst hj4
          have r1 : RT (pu_V 0 σ) (τ.2 211) := by rw [pu_V0]; exact h1
          have r2 : WF B (pu_V 0 σ) := by rw [pu_V0]; exact h2
          refine ⟨((pu_cp_V (32 * ((o + j) % 5 + 1)) 0 r1).cong (fun r hr => ⟨funext fun k => ?_, funext fun k => ?_⟩)).row (fun k hk => ?_), (pu_cp_W (32 * ((o + j) % 5 + 1)) 0 r2).cong (fun r hr => funext fun k => ?_)⟩
          · show (qm_si _ 200 3 _).1 _ k = _; rw [qm_si_ne _ _ _ (by omega)]; rfl
          · rfl
          · rw [qm_si_2]; unfold pu_row; dsimp only; rw [if_pos (by omega), show 215 * j + k - 215 * j = k by omega]
          · show (qm_si _ 200 3 _).1 _ k = _; rw [qm_si_ne _ _ _ (by omega)]; rfl
        · have hn : (o + j) % 5 ≠ (o + c) % 5 := by omega
          have hl : (o + j) % 5 < 5 := Nat.mod_lt _ (by omega)
          obtain ⟨r1, r2⟩ := hh j (by omega)
          refine ⟨(r1.cong (fun r hr => ⟨funext fun k => ?_, funext fun k => ?_⟩)).row (fun k hk => ?_), r2.cong (fun r hr => funext fun k => ?_)⟩
          · show (qm_si _ 200 3 _).1 _ k = σ.1 _ k
            rw [qm_si_ne _ _ _ (by omega)]
            unfold pu_cp; dsimp only
            rw [if_neg (by omega), if_neg (by omega)]
          · show (pu_cp (32 * ((o + c) % 5 + 1)) 0 σ).2 (32 * ((o + j) % 5 + 1) + r) k = σ.2 (32 * ((o + j) % 5 + 1) + r) k
            unfold pu_cp; dsimp only
            rw [if_neg (by omega)]
          · rw [qm_si_2]; unfold pu_row; dsimp only; rw [if_neg (by omega)]
          · show (qm_si _ 200 3 _).1 _ k = σ.1 _ k
            rw [qm_si_ne _ _ _ (by omega)]
            unfold pu_cp; dsimp only
            rw [if_neg (by omega), if_neg (by omega)]
    · have f : ∀ k, 6 ≤ k → (qm_si (pu_cp (32 * ((o + c) % 5 + 1)) 0 σ) 200 3 (nI (c + 1))).1 200 k = σ.1 200 k := fun k hk => by
        rw [qm_si_at, if_neg (by omega)]
        unfold pu_cp; dsimp only
        rw [if_neg (by omega), if_neg (by omega)]
      unfold Cnt at h4 ⊢
      rw [f 6 (by omega), f 7 (by omega), f 8 (by omega), qm_si_ne _ _ _ (show (213 : Nat) ≠ 210 by omega)]
      exact h4
    · unfold Txt at h5 ⊢
      rw [q1 202 (by omega) 1, show (qm_si (pu_cp (32 * ((o + c) % 5 + 1)) 0 σ) 200 3 (nI (c + 1))).1 203 = σ.1 203 from funext (q1 203 (by omega)), qm_si_at, if_neg (by omega), qm_si_ne _ _ _ (show (214 : Nat) ≠ 210 by omega)]
      exact h5
    · rw [qm_si_ne _ _ _ (by omega)]; rfl
    · funext k; rw [qm_si_2]; unfold pu_row; dsimp only; rw [if_neg (by omega)]
    · rw [qm_si_ne _ _ _ hid]; rfl
    · rw [qm_si_at, if_neg hk]; rfl
    · funext k; rw [qm_si_2]; unfold pu_row; dsimp only; rw [if_neg (by omega)]
    · rw [qm_si_at, if_neg (by omega)]
      unfold pu_cp; dsimp only
      rw [if_neg (by omega), if_neg (by omega)]
theorem pu_back {B : Nat} {σ τ : qm_M} (h : Inv B σ τ) : Sim B σ τ (fn_X6_back σ) (fn_X7_back τ) := by
  have hi := h
  obtain ⟨h1, h2, ⟨o, c, ho, hc, so, sc, tc, hh⟩, h4, h5⟩ := h
  unfold fn_X6_back fn_X7_back
  rw [sc, tc]
  by_cases hc0 : c = 0
  · subst hc0
    rw [if_pos (show nI 0 = 0 from rfl), if_pos (show nI 0 = 0 from rfl), pu_bid, pu_bid]
    exact Sim.no hi
  · have hne : ¬ nI c = 0 := by show ¬ nI c = nI 0; rw [pu_eq (by omega) (by omega)]; exact hc0
    obtain ⟨d, rfl⟩ : ∃ d, c = d + 1 := ⟨c - 1, by omega⟩
    have hs : nI (d + 1) - 1 = nI d := nI_pred d
    rw [if_neg hne, if_neg hne, hs]
    simp only [Option.bind_some]
    have hm : (o + d) % 5 < 5 := Nat.mod_lt _ (by omega)
    obtain ⟨r1, r2⟩ := hh d (by omega)
    rw [show (qm_si σ 200 3 (nI d)).1 200 2 = nI o by rw [qm_si_at, if_neg (by omega), so], show (qm_si σ 200 3 (nI d)).1 200 3 = nI d by rw [qm_si_at, if_pos rfl], pu_mod ho (by omega), if_pos (pu_in hm (by omega)), pu_clamp (by omega), pc_copy 0 _ (by omega) (fun s hs => by
      rw [qm_si_ne _ _ _ (by omega), show 32 * ((o + d) % 5 + 1) + 2 + s = 32 * ((o + d) % 5 + 1) + (2 + s) by omega]
      exact r2.2.2.2.2.2.2.2 s hs), pm_back26 (c := d) (by omega) (by rw [qm_si_at, if_pos rfl])]
    simp only [Option.bind_some]
    have p1 : ∀ id, 15 ≤ id → id ≠ 200 → ∀ k, (pu_cp 0 (32 * ((o + d) % 5 + 1)) (qm_si σ 200 3 (nI d))).1 id k = σ.1 id k := fun id h1 h2 k => by
      unfold pu_cp; dsimp only
      rw [if_neg (by omega), if_neg (by omega), qm_si_ne _ _ _ h2]
    have p2 : ∀ id, 15 ≤ id → ∀ k, (pu_cp 0 (32 * ((o + d) % 5 + 1)) (qm_si σ 200 3 (nI d))).2 id k = σ.2 id k := fun id h1 k => by
      unfold pu_cp; dsimp only
      rw [if_neg (by omega)]; rfl
    have p3 : ∀ k, (pu_cp 0 (32 * ((o + d) % 5 + 1)) (qm_si σ 200 3 (nI d))).1 200 k = if k = 3 then nI d else σ.1 200 k := fun k => by
      unfold pu_cp; dsimp only
      rw [if_neg (by omega), if_neg (by omega), qm_si_at]
    refine ⟨nI d, pu_cp 0 (32 * ((o + d) % 5 + 1)) (qm_si σ 200 3 (nI d)), pu_bk (qm_si τ 210 2 (nI d)) d 215, ?_, rfl, ⟨?_, ?_, ?_, ?_, ?_⟩, fun id hid => ⟨funext (p1 id (by omega) (by omega)), funext (p2 id (by omega))⟩, fun id hid => ⟨qm_si_ne _ _ _ (by omega), ?_⟩⟩
    · rw [p3 3, if_pos rfl]
    · have q := pu_cp_V (σ := qm_si σ 200 3 (nI d)) 0 (32 * ((o + d) % 5 + 1)) (r1.cong (fun r hr => ⟨by funext k; show (qm_si σ 200 3 (nI d)).1 _ k = σ.1 _ k; rw [qm_si_ne _ _ _ (by omega)], rfl⟩))
      rw [pu_V0] at q
      refine q.row (fun k hk => ?_)
      unfold pu_bk; dsimp only; rw [if_pos ⟨rfl, hk⟩]; rfl
    · have q := pu_cp_W (B := B) (σ := qm_si σ 200 3 (nI d)) 0 (32 * ((o + d) % 5 + 1)) (r2.cong (fun r hr => by funext k; show (qm_si σ 200 3 (nI d)).1 _ k = σ.1 _ k; rw [qm_si_ne _ _ _ (by omega)]))
      rw [pu_V0] at q
      exact q
    · refine ⟨o, d, ho, by omega, by rw [p3, if_neg (by omega), so], by rw [p3, if_pos rfl], by show (qm_si τ 210 2 (nI d)).1 210 2 = _; rw [qm_si_at, if_pos rfl], fun j hj => ?_⟩
      obtain ⟨x1, x2⟩ := hh j (by omega)
      have hl : (o + j) % 5 < 5 := Nat.mod_lt _ (by omega)
      refine ⟨(x1.cong (fun r hr => ⟨funext fun k => p1 _ (by omega) (by omega) k, funext fun k => p2 _ (by omega) k⟩)).row (fun k hk => ?_), x2.cong (fun r hr => funext fun k => p1 _ (by omega) (by omega) k)⟩
      unfold pu_bk; dsimp only; rw [if_neg (by omega)]; rfl
    · unfold Cnt at h4 ⊢
      rw [p3, p3, p3, if_neg (by omega), if_neg (by omega), if_neg (by omega)]
      show σ.1 200 6 = (qm_si τ 210 2 (nI d)).1 213 0 ∧ σ.1 200 7 = (qm_si τ 210 2 (nI d)).1 213 1 ∧ σ.1 200 8 = (qm_si τ 210 2 (nI d)).1 213 2
      rw [qm_si_ne _ _ _ (by omega)]; exact h4
    · unfold Txt at h5 ⊢
      rw [p1 202 (by omega) (by omega) 1, show (pu_cp 0 (32 * ((o + d) % 5 + 1)) (qm_si σ 200 3 (nI d))).1 203 = σ.1 203 from funext (p1 203 (by omega) (by omega))]
      show ∃ n, n ≤ 120 ∧ σ.1 202 1 = nI n ∧ (qm_si τ 210 2 (nI d)).1 210 7 = nI n ∧ ∀ i, i < n → σ.1 203 i = (qm_si τ 210 2 (nI d)).1 214 i ∧ ∃ b, b < 128 ∧ σ.1 203 i = nI b
      rw [qm_si_at, if_neg (by omega), qm_si_ne _ _ _ (by omega)]; exact h5
    · funext k; unfold pu_bk; dsimp only; rw [if_neg (by omega)]; rfl
