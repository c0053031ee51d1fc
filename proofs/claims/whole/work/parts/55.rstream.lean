theorem TP.fp {σ σ' : qm_M} {n : Nat} {tb : Nat → Nat} (T : TP σ n tb) (F : FP σ σ') : TP σ' n tb := ⟨T.1, by rw [F.2.2]; exact T.2.1, fun i hi => by rw [F.2.1 203 (by omega) (by omega)]; exact T.2.2 i hi⟩
theorem TM.fm {τ τ' : qm_M} {n : Nat} {tb : Nat → Nat} (T : TM τ n tb) (F : FM τ τ') : TM τ' n tb := ⟨T.1, by rw [F.2.2 7 (by omega)]; exact T.2.1, fun i hi => by rw [F.2.1 214 (by omega) (by omega)]; exact T.2.2 i hi⟩
theorem pu_num_q {tb : Nat → Nat} {n most p q : Nat} (hp : p ≤ n) (h : pu_num tb n most p = .inl q) : q ≤ n := by
  unfold pu_num pu_val at h
  cases g0 : pu_fg tb n p
  · rw [g0, if_neg (show ¬ (false = true) by decide)] at h
    have := Sum.inl.inj h; omega
  · have f0 := pu_fg_t g0
    rw [g0, if_pos rfl] at h
    cases g1 : pu_fg tb n (p + 1)
    · rw [g1, if_neg (show ¬ (false = true) by decide)] at h
      split at h
      · cases h
      · have := Sum.inl.inj h; omega
    · have f1 := pu_fg_t g1
      rw [g1, if_pos rfl] at h
      cases g2 : pu_fg tb n (p + 2)
      · rw [g2, if_neg (show ¬ (false = true) by decide)] at h
        split at h
        · cases h
        · have := Sum.inl.inj h; omega
      · rw [g2, if_pos rfl] at h
        have := Sum.inl.inj h; omega
theorem pu_at58 {tb : Nat → Nat} {n p k : Nat} (hb : ∀ i, i < n → tb i < 128) (hk : k < 128) (h : pu_at tb n p = nI k) : p < n := by
  unfold pu_at at h
  by_cases c : p < n
  · exact c
  · rw [if_neg c] at h; exact absurd h.symm (pu_m1 (by omega))
theorem pu_rs {σ τ : qm_M} {n p p0 c a : Nat} {tb nm wt pa : Nat → Nat} (T : TP σ n tb) (U : TM τ n tb) (hb : ∀ i, i < n → tb i < 128) (hp : σ.1 202 8 = nI p) (hf : σ.1 202 9 = -1) (h : p ≤ n) (hp0 : τ.1 210 8 = nI p0) (h0 : p0 ≤ n) (ep : pu_sk tb n p0 = p) (A : PA σ c nm wt pa) (Bt : PB τ c nm wt pa) (D : PN c nm wt pa) (ha : a = 0 ∨ ∃ i, i < c ∧ nm i = a) :
    (∃ σ' τ' v w p', fn_X5_readStream σ (nI a) = some (nI v, σ') ∧ fn_X7_takesStream τ (nI a) = some (true, τ') ∧ p < p' ∧ p' ≤ n ∧ σ'.1 202 8 = nI p' ∧ σ'.1 202 9 = -1 ∧ τ'.1 210 8 = nI p' ∧ PA σ' (c + 1) (pu_u nm c v) (pu_u wt c w) (pu_u pa c a) ∧ PB τ' (c + 1) (pu_u nm c v) (pu_u wt c w) (pu_u pa c a) ∧ PN (c + 1) (pu_u nm c v) (pu_u wt c w) (pu_u pa c a) ∧ FP σ σ' ∧ FM τ τ') ∨
    (∃ σ' τ' r q, fn_X5_readStream σ (nI a) = some (r, σ') ∧ fn_X7_takesStream τ (nI a) = some (false, τ') ∧ q ≤ n ∧ σ'.1 202 9 = nI q ∧ τ'.1 210 8 = nI q ∧ FP σ σ' ∧ FM τ τ') := by
  have n1 := T.1
  have z61 : ∀ (σ' : qm_M) (v q : Nat), q ≤ n → σ'.1 202 9 = nI q → bb_X5_readStream_61 σ' (nI a) (nI v) = some (-1, σ') := by
    intro σ' v q hq h9
    unfold bb_X5_readStream_61
    rw [h9, if_neg (pu_m1 (by omega))]
  have bl := pm_blanks U hb hp0 h0
  rw [ep] at bl
  have U1 : TM (qm_si τ 210 8 (nI p)) n tb := U.si _ (by omega) (by omega)
  have FU1 : FM τ (qm_si τ 210 8 (nI p)) := FM.si τ _ (Or.inl ⟨rfl, by omega⟩)
  have e8 : (qm_si τ 210 8 (nI p)).1 210 8 = nI p := by rw [qm_si_at, if_pos rfl]
  have skp : pu_sk tb n p = p := by rw [← ep]; exact pu_sk_id h0
  obtain ⟨c1, c2⟩ := pc_number T hb (show 12 ≤ 16 by omega) hp hf h
  obtain ⟨m1, m2⟩ := pm_number U1 hb (show 12 ≤ 16 by omega) e8 h skp
  have hP0 : fn_X5_readStream σ (nI a) = (fn_X5_readNumber σ (nI 12)).bind (fun r2 => if (r2.2.1 202 9) = (-1) then (fn_X6_has r2.2 (r2.2.1 202 7) r2.1).bind (fun r13 => if (qm_b r13) = 0 then bb_X5_readStream_36 r2.2 (nI a) r2.1 else (some (qm_si r2.2 202 9 (nI p))).bind (fun σ14 => bb_X5_readStream_36 σ14 (nI a) r2.1)) else bb_X5_readStream_36 r2.2 (nI a) r2.1) := by
    unfold fn_X5_readStream
    rw [hp]; rfl
  have hM0 : fn_X7_takesStream τ (nI a) = (fn_X7_takes (qm_si τ 210 8 (nI p)) (nI 12)).bind (fun r3 => if (qm_b r3.1) = 0 then some (false, r3.2) else lp_X7_takesStream_24 r3.2 (nI a) (nI p) 0) := by
    unfold fn_X7_takesStream
    rw [bl, Option.bind_some, Option.bind_some]
    dsimp only
    rw [e8]; rfl
  cases hnum : pu_num tb n 12 p with
  | inl q =>
    right
    obtain ⟨σ', s1, s2, s3⟩ := c2 q hnum
    obtain ⟨τ', t1, t2, t3⟩ := m2 q hnum
    have qn := pu_num_q h hnum
    have hP : fn_X5_readStream σ (nI a) = some (-1, σ') := by
      rw [hP0, s1, Option.bind_some]
      dsimp only
      rw [s2, if_neg (pu_m1 (by omega))]
      unfold bb_X5_readStream_36 bb_X5_readStream_61
      rw [s2, if_neg (pu_m1 (by omega)), if_neg (pu_m1 (by omega))]
    have hM : fn_X7_takesStream τ (nI a) = some (false, τ') := by
      rw [hM0, t1, Option.bind_some, pu_iff]
    exact ⟨σ', τ', -1, q, hP, hM, qn, s2, t2, s3, FU1.tr t3⟩
  | inr vp =>
    obtain ⟨v, p1⟩ := vp
    obtain ⟨v1, v2, pp1, p1n⟩ := pu_num_b hnum
    have f9 : (qm_si σ 202 8 (nI p1)).1 202 9 = -1 := by rw [qm_si_at, if_neg (by omega)]; exact hf
    have T1 : TP (qm_si σ 202 8 (nI p1)) n tb := T.si _ (by omega) (by omega)
    have A1 : PA (qm_si σ 202 8 (nI p1)) c nm wt pa := A.si _ (Or.inl rfl)
    have FT1 : FP σ (qm_si σ 202 8 (nI p1)) := FP.si σ _ (Or.inl ⟨rfl, by omega⟩)
    have sm : qm_si (qm_si (qm_si τ 210 8 (nI p)) 210 8 (nI p1)) 210 9 (nI v) = qm_si (qm_si τ 210 8 (nI p1)) 210 9 (nI v) := by rw [pu_si_si]
    have hP1 : fn_X5_readStream σ (nI a) = if qm_b (bt ((qm_si σ 202 8 (nI p1)).1 202 7) v) = 0 then bb_X5_readStream_36 (qm_si σ 202 8 (nI p1)) (nI a) (nI v) else bb_X5_readStream_36 (qm_si (qm_si σ 202 8 (nI p1)) 202 9 (nI p)) (nI a) (nI v) := by
      rw [hP0, c1 v p1 hnum, Option.bind_some]
      dsimp only
      rw [f9, if_pos rfl, pu_has _ _ (by omega), Option.bind_some]; rfl
    have hM1 : fn_X7_takesStream τ (nI a) = lp_X7_takesStream_24 (qm_si (qm_si τ 210 8 (nI p1)) 210 9 (nI v)) (nI a) (nI p) 0 := by
      rw [hM0, m1 v p1 hnum, Option.bind_some, pu_ift, sm]
    rw [hP1, hM1]
    -- the model's memory now
    have k8 : (qm_si (qm_si τ 210 8 (nI p1)) 210 9 (nI v)).1 210 8 = nI p1 := by rw [qm_si_at, if_neg (by omega), qm_si_at, if_pos rfl]
    have k9 : (qm_si (qm_si τ 210 8 (nI p1)) 210 9 (nI v)).1 210 9 = nI v := by rw [qm_si_at, if_pos rfl]
    have U2 : TM (qm_si (qm_si τ 210 8 (nI p1)) 210 9 (nI v)) n tb := (U.si _ (by omega) (by omega)).si _ (by omega) (by omega)
    have B2 : PB (qm_si (qm_si τ 210 8 (nI p1)) 210 9 (nI v)) c nm wt pa := (Bt.si _ (Or.inl ⟨rfl, Or.inl rfl⟩)).si _ (Or.inl ⟨rfl, Or.inr rfl⟩)
    have FU2 : FM τ (qm_si (qm_si τ 210 8 (nI p1)) 210 9 (nI v)) := (FM.si τ _ (Or.inl ⟨rfl, by omega⟩)).tr (FM.si _ _ (Or.inl ⟨rfl, by omega⟩))
    clear hP0 hM0 hP1 hM1 m1 m2 c1 c2 sm
    generalize qm_si (qm_si τ 210 8 (nI p1)) 210 9 (nI v) = τ2 at k8 k9 U2 B2 FU2
    have c12 := D.1
    have stepN : ∀ i, i < c → nm i ≠ v → bb_X7_takesStream_24 τ2 (nI a) (nI p) (nI i) = some (.inl (nI (i + 1))) := by
      intro i hi hne
      unfold bb_X7_takesStream_24
      have bi := (D.2.1 i hi)
      rw [B2.1, if_neg (by rw [pu_le (by omega) (by omega)]; omega), if_pos (pu_in (show i < 12 by omega) (by omega)), pu_clamp (by omega), (B2.2 i hi).1, k9, if_neg (by rw [pu_eq (by omega) (by omega)]; exact hne), pu_s1]; rfl
    cases htold : bt ((qm_si σ 202 8 (nI p1)).1 202 7) v
    · -- not told yet
      have nv : ∀ i, i < c → nm i ≠ v := fun i hi e => by
        have := (A1.2.2 v (by omega)).mpr ⟨i, hi, e⟩
        rw [htold] at this; cases this
      have lp : ∀ m i, i + m = c → ∀ N, m < N → qm_loop (fun s : Int32 => bb_X7_takesStream_24 τ2 (nI a) (nI p) s) N (nI i) = qm_loop (fun s : Int32 => bb_X7_takesStream_24 τ2 (nI a) (nI p) s) (N - m) (nI c) := by
        intro m
        induction m with
        | zero => intro i hi N _; rw [show i = c by omega, Nat.sub_zero]
        | succ m ih =>
          intro i hi N hN
          obtain ⟨N, rfl⟩ : ∃ q, N = q + 1 := ⟨N - 1, by omega⟩
          rw [pu_inl (stepN i (by omega) (nv i (by omega))), ih (i + 1) (by omega) N (by omega), show N - m = N + 1 - (m + 1) by omega]
      have e24 : lp_X7_takesStream_24 τ2 (nI a) (nI p) 0 = qm_loop (fun s : Int32 => bb_X7_takesStream_24 τ2 (nI a) (nI p) s) (1000 - c) (nI c) := lp c 0 (by omega) 1000 (by omega)
      rw [pu_iff, e24]
      obtain ⟨N, hN⟩ : ∃ q, 1000 - c = q + 1 := ⟨1000 - c - 1, by omega⟩
      rw [hN]
      sorry
    · -- told already
      right
      obtain ⟨i0, i1, i2⟩ := (A1.2.2 v (by omega)).mp htold
      have lp : ∀ m i, i + m = i0 → ∀ N, m < N → qm_loop (fun s : Int32 => bb_X7_takesStream_24 τ2 (nI a) (nI p) s) N (nI i) = some (false, qm_si τ2 210 8 (nI p)) := by
        intro m
        induction m with
        | zero =>
          intro i hi N hN
          obtain ⟨N, rfl⟩ : ∃ q, N = q + 1 := ⟨N - 1, by omega⟩
          have hi : i = i0 := by omega
          subst hi
          refine pu_inr ?_
          unfold bb_X7_takesStream_24
          rw [B2.1, if_neg (by rw [pu_le (by omega) (by omega)]; omega), if_pos (pu_in (show i < 12 by omega) (by omega)), pu_clamp (by omega), (B2.2 i i1).1, k9, i2, if_pos rfl]; rfl
        | succ m ih =>
          intro i hi N hN
          obtain ⟨N, rfl⟩ : ∃ q, N = q + 1 := ⟨N - 1, by omega⟩
          rw [pu_inl (stepN i (by omega) (fun e => D.2.2 i i0 (by omega) i1 (e.trans i2.symm)))]
          exact ih (i + 1) (by omega) N (by omega)
      have e24 : lp_X7_takesStream_24 τ2 (nI a) (nI p) 0 = some (false, qm_si τ2 210 8 (nI p)) := lp i0 0 (by omega) 1000 (by omega)
      rw [pu_ift, e24]
      have x9 : (qm_si (qm_si σ 202 8 (nI p1)) 202 9 (nI p)).1 202 9 = nI p := by rw [qm_si_at, if_pos rfl]
      refine ⟨_, _, -1, p, ?_, rfl, h, x9, by rw [qm_si_at, if_pos rfl], FT1.tr (FP.si _ _ (Or.inl ⟨rfl, by omega⟩)), FU2.tr (FM.si _ _ (Or.inl ⟨rfl, by omega⟩))⟩
      unfold bb_X5_readStream_36
      rw [x9, if_neg (pu_m1 (by omega))]
      exact z61 _ v p h x9
