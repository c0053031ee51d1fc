theorem TP.fp {σ σ' : qm_M} {n : Nat} {tb : Nat → Nat} (T : TP σ n tb) (F : FP σ σ') : TP σ' n tb := ⟨T.1, by rw [F.2.2]; exact T.2.1, fun i hi => by rw [F.2.1 203 (by omega) (by omega)]; exact T.2.2 i hi⟩
theorem TM.fm {τ τ' : qm_M} {n : Nat} {tb : Nat → Nat} (T : TM τ n tb) (F : FM τ τ') : TM τ' n tb := ⟨T.1, by rw [F.2.2 7 (by omega)]; exact T.2.1, fun i hi => by rw [F.2.1 214 (by omega) (by omega)]; exact T.2.2 i hi⟩
theorem pu_num_q {tb : Nat → Nat} {n most p q : Nat} (hp : p ≤ n) (h : pu_num tb n most p = .inl q) : q ≤ n := by
  unfold pu_num pu_val at h
  cases g0 : pu_fg tb n p
  · rw [g0, if_neg (show ¬ (false = true) by decide)] at h
    have := Sum.inl.inj h; omega
  · have f0 := pu_fg_t g0
    rw [g0, if_pos rfl] at h
    cases g1 : pu_fg tb n (p + 1)
    · rw [g1, if_neg (show ¬ (false = true) by decide)] at h
      split at h
      · cases h
      · have := Sum.inl.inj h; omega
    · have f1 := pu_fg_t g1
      rw [g1, if_pos rfl] at h
      cases g2 : pu_fg tb n (p + 2)
      · rw [g2, if_neg (show ¬ (false = true) by decide)] at h
        split at h
        · cases h
        · have := Sum.inl.inj h; omega
      · rw [g2, if_pos rfl] at h
        have := Sum.inl.inj h; omega
theorem pu_at58 {tb : Nat → Nat} {n p k : Nat} (hb : ∀ i, i < n → tb i < 128) (hk : k < 128) (h : pu_at tb n p = nI k) : p < n := by
  unfold pu_at at h
  by_cases c : p < n
  · exact c
  · rw [if_neg c] at h; exact absurd h.symm (pu_m1 (by omega))
theorem pu_rs {σ τ : qm_M} {n p p0 c a : Nat} {tb nm wt pa : Nat → Nat} (T : TP σ n tb) (U : TM τ n tb) (hb : ∀ i, i < n → tb i < 128) (hp : σ.1 202 8 = nI p) (hf : σ.1 202 9 = -1) (h : p ≤ n) (hp0 : τ.1 210 8 = nI p0) (h0 : p0 ≤ n) (ep : pu_sk tb n p0 = p) (A : PA σ c nm wt pa) (Bt : PB τ c nm wt pa) (D : PN c nm wt pa) (ha : a = 0 ∨ ∃ i, i < c ∧ nm i = a) :
    (∃ σ' τ' v w p', fn_X5_readStream σ (nI a) = some (nI v, σ') ∧ fn_X7_takesStream τ (nI a) = some (true, τ') ∧ p < p' ∧ p' ≤ n ∧ σ'.1 202 8 = nI p' ∧ σ'.1 202 9 = -1 ∧ τ'.1 210 8 = nI p' ∧ PA σ' (c + 1) (pu_u nm c v) (pu_u wt c w) (pu_u pa c a) ∧ PB τ' (c + 1) (pu_u nm c v) (pu_u wt c w) (pu_u pa c a) ∧ PN (c + 1) (pu_u nm c v) (pu_u wt c w) (pu_u pa c a) ∧ FP σ σ' ∧ FM τ τ') ∨
    (∃ σ' τ' r q, fn_X5_readStream σ (nI a) = some (r, σ') ∧ fn_X7_takesStream τ (nI a) = some (false, τ') ∧ q ≤ n ∧ σ'.1 202 9 = nI q ∧ τ'.1 210 8 = nI q ∧ FP σ σ' ∧ FM τ τ') := by
  have n1 := T.1
  have z61 : ∀ (σ' : qm_M) (v q : Nat), q ≤ n → σ'.1 202 9 = nI q → bb_X5_readStream_61 σ' (nI a) (nI v) = some (-1, σ') := by
    intro σ' v q hq h9
    unfold bb_X5_readStream_61
    rw [h9, if_neg (pu_m1 (by omega))]
  have bl := pm_blanks U hb hp0 h0
  rw [ep] at bl
  have U1 : TM (qm_si τ 210 8 (nI p)) n tb := U.si _ (by omega) (by omega)
  have FU1 : FM τ (qm_si τ 210 8 (nI p)) := FM.si τ _ (Or.inl ⟨rfl, by omega⟩)
  have e8 : (qm_si τ 210 8 (nI p)).1 210 8 = nI p := by rw [qm_si_at, if_pos rfl]
  have skp : pu_sk tb n p = p := by rw [← ep]; exact pu_sk_id h0
  obtain ⟨c1, c2⟩ := pc_number T hb (show 12 ≤ 16 by omega) hp hf h
  obtain ⟨m1, m2⟩ := pm_number U1 hb (show 12 ≤ 16 by omega) e8 h skp
  have hP0 : fn_X5_readStream σ (nI a) = (fn_X5_readNumber σ (nI 12)).bind (fun r2 => if (r2.2.1 202 9) = (-1) then (fn_X6_has r2.2 (r2.2.1 202 7) r2.1).bind (fun r13 => if (qm_b r13) = 0 then bb_X5_readStream_36 r2.2 (nI a) r2.1 else (some (qm_si r2.2 202 9 (nI p))).bind (fun σ14 => bb_X5_readStream_36 σ14 (nI a) r2.1)) else bb_X5_readStream_36 r2.2 (nI a) r2.1) := by
    unfold fn_X5_readStream
    rw [hp]; rfl
  have hM0 : fn_X7_takesStream τ (nI a) = (fn_X7_takes (qm_si τ 210 8 (nI p)) (nI 12)).bind (fun r3 => if (qm_b r3.1) = 0 then some (false, r3.2) else lp_X7_takesStream_24 r3.2 (nI a) (nI p) 0) := by
    unfold fn_X7_takesStream
    rw [bl, Option.bind_some, Option.bind_some]
    dsimp only
    rw [e8]; rfl
  cases hnum : pu_num tb n 12 p with
  | inl q =>
    right
    obtain ⟨σ', s1, s2, s3⟩ := c2 q hnum
    obtain ⟨τ', t1, t2, t3⟩ := m2 q hnum
    have qn := pu_num_q h hnum
    have hP : fn_X5_readStream σ (nI a) = some (-1, σ') := by
      rw [hP0, s1, Option.bind_some]
      dsimp only
      rw [s2, if_neg (pu_m1 (by omega))]
      unfold bb_X5_readStream_36 bb_X5_readStream_61
      rw [s2, if_neg (pu_m1 (by omega)), if_neg (pu_m1 (by omega))]
    have hM : fn_X7_takesStream τ (nI a) = some (false, τ') := by
      rw [hM0, t1, Option.bind_some, pu_iff]
    exact ⟨σ', τ', -1, q, hP, hM, qn, s2, t2, s3, FU1.tr t3⟩
  | inr vp =>
    obtain ⟨v, p1⟩ := vp
    obtain ⟨v1, v2, pp1, p1n⟩ := pu_num_b hnum
    have f9 : (qm_si σ 202 8 (nI p1)).1 202 9 = -1 := by rw [qm_si_at, if_neg (by omega)]; exact hf
    have T1 : TP (qm_si σ 202 8 (nI p1)) n tb := T.si _ (by omega) (by omega)
    have A1 : PA (qm_si σ 202 8 (nI p1)) c nm wt pa := A.si _ (Or.inl rfl)
    have FT1 : FP σ (qm_si σ 202 8 (nI p1)) := FP.si σ _ (Or.inl ⟨rfl, by omega⟩)
    have sm : qm_si (qm_si (qm_si τ 210 8 (nI p)) 210 8 (nI p1)) 210 9 (nI v) = qm_si (qm_si τ 210 8 (nI p1)) 210 9 (nI v) := by rw [pu_si_si]
    have hP1 : fn_X5_readStream σ (nI a) = if qm_b (bt ((qm_si σ 202 8 (nI p1)).1 202 7) v) = 0 then bb_X5_readStream_36 (qm_si σ 202 8 (nI p1)) (nI a) (nI v) else bb_X5_readStream_36 (qm_si (qm_si σ 202 8 (nI p1)) 202 9 (nI p)) (nI a) (nI v) := by
      rw [hP0, c1 v p1 hnum, Option.bind_some]
      dsimp only
      rw [f9, if_pos rfl, pu_has _ _ (by omega), Option.bind_some]; rfl
    have hM1 : fn_X7_takesStream τ (nI a) = lp_X7_takesStream_24 (qm_si (qm_si τ 210 8 (nI p1)) 210 9 (nI v)) (nI a) (nI p) 0 := by
      rw [hM0, m1 v p1 hnum, Option.bind_some, pu_ift, sm]
    rw [hP1, hM1]
    -- the model's memory now
    have k8 : (qm_si (qm_si τ 210 8 (nI p1)) 210 9 (nI v)).1 210 8 = nI p1 := by rw [qm_si_at, if_neg (by omega), qm_si_at, if_pos rfl]
    have k9 : (qm_si (qm_si τ 210 8 (nI p1)) 210 9 (nI v)).1 210 9 = nI v := by rw [qm_si_at, if_pos rfl]
    have U2 : TM (qm_si (qm_si τ 210 8 (nI p1)) 210 9 (nI v)) n tb := (U.si _ (by omega) (by omega)).si _ (by omega) (by omega)
    have B2 : PB (qm_si (qm_si τ 210 8 (nI p1)) 210 9 (nI v)) c nm wt pa := (Bt.si _ (Or.inl ⟨rfl, Or.inl rfl⟩)).si _ (Or.inl ⟨rfl, Or.inr rfl⟩)
    have FU2 : FM τ (qm_si (qm_si τ 210 8 (nI p1)) 210 9 (nI v)) := (FM.si τ _ (Or.inl ⟨rfl, by omega⟩)).tr (FM.si _ _ (Or.inl ⟨rfl, by omega⟩))
    clear hP0 hM0 hP1 hM1 m1 m2 c1 c2 sm
    generalize qm_si (qm_si τ 210 8 (nI p1)) 210 9 (nI v) = τ2 at k8 k9 U2 B2 FU2
    have c12 := D.1
    have stepN : ∀ i, i < c → nm i ≠ v → bb_X7_takesStream_24 τ2 (nI a) (nI p) (nI i) = some (.inl (nI (i + 1))) := by
      intro i hi hne
      unfold bb_X7_takesStream_24
      have bi := (D.2.1 i hi)
      rw [B2.1, if_neg (by rw [pu_le (by omega) (by omega)]; omega), if_pos (pu_in (show i < 12 by omega) (by omega)), pu_clamp (by omega), (B2.2 i hi).1, k9, if_neg (by rw [pu_eq (by omega) (by omega)]; exact hne), pu_s1]; rfl
    cases htold : bt ((qm_si σ 202 8 (nI p1)).1 202 7) v
    · -- not told yet
      have nv : ∀ i, i < c → nm i ≠ v := fun i hi e => by
        have := (A1.2.2 v (by omega)).mpr ⟨i, hi, e⟩
        rw [htold] at this; cases this
      have lp : ∀ m i, i + m = c → ∀ N, m < N → qm_loop (fun s : Int32 => bb_X7_takesStream_24 τ2 (nI a) (nI p) s) N (nI i) = qm_loop (fun s : Int32 => bb_X7_takesStream_24 τ2 (nI a) (nI p) s) (N - m) (nI c) := by
        intro m
        induction m with
        | zero => intro i hi N _; rw [show i = c by omega, Nat.sub_zero]
        | succ m ih =>
          intro i hi N hN
          obtain ⟨N, rfl⟩ : ∃ q, N = q + 1 := ⟨N - 1, by omega⟩
          rw [pu_inl (stepN i (by omega) (nv i (by omega))), ih (i + 1) (by omega) N (by omega), show N - m = N + 1 - (m + 1) by omega]
      have e24 : lp_X7_takesStream_24 τ2 (nI a) (nI p) 0 = qm_loop (fun s : Int32 => bb_X7_takesStream_24 τ2 (nI a) (nI p) s) (1000 - c) (nI c) := lp c 0 (by omega) 1000 (by omega)
      rw [pu_iff, e24]
      obtain ⟨N, hN⟩ : ∃ q, 1000 - c = q + 1 := ⟨1000 - c - 1, by omega⟩
      rw [hN]
      have cc : c < 12 := (D.add v1 v2 (w := 1) (by omega) (by omega) ha nv).1
      have ic := pu_in (show c < 12 by omega) (by omega : 12 < 2147483648)
      -- behind the number
      have p2n := pu_sk_le (tb := tb) p1n
      have bl2 := pc_blanks T1 hb (show (qm_si σ 202 8 (nI p1)).1 202 8 = nI p1 by rw [qm_si_at, if_pos rfl]) p1n
      rw [pu_si_si] at bl2
      have U4 : TM (qm_si (qm_si τ2 215 c (nI v)) 217 c (nI a)) n tb := (U2.si _ (by omega) (by omega)).si _ (by omega) (by omega)
      have B4 : PB (qm_si (qm_si τ2 215 c (nI v)) 217 c (nI a)) c nm wt pa := (B2.si _ (Or.inr ⟨by omega, by omega, Nat.le_refl _⟩)).si _ (Or.inr ⟨by omega, by omega, Nat.le_refl _⟩)
      have FU4 : FM τ (qm_si (qm_si τ2 215 c (nI v)) 217 c (nI a)) := (FU2.tr (FM.si _ _ (Or.inr ⟨by omega, by omega⟩))).tr (FM.si _ _ (Or.inr ⟨by omega, by omega⟩))
      have k84 : (qm_si (qm_si τ2 215 c (nI v)) 217 c (nI a)).1 210 8 = nI p1 := by rw [qm_si_ne _ _ _ (by omega), qm_si_ne _ _ _ (by omega)]; exact k8
      have x15 : (qm_si (qm_si τ2 215 c (nI v)) 217 c (nI a)).1 215 c = nI v := by rw [qm_si_ne _ _ _ (by omega), qm_si_at, if_pos rfl]
      have x17 : (qm_si (qm_si τ2 215 c (nI v)) 217 c (nI a)).1 217 c = nI a := by rw [qm_si_at, if_pos rfl]
      have ml : qm_loop (fun s : Int32 => bb_X7_takesStream_24 τ2 (nI a) (nI p) s) (N + 1) (nI c) = (fn_X7_here (qm_si (qm_si τ2 215 c (nI v)) 217 c (nI a))).bind (fun r8 => if r8.1 = 58 then (some (qm_si r8.2 210 8 ((r8.2.1 210 8) + 1))).bind (fun σ9 => (fn_X7_takes σ9 16).bind (fun r10 => if (qm_b r10.1) = 0 then some (false, r10.2) else if ¬ ((r10.2.1 210 10) < 0 ∨ 12 ≤ (r10.2.1 210 10).toNatClampNeg) then (some (qm_si r10.2 216 (r10.2.1 210 10).toNatClampNeg (r10.2.1 210 9))).bind (fun σ12 => (some (qm_si σ12 210 10 ((σ12.1 210 10) + 1))).bind (fun σ13 => some (true, σ13))) else none)) else some (false, r8.2)) := by
        refine pu_inb ?_
        unfold bb_X7_takesStream_24
        have r1 : (qm_si τ2 215 c (nI v)).1 210 10 = nI c := by rw [qm_si_ne _ _ _ (by omega)]; exact B2.1
        rw [B2.1, if_pos ((pu_le (by omega) (by omega)).mpr (Nat.le_refl _)), if_pos ic, pu_clamp (by omega), k9, Option.bind_some, r1, if_pos ic, pu_clamp (by omega)]; rfl
      rw [ml, pm_blanks U4 hb k84 p1n]
      clear ml lp e24 stepN
      generalize qm_si (qm_si τ2 215 c (nI v)) 217 c (nI a) = τ4 at U4 B4 FU4 k84 x15 x17
      generalize hp2 : pu_sk tb n p1 = p2 at *
      have F2 : FP σ (qm_si σ 202 8 (nI p2)) := FP.si σ _ (Or.inl ⟨rfl, by omega⟩)
      have g9 : (qm_si σ 202 8 (nI p2)).1 202 9 = -1 := by rw [qm_si_at, if_neg (by omega)]; exact hf
      have g8 : (qm_si σ 202 8 (nI p2)).1 202 8 = nI p2 := by rw [qm_si_at, if_pos rfl]
      have y8 : (qm_si τ4 210 8 (nI p2)).1 210 8 = nI p2 := by rw [qm_si_at, if_pos rfl]
      by_cases q58 : pu_at tb n p2 = 58
      · have p2l : p2 < n := pu_at58 (k := 58) hb (by omega) q58
        have hP2 : bb_X5_readStream_36 (qm_si σ 202 8 (nI p1)) (nI a) (nI v) = (fn_X5_byteBehindBlanks (qm_si σ 202 8 (nI (p2 + 1)))).bind (fun r4 => (fn_X5_readNumber r4.2 16).bind (fun r5 => if (r5.2.1 202 9) = (-1) then (fn_X5_keepStream r5.2 (nI v) r5.1 (nI a)).bind (fun r6 => some (nI v, r6)) else some ((-1), r5.2))) := by
          unfold bb_X5_readStream_36
          rw [f9, if_pos rfl, bl2, Option.bind_some]
          dsimp only
          rw [if_pos q58]
          unfold bb_X5_readStream_61
          rw [g9, if_pos rfl, g8, pu_s1, pu_si_si]; rfl
        have hM2 : ((some (pu_at tb n p2, qm_si τ4 210 8 (nI p2))).bind (fun r8 => if r8.1 = 58 then (some (qm_si r8.2 210 8 ((r8.2.1 210 8) + 1))).bind (fun σ9 => (fn_X7_takes σ9 16).bind (fun r10 => if (qm_b r10.1) = 0 then some (false, r10.2) else if ¬ ((r10.2.1 210 10) < 0 ∨ 12 ≤ (r10.2.1 210 10).toNatClampNeg) then (some (qm_si r10.2 216 (r10.2.1 210 10).toNatClampNeg (r10.2.1 210 9))).bind (fun σ12 => (some (qm_si σ12 210 10 ((σ12.1 210 10) + 1))).bind (fun σ13 => some (true, σ13))) else none)) else some (false, r8.2))) = (fn_X7_takes (qm_si τ4 210 8 (nI (p2 + 1))) 16).bind (fun r10 => if (qm_b r10.1) = 0 then some (false, r10.2) else if ¬ ((r10.2.1 210 10) < 0 ∨ 12 ≤ (r10.2.1 210 10).toNatClampNeg) then (some (qm_si r10.2 216 (r10.2.1 210 10).toNatClampNeg (r10.2.1 210 9))).bind (fun σ12 => (some (qm_si σ12 210 10 ((σ12.1 210 10) + 1))).bind (fun σ13 => some (true, σ13))) else none) := by
          rw [Option.bind_some]
          dsimp only
          rw [if_pos q58, y8, pu_s1, pu_si_si]; rfl
        rw [hP2, hM2]
        clear hP2 hM2
        have p3n := pu_sk_le (tb := tb) (show p2 + 1 ≤ n by omega)
        have T3 : TP (qm_si σ 202 8 (nI (p2 + 1))) n tb := T.si _ (by omega) (by omega)
        have bl3 := pc_blanks T3 hb (show (qm_si σ 202 8 (nI (p2 + 1))).1 202 8 = nI (p2 + 1) by rw [qm_si_at, if_pos rfl]) (by omega)
        rw [pu_si_si] at bl3
        rw [bl3, Option.bind_some]
        dsimp only
        generalize hp3 : pu_sk tb n (p2 + 1) = p3 at *
        have T4 : TP (qm_si σ 202 8 (nI p3)) n tb := T.si _ (by omega) (by omega)
        have F3 : FP σ (qm_si σ 202 8 (nI p3)) := FP.si σ _ (Or.inl ⟨rfl, by omega⟩)
        have F5 : FM τ (qm_si τ4 210 8 (nI (p2 + 1))) := FU4.tr (FM.si _ _ (Or.inl ⟨rfl, by omega⟩))
        obtain ⟨d1, d2⟩ := pc_number T4 hb (show 16 ≤ 16 by omega) (p := p3) (by rw [qm_si_at, if_pos rfl]) (by rw [qm_si_at, if_neg (by omega)]; exact hf) p3n.2.1
        obtain ⟨o1, o2⟩ := pm_number (U4.si (id := 210) (k := 8) (nI (p2 + 1)) (by omega) (by omega)) hb (show 16 ≤ 16 by omega) (p0 := p2 + 1) (by rw [qm_si_at, if_pos rfl]) (by omega) hp3
        rw [show (16 : Int32) = nI 16 from rfl]
        cases hnum2 : pu_num tb n 16 p3 with
        | inl q =>
          right
          obtain ⟨σ', s1, s2, s3⟩ := d2 q hnum2
          obtain ⟨τ', t1, t2, t3⟩ := o2 q hnum2
          have qn := pu_num_q p3n.2.1 hnum2
          refine ⟨σ', τ', -1, q, ?_, ?_, qn, s2, t2, F3.tr s3, F5.tr t3⟩
          · rw [s1, Option.bind_some]
            dsimp only
            rw [s2, if_neg (pu_m1 (by omega))]
          · rw [t1, Option.bind_some, pu_iff]
        | inr vp =>
          left
          obtain ⟨w, p4⟩ := vp
          obtain ⟨w1, w2, pp4, p4n⟩ := pu_num_b hnum2
          have A5 : PA (qm_si (qm_si σ 202 8 (nI p3)) 202 8 (nI p4)) c nm wt pa := (A.si _ (Or.inl rfl)).si _ (Or.inl rfl)
          obtain ⟨σ', s1, s2, s3, s4, s5⟩ := pc_keep A5 cc (w := w) (a := a) v2 nv
          have B6 : PB (qm_si (qm_si (qm_si τ4 210 8 (nI (p2 + 1))) 210 8 (nI p4)) 210 9 (nI w)) c nm wt pa := ((B4.si _ (Or.inl ⟨rfl, Or.inl rfl⟩)).si _ (Or.inl ⟨rfl, Or.inl rfl⟩)).si _ (Or.inl ⟨rfl, Or.inr rfl⟩)
          have F6 : FM τ (qm_si (qm_si (qm_si τ4 210 8 (nI (p2 + 1))) 210 8 (nI p4)) 210 9 (nI w)) := (F5.tr (FM.si _ _ (Or.inl ⟨rfl, by omega⟩))).tr (FM.si _ _ (Or.inl ⟨rfl, by omega⟩))
          have y9 : (qm_si (qm_si (qm_si τ4 210 8 (nI (p2 + 1))) 210 8 (nI p4)) 210 9 (nI w)).1 210 9 = nI w := by rw [qm_si_at, if_pos rfl]
          have y8' : (qm_si (qm_si (qm_si τ4 210 8 (nI (p2 + 1))) 210 8 (nI p4)) 210 9 (nI w)).1 210 8 = nI p4 := by rw [qm_si_at, if_neg (by omega), qm_si_at, if_pos rfl]
          have z15 : (qm_si (qm_si (qm_si τ4 210 8 (nI (p2 + 1))) 210 8 (nI p4)) 210 9 (nI w)).1 215 c = nI v := by rw [qm_si_ne _ _ _ (by omega), qm_si_ne _ _ _ (by omega), qm_si_ne _ _ _ (by omega)]; exact x15
          have z17 : (qm_si (qm_si (qm_si τ4 210 8 (nI (p2 + 1))) 210 8 (nI p4)) 210 9 (nI w)).1 217 c = nI a := by rw [qm_si_ne _ _ _ (by omega), qm_si_ne _ _ _ (by omega), qm_si_ne _ _ _ (by omega)]; exact x17
          rw [d1 w p4 hnum2, o1 w p4 hnum2]
          generalize qm_si (qm_si (qm_si τ4 210 8 (nI (p2 + 1))) 210 8 (nI p4)) 210 9 (nI w) = τ6 at B6 F6 y9 y8' z15 z17
          have r10 : (qm_si τ6 216 c (nI w)).1 210 10 = nI c := by rw [qm_si_ne _ _ _ (by omega)]; exact B6.1
          refine ⟨σ', qm_si (qm_si τ6 216 c (nI w)) 210 10 (nI (c + 1)), v, w, p4, ?_, ?_, by omega, p4n, ?_, ?_, ?_, s2, ⟨?_, fun i hi => ?_⟩, (D.add v1 v2 w1 w2 ha nv).2, (F3.tr (FP.si _ _ (Or.inl ⟨rfl, by omega⟩))).tr s3, (F6.tr (FM.si _ _ (Or.inr ⟨by omega, by omega⟩))).tr (FM.si _ _ (Or.inl ⟨rfl, by omega⟩))⟩
          · rw [Option.bind_some]
            dsimp only
            have e9 : (qm_si (qm_si σ 202 8 (nI p3)) 202 8 (nI p4)).1 202 9 = -1 := by rw [qm_si_at, if_neg (by omega), qm_si_at, if_neg (by omega)]; exact hf
            rw [e9, if_pos rfl, s1]; rfl
          · rw [Option.bind_some, pu_ift]
            dsimp only
            rw [B6.1, if_pos ic, pu_clamp (by omega), y9, Option.bind_some, r10, pu_s1]; rfl
          · rw [s4, qm_si_at, if_pos rfl]
          · rw [s5, qm_si_at, if_neg (by omega), qm_si_at, if_neg (by omega)]; exact hf
          · rw [qm_si_at, if_neg (by omega), qm_si_ne _ _ _ (by omega)]; exact y8'
          · rw [qm_si_at, if_pos rfl]
          · rw [qm_si_ne _ _ _ (by omega), qm_si_ne _ _ _ (by omega), qm_si_ne _ _ _ (by omega), qm_si_at, qm_si_ne _ _ _ (by omega), qm_si_ne _ _ _ (by omega)]
            by_cases e : i = c
            · subst e
              rw [if_pos rfl, pu_u_c, pu_u_c, pu_u_c]
              exact ⟨z15, rfl, z17⟩
            · rw [if_neg e, pu_u_n nm v e, pu_u_n wt w e, pu_u_n pa a e]
              exact B6.2 i (by omega)
      · right
        have x9 : (qm_si (qm_si σ 202 8 (nI p2)) 202 9 (nI p2)).1 202 9 = nI p2 := by rw [qm_si_at, if_pos rfl]
        refine ⟨_, _, -1, p2, ?_, ?_, p2n.2.1, x9, y8, F2.tr (FP.si _ _ (Or.inl ⟨rfl, by omega⟩)), FU4.tr (FM.si _ _ (Or.inl ⟨rfl, by omega⟩))⟩
        · unfold bb_X5_readStream_36
          rw [f9, if_pos rfl, bl2, Option.bind_some]
          dsimp only
          rw [if_neg q58, g8, Option.bind_some]
          exact z61 _ v p2 p2n.2.1 x9
        · rw [Option.bind_some]
          dsimp only
          rw [if_neg q58]
    · -- told already
      right
      obtain ⟨i0, i1, i2⟩ := (A1.2.2 v (by omega)).mp htold
      have lp : ∀ m i, i + m = i0 → ∀ N, m < N → qm_loop (fun s : Int32 => bb_X7_takesStream_24 τ2 (nI a) (nI p) s) N (nI i) = some (false, qm_si τ2 210 8 (nI p)) := by
        intro m
        induction m with
        | zero =>
          intro i hi N hN
          obtain ⟨N, rfl⟩ : ∃ q, N = q + 1 := ⟨N - 1, by omega⟩
          have hi : i = i0 := by omega
          subst hi
          refine pu_inr ?_
          unfold bb_X7_takesStream_24
          rw [B2.1, if_neg (by rw [pu_le (by omega) (by omega)]; omega), if_pos (pu_in (show i < 12 by omega) (by omega)), pu_clamp (by omega), (B2.2 i i1).1, k9, i2, if_pos rfl]; rfl
        | succ m ih =>
          intro i hi N hN
          obtain ⟨N, rfl⟩ : ∃ q, N = q + 1 := ⟨N - 1, by omega⟩
          rw [pu_inl (stepN i (by omega) (fun e => D.2.2 i i0 (by omega) i1 (e.trans i2.symm)))]
          exact ih (i + 1) (by omega) N (by omega)
      have e24 : lp_X7_takesStream_24 τ2 (nI a) (nI p) 0 = some (false, qm_si τ2 210 8 (nI p)) := lp i0 0 (by omega) 1000 (by omega)
      rw [pu_ift, e24]
      have x9 : (qm_si (qm_si σ 202 8 (nI p1)) 202 9 (nI p)).1 202 9 = nI p := by rw [qm_si_at, if_pos rfl]
      refine ⟨_, _, -1, p, ?_, rfl, h, x9, by rw [qm_si_at, if_pos rfl], FT1.tr (FP.si _ _ (Or.inl ⟨rfl, by omega⟩)), FU2.tr (FM.si _ _ (Or.inl ⟨rfl, by omega⟩))⟩
      unfold bb_X5_readStream_36
      rw [x9, if_neg (pu_m1 (by omega))]
      exact z61 _ v p h x9
