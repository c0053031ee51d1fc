theorem pu_S0_of {n : Nat} {tb : Nat → Nat} (hb : ∀ i, i < n → tb i < 128) {m : Nat} (h0 : ∀ j, j < m → S0 n tb j) (h1 : ∀ j, j < m → S1 n tb j) : S0 n tb m := by
  intro p0 q0 a k c v2 w mo mc nm wt pa σ τ N M p0n hm T U hp hf A Bt D ha kp hN hM hq q0n sk hmo hmc
  have n1 := T.1
  have c12 := D.1
  have a12 : a ≤ 12 := by
    rcases ha with q | ⟨i, i1, i2⟩
    · omega
    · have := (D.2.1 i i1).2.1; rw [← i2]; exact this
  have skb := pu_sk_le (tb := tb) p0n
  have skid : pu_sk tb n (pu_sk tb n p0) = pu_sk tb n p0 := pu_sk_id p0n
  have sklt : pu_sk tb n p0 < n → n - p0 = m := fun _ => hm
  generalize hpp : pu_sk tb n p0 = p at *
  obtain ⟨N, rfl⟩ : ∃ q, N = q + 1 := ⟨N - 1, by clear ha; omega⟩
  obtain ⟨M, rfl⟩ : ∃ q, M = q + 1 := ⟨M - 1, by clear ha; omega⟩
  have M1 : 1 ≤ M := by clear ha; omega
  have za : (nI a = 0) ↔ a = 0 := by show (nI a = nI 0) ↔ _; exact pu_eq (by omega) (by omega)
  have v01 : v2 = 0 ∨ v2 = 1 := hmc.imp (fun q => q.1) (fun q => q.1)
  have bl := pm_blanks U hb hq q0n
  rw [sk] at bl
  have U1 : TM (qm_si τ 210 8 (nI p)) n tb := U.si _ (by omega) (by omega)
  have B1 : PB (qm_si τ 210 8 (nI p)) c nm wt pa := Bt.si _ (Or.inl ⟨rfl, Or.inl rfl⟩)
  have F1 : FM τ (qm_si τ 210 8 (nI p)) := FM.si τ _ (Or.inl ⟨rfl, by omega⟩)
  have e8 : (qm_si τ 210 8 (nI p)).1 210 8 = nI p := by rw [qm_si_at, if_pos rfl]
  have bl1 := pm_blanks U1 hb e8 skb.2.1
  rw [skid, pu_si_si] at bl1
  -- to the stream
  have mh : ¬ pu_at tb n p = -1 → ¬ (pu_at tb n p = 41 ∧ v2 = 0 ∧ a ≠ 0) → ∃ τx qx, pu_ML (M + 1) (nI a, nI v2, τ) = (bb_X7_isRead_62 τx (nI a)).bind (pu_MC M) ∧ FM τ τx ∧ TM τx n tb ∧ PB τx c nm wt pa ∧ qx ≤ n ∧ τx.1 210 8 = nI qx ∧ pu_sk tb n qx = p := by
    intro nm1 n41
    rw [pu_MLb]
    rcases v01 with rfl | rfl
    · refine ⟨qm_si τ 210 8 (nI p), p, ?_, F1, U1, B1, skb.2.1, e8, skid⟩
      congr 1
      unfold bb_X7_isRead_14
      rw [if_pos (show nI 0 = 0 from rfl), bl, Option.bind_some]
      dsimp only
      rw [if_neg nm1]
      unfold bb_X7_isRead_26
      rw [if_pos (show nI 0 = 0 from rfl)]
      by_cases a0 : a = 0
      · rw [if_pos (za.mpr a0)]
      · rw [if_neg (fun q => a0 (za.mp q)), bl1, Option.bind_some]
        dsimp only
        rw [if_neg (fun q => n41 ⟨q, rfl, a0⟩)]
    · refine ⟨τ, q0, ?_, FM.rf τ, U, Bt, q0n, hq, sk⟩
      congr 1
  -- a fault here
  have mf : ¬ pu_at tb n p = -1 → ¬ (pu_at tb n p = 41 ∧ v2 = 0 ∧ a ≠ 0) → pu_fg tb n p = false → ∃ τ', pu_ML (M + 1) (nI a, nI v2, τ) = some (false, τ') ∧ τ'.1 210 8 = nI p ∧ FM τ τ' := by
    intro x1 x2 x3
    obtain ⟨τx, qx, y1, y2, y3, y4, y5, y6, y7⟩ := mh x1 x2
    obtain ⟨τ', t1, t2, t3⟩ := pm_tsf y3 hb y6 y5 y7 x3 (nI a)
    refine ⟨τ', ?_, t2, y2.tr t3⟩
    rw [y1]
    unfold bb_X7_isRead_62
    rw [t1, Option.bind_some, pu_iff]; rfl
  -- the end
  have me : p = n → (∃ τ', pu_ML (M + 1) (nI a, nI v2, τ) = some (decide (a = 0), τ') ∧ τ'.1 210 8 = nI n ∧ FM τ τ' ∧ (a = 0 → PB τ' c nm wt pa)) := by
    intro pn
    have am : pu_at tb n p = -1 := by unfold pu_at; rw [if_neg (by omega)]
    rw [pu_MLb]
    rcases v01 with rfl | rfl
    · refine ⟨qm_si τ 210 8 (nI p), ?_, by rw [e8, pn], F1, fun _ => B1⟩
      unfold bb_X7_isRead_14
      rw [if_pos (show nI 0 = 0 from rfl), bl, Option.bind_some]
      dsimp only
      rw [if_pos am]
      by_cases a0 : a = 0
      · rw [if_pos (za.mpr a0), decide_eq_true a0]; rfl
      · rw [if_neg (fun q => a0 (za.mp q)), decide_eq_false a0]; rfl
    · have a0 : a ≠ 0 := by
        rcases hmc with q | q
        · exact absurd q.1 (by omega)
        · exact q.2.2
      have x3 : pu_fg tb n p = false := by unfold pu_fg; rw [decide_eq_false (by omega), Bool.false_and]
      obtain ⟨τ', t1, t2, t3⟩ := pm_tsf U hb hq q0n sk x3 (nI a)
      refine ⟨τ', ?_, by rw [t2, pn], t3, fun q => absurd q a0⟩
      unfold bb_X7_isRead_14 bb_X7_isRead_26
      rw [if_neg (by decide), if_neg (by decide)]
      unfold bb_X7_isRead_62
      rw [t1, Option.bind_some, pu_iff, decide_eq_false a0]; rfl
  -- the program at the end
  have pe : ∀ σ1, bb_X5_read_184 σ1 (nI a) = if a = 0 then some (-1, σ1) else some (σ1.1 202 1, σ1) := by
    intro σ1
    unfold bb_X5_read_184
    by_cases a0 : a = 0
    · rw [if_pos (za.mpr a0), if_pos a0]
    · rw [if_neg (fun q => a0 (za.mp q)), if_neg a0]
  have ends : ∀ σ1, p = n → FP σ σ1 → PA σ1 c nm wt pa → pu_PL (N + 1) (nI a, w, qm_b mo, qm_b mc, nI k, σ) = bb_X5_read_184 σ1 (nI a) → RO n σ τ (pu_PL (N + 1) (nI a, w, qm_b mo, qm_b mc, nI k, σ)) (pu_ML (M + 1) (nI a, nI v2, τ)) := by
    intro σ1 pn f1 A1 e
    obtain ⟨τ', t1, t2, t3, t4⟩ := me pn
    rw [e, pe, t1]
    by_cases a0 : a = 0
    · rw [if_pos a0, decide_eq_true a0]
      exact Or.inl ⟨σ1, τ', c, nm, wt, pa, rfl, rfl, A1, t4 a0, D, f1, t3⟩
    · rw [if_neg a0, decide_eq_false a0]
      exact Or.inr ⟨σ1, τ', n, Nat.le_refl _, by rw [f1.2.2, T.2.1], rfl, t2, f1, t3⟩
  by_cases k120 : k = 120
  · have pn : p = n := by clear ha; omega
    refine ends σ pn (FP.rf σ) A (pu_inb ?_)
    show bb_X5_read_32 σ (nI a) w (qm_b mo) (qm_b mc) (nI k) = _
    unfold bb_X5_read_32
    rw [k120, if_pos (by decide)]
  · have blc := pc_blanks T hb hp p0n
    rw [hpp] at blc
    have T1 : TP (qm_si σ 202 8 (nI p)) n tb := T.si _ (by omega) (by omega)
    have A1 : PA (qm_si σ 202 8 (nI p)) c nm wt pa := A.si _ (Or.inl rfl)
    have FP1 : FP σ (qm_si σ 202 8 (nI p)) := FP.si σ _ (Or.inl ⟨rfl, by omega⟩)
    have g8 : (qm_si σ 202 8 (nI p)).1 202 8 = nI p := by rw [qm_si_at, if_pos rfl]
    have g9 : (qm_si σ 202 8 (nI p)).1 202 9 = -1 := by rw [qm_si_at, if_neg (by omega)]; exact hf
    have k12 : ¬ ((120 : Int32) ≤ nI k) := by show ¬ nI 120 ≤ nI k; rw [pu_le (by clear ha; omega) (by clear ha; omega)]; clear ha; omega
    by_cases pn : p = n
    · have am : pu_at tb n p = -1 := by unfold pu_at; rw [if_neg (by omega)]
      refine ends (qm_si σ 202 8 (nI p)) pn FP1 A1 (pu_inb ?_)
      show bb_X5_read_32 σ (nI a) w (qm_b mo) (qm_b mc) (nI k) = _
      unfold bb_X5_read_32
      rw [if_neg k12, blc, Option.bind_some]
      dsimp only
      rw [if_pos am]
    · have pl : p < n := by clear ha; omega
      have nm1 : ¬ pu_at tb n p = -1 := by unfold pu_at; rw [if_pos pl]; exact pu_m1 (by have := hb p pl; clear ha; omega)
      cases hg : pu_fg tb n p
      · by_cases q41 : pu_at tb n p = 41 ∧ v2 = 0 ∧ a ≠ 0
        · -- a close
          obtain ⟨q41, rfl, a0⟩ := q41
          have mct : mc = true := by
            rcases hmc with q | q
            · rw [q.2, decide_eq_true a0]
            · exact absurd q.1 (by omega)
          obtain ⟨i0, i1, i2⟩ := ha.resolve_left a0
          have bi := D.2.1 i0 i1
          have ai := A1.2.1 i0 i1
          have n40 : ¬ pu_at tb n p = 40 := by rw [q41]; decide
          have pa12 : pa i0 ≤ 12 := by
            rcases bi.2.2.2.2 with q | ⟨j, j1, j2⟩
            · rw [q]; exact Nat.zero_le _
            · rw [← j2]; exact (D.2.1 j (Nat.lt_trans j1 i1)).2.1
          have zp : (nI (pa i0) = 0) ↔ pa i0 = 0 := by show (_ = nI 0) ↔ _; exact pu_eq (Nat.lt_of_le_of_lt pa12 (by decide)) (by decide)
          have r7 : (qm_si σ 202 8 (nI (p + 1))).1 207 a = nI (pa i0) := by
            rw [qm_si_ne _ _ _ (by omega)]
            have := ai.2.2.2
            rw [qm_si_ne _ _ _ (by omega), i2] at this; exact this
          have st : bb_X5_read_32 σ (nI a) w (qm_b mo) (qm_b mc) (nI k) = some (.inl (nI (pa i0), w, qm_b false, qm_b (decide (pa i0 ≠ 0)), nI (k + 1), qm_si σ 202 8 (nI (p + 1)))) := by
            unfold bb_X5_read_32
            rw [if_neg k12, blc, Option.bind_some]
            dsimp only
            rw [if_neg nm1, pc_isFigure _ hb, hg, Option.bind_some, pu_iff, if_neg n40]
            unfold bb_X5_read_128
            rw [if_pos q41, mct, if_neg (by decide), g8, pu_s1, pu_si_si, Option.bind_some, if_pos (pu_in (show a < 13 by omega) (by omega)), pu_clamp (by omega), r7, Option.bind_some, pu_s1]
            by_cases z : pa i0 = 0
            · rw [if_pos (zp.mpr z), decide_eq_false (fun q => q z)]; rfl
            · rw [if_neg (fun q => z (zp.mp q)), decide_eq_true z]; rfl
          have ml : pu_ML (M + 1) (nI a, nI 0, τ) = pu_ML M (nI (pa i0), nI 0, qm_si τ 210 8 (nI (p + 1))) := by
            rw [pu_MLb]
            have : bb_X7_isRead_14 τ (nI a) (nI 0) = some (.inl (nI (pa i0), nI 0, qm_si τ 210 8 (nI (p + 1)))) := by
              unfold bb_X7_isRead_14
              rw [if_pos (show nI 0 = 0 from rfl), bl, Option.bind_some]
              dsimp only
              rw [if_neg nm1]
              unfold bb_X7_isRead_26
              rw [if_pos (show nI 0 = 0 from rfl), if_neg (fun q => a0 (za.mp q)), bl1, Option.bind_some]
              dsimp only
              rw [if_pos q41, e8, pu_s1, pu_si_si, Option.bind_some, ← i2, pm_standsIn (Bt.si _ (Or.inl ⟨rfl, Or.inl rfl⟩)) D i1]; rfl
            rw [this]; rfl
          have pl1 : pu_PL (N + 1) (nI a, w, qm_b mo, qm_b mc, nI k, σ) = pu_PL N (nI (pa i0), w, qm_b false, qm_b (decide (pa i0 ≠ 0)), nI (k + 1), qm_si σ 202 8 (nI (p + 1))) := pu_inl st
          rw [pl1, ml]
          have o1 : n - (p + 1) < m := by clear ha bi; omega
          have o2 : n - (p + 1) < N := by clear ha bi; omega
          have o3 : n - (p + 1) + 1 < M := by clear ha bi; omega
          have o4 : k + 1 ≤ p + 1 := by clear ha bi; omega
          exact (h0 (n - (p + 1)) o1 (p + 1) (p + 1) (pa i0) (k + 1) c 0 w false (decide (pa i0 ≠ 0)) nm wt pa _ _ N M pl rfl (T.si _ (by omega) (by omega)) (U.si _ (by omega) (by omega)) (by rw [qm_si_at, if_pos rfl]) (by rw [qm_si_at, if_neg (by omega)]; exact hf) (A.si _ (Or.inl rfl)) (Bt.si _ (Or.inl ⟨rfl, Or.inl rfl⟩)) D (bi.2.2.2.2.imp id (fun ⟨j, j1, j2⟩ => ⟨j, Nat.lt_trans j1 i1, j2⟩)) o4 o2 o3 (by rw [qm_si_at, if_pos rfl]) pl rfl (Or.inl rfl) (Or.inl ⟨rfl, rfl⟩)).pre (FP.si σ _ (Or.inl ⟨rfl, by omega⟩)) (FM.si τ _ (Or.inl ⟨rfl, by omega⟩))
        · -- a fault
          obtain ⟨τ', t1, t2, t3⟩ := mf nm1 q41 hg
          refine Or.inr ⟨qm_si σ 202 8 (nI p), τ', p, skb.2.1, ?_, t1, t2, FP1, t3⟩
          refine pu_inr ?_
          show bb_X5_read_32 σ (nI a) w (qm_b mo) (qm_b mc) (nI k) = _
          have e128 : bb_X5_read_128 (qm_si σ 202 8 (nI p)) (nI a) w (qm_b mc) (nI k) (pu_at tb n p) = some (.inr (nI p, qm_si σ 202 8 (nI p))) := by
            unfold bb_X5_read_128
            by_cases q : pu_at tb n p = 41
            · have mcf : mc = false := by
                rcases hmc with z | z
                · rw [z.2, decide_eq_false (fun y => q41 ⟨q, z.1, y⟩)]
                · exact z.2.1
              rw [if_pos q, mcf, if_pos (show qm_b false = 0 from rfl), g8]; rfl
            · rw [if_neg q, g8]; rfl
          unfold bb_X5_read_32
          rw [if_neg k12, blc, Option.bind_some]
          dsimp only
          rw [if_neg nm1, pc_isFigure _ hb, hg, Option.bind_some, pu_iff, e128]
          by_cases q : pu_at tb n p = 40
          · rw [if_pos q, hmo.resolve_right (fun z => z q), if_pos (show qm_b false = 0 from rfl)]
          · rw [if_neg q]
      · -- a stream
        have n41 : ¬ (pu_at tb n p = 41 ∧ v2 = 0 ∧ a ≠ 0) := fun q => by
          have e := ((pu_atk (k := 41) hb (by omega)).mp q.1).2
          have := (pu_fg_t hg).2.1
          omega
        obtain ⟨τx, qx, y1, y2, y3, y4, y5, y6, y7⟩ := mh nm1 n41
        rw [y1]
        have st : ∀ r σ', fn_X5_readStream (qm_si σ 202 8 (nI p)) (nI a) = some (r, σ') → bb_X5_read_32 σ (nI a) w (qm_b mo) (qm_b mc) (nI k) = if σ'.1 202 9 = -1 then some (.inl (nI a, r, 1, qm_b (decide (a ≠ 0)), nI (k + 1), σ')) else some (.inr (σ'.1 202 9, σ')) := by
          intro r σ' hr
          unfold bb_X5_read_32
          rw [if_neg k12, blc, Option.bind_some]
          dsimp only
          rw [if_neg nm1, pc_isFigure _ hb, hg, Option.bind_some, pu_ift, hr, Option.bind_some, pu_s1]
          dsimp only
          by_cases z : σ'.1 202 9 = -1
          · rw [if_pos z, if_pos z]
            by_cases a0 : a = 0
            · rw [if_pos (za.mpr a0), decide_eq_false (fun q => q a0)]; rfl
            · rw [if_neg (fun q => a0 (za.mp q)), decide_eq_true a0]; rfl
          · rw [if_neg z, if_neg z]; rfl
        rcases pu_rs T1 y3 hb g8 g9 skb.2.1 y6 y5 y7 A1 y4 D ha with ⟨σ', τ', v, wv, p', r1, r2, r3, r4, r5, r6, r7, r8, r9, r10, r11, r12⟩ | ⟨σ', τ', r, q, r1, r2, r3, r4, r5, r6, r7⟩
        · have s1 := st _ _ r1
          rw [r6, if_pos rfl] at s1
          have pl1 : pu_PL (N + 1) (nI a, w, qm_b mo, qm_b mc, nI k, σ) = pu_PL N (nI a, nI v, 1, qm_b (decide (a ≠ 0)), nI (k + 1), σ') := pu_inl s1
          have m1 : (bb_X7_isRead_62 τx (nI a)).bind (pu_MC M) = pu_mid τ' (nI a) M := by
            unfold bb_X7_isRead_62 pu_mid
            rw [r2, Option.bind_some, pu_ift]
          rw [pl1, m1]
          have o1 : n - p' < m := by clear ha; omega
          have o2 : n - p' < N := by clear ha; omega
          have o3 : n - p' + 1 < M := by clear ha; omega
          have o4 : k + 1 ≤ p' := by clear ha; omega
          have key := h1 (n - p') o1 p' a (k + 1) c (pu_u nm c v) (pu_u wt c wv) (pu_u pa c a) σ' τ' N M r4 rfl (T1.fp r11) (y3.fm r12) r5 r6 r8 r9 r10 (ha.imp id (fun ⟨i, i1, i2⟩ => ⟨i, Nat.lt_succ_of_lt i1, by rw [pu_u_n nm v (Nat.ne_of_lt i1)]; exact i2⟩)) o4 o2 o3 r7
          rw [pu_u_c] at key
          exact key.pre (FP1.tr r11) (y2.tr r12)
        · have s1 := st _ _ r1
          rw [r4, if_neg (pu_m1 (by clear ha; omega))] at s1
          refine Or.inr ⟨σ', τ', q, r3, pu_inr s1, ?_, r5, FP1.tr r6, y2.tr r7⟩
          unfold bb_X7_isRead_62
          rw [r2, Option.bind_some, pu_iff]; rfl
