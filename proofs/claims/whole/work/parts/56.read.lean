-- ===== the whole text =====
theorem pm_tsf {τ : qm_M} {n p p0 : Nat} {tb : Nat → Nat} (U : TM τ n tb) (hb : ∀ i, i < n → tb i < 128) (hp0 : τ.1 210 8 = nI p0) (h0 : p0 ≤ n) (ep : pu_sk tb n p0 = p) (hg : pu_fg tb n p = false) (a : Int32) : ∃ τ', fn_X7_takesStream τ a = some (false, τ') ∧ τ'.1 210 8 = nI p ∧ FM τ τ' := by
  have bl := pm_blanks U hb hp0 h0
  rw [ep] at bl
  have h : p ≤ n := by rw [← ep]; exact (pu_sk_le h0).2.1
  have U1 : TM (qm_si τ 210 8 (nI p)) n tb := U.si _ (by omega) (by omega)
  have e8 : (qm_si τ 210 8 (nI p)).1 210 8 = nI p := by rw [qm_si_at, if_pos rfl]
  have skp : pu_sk tb n p = p := by rw [← ep]; exact pu_sk_id h0
  obtain ⟨-, m2⟩ := pm_number U1 hb (show 12 ≤ 16 by omega) e8 h skp
  have hn : pu_num tb n 12 p = .inl p := by unfold pu_num; rw [hg, if_neg (show ¬ (false = true) by decide)]
  obtain ⟨τ', t1, t2, t3⟩ := m2 p hn
  refine ⟨τ', ?_, t2, (FM.si τ _ (Or.inl ⟨rfl, by omega⟩)).tr t3⟩
  unfold fn_X7_takesStream
  rw [bl, Option.bind_some, Option.bind_some]
  dsimp only
  have t1 : fn_X7_takes (qm_si τ 210 8 (nI p)) 12 = some (false, τ') := t1
  rw [t1, Option.bind_some, pu_iff]
theorem pm_standsIn {τ : qm_M} {c i0 : Nat} {nm wt pa : Nat → Nat} (Bt : PB τ c nm wt pa) (D : PN c nm wt pa) (hi : i0 < c) : fn_X7_standsIn τ (nI (nm i0)) = some (nI (pa i0)) := by
  have c12 := D.1
  have b0 := D.2.1 i0 hi
  have key : ∀ m i N, i + m = c → m < N → qm_loop (fun s : Int32 × Int32 => bb_X7_standsIn_4 τ (nI (nm i0)) s.1 s.2) N ((if i0 < i then nI (pa i0) else 0), nI i) = some (nI (pa i0)) := by
    intro m
    induction m with
    | zero =>
      intro i N hm hN
      obtain ⟨N, rfl⟩ : ∃ q, N = q + 1 := ⟨N - 1, by omega⟩
      rw [if_pos (by omega)]
      refine pu_inr ?_
      show bb_X7_standsIn_4 τ (nI (nm i0)) (nI (pa i0)) (nI i) = _
      unfold bb_X7_standsIn_4
      rw [Bt.1, if_pos ((pu_le (by omega) (by omega)).mpr (by omega))]; rfl
    | succ m ih =>
      intro i N hm hN
      obtain ⟨N, rfl⟩ : ∃ q, N = q + 1 := ⟨N - 1, by omega⟩
      rw [← ih (i + 1) N (by omega) (by omega)]
      refine pu_inl ?_
      have bi := D.2.1 i (by omega)
      have B2 := Bt.2 i (by omega)
      show bb_X7_standsIn_4 τ (nI (nm i0)) (if i0 < i then nI (pa i0) else 0) (nI i) = _
      unfold bb_X7_standsIn_4
      have ic := pu_in (show i < 12 by omega) (by omega : 12 < 2147483648)
      rw [Bt.1, if_neg (by rw [pu_le (by omega) (by omega)]; omega), if_pos ic, pu_clamp (by omega), B2.1]
      by_cases e : i = i0
      · subst e
        rw [if_pos rfl, pu_clamp (by omega)] at *
        rw [if_pos (show ¬ (nI i < 0 ∨ 12 ≤ i) by have := ic; exact this), B2.2.2, pu_s1, if_pos (by omega)]; rfl
      · rw [if_neg (show ¬ nI (nm i) = nI (nm i0) by
          rw [pu_eq (by omega) (by omega)]
          rcases Nat.lt_or_gt_of_ne e with q | q
          · exact D.2.2 i i0 q hi
          · exact fun x => D.2.2 i0 i q (by omega) x.symm), pu_s1]
        by_cases q : i0 < i
        · rw [if_pos q, if_pos (by omega)]; rfl
        · rw [if_neg q, if_neg (by omega)]; rfl
  exact key c 0 1000 (by omega) (by omega)
