theorem pu_S_all {n : Nat} {tb : Nat → Nat} (hb : ∀ i, i < n → tb i < 128) : ∀ m, S0 n tb m ∧ S1 n tb m := by
  intro m
  induction m using Nat.strongRecOn with
  | ind m ih =>
    have s0 : S0 n tb m := pu_S0_of hb (fun j hj => (ih j hj).1) (fun j hj => (ih j hj).2)
    refine ⟨s0, pu_S1_of hb (fun j hj => ?_)⟩
    rcases Nat.lt_or_ge j m with q | q
    · exact (ih j q).1
    · rw [show j = m by omega]; exact s0
theorem pu_read {σ τ : qm_M} (h : Txt σ τ) : ∃ n, n ≤ 120 ∧ RO n σ τ (fn_X5_read σ) (fn_X7_isRead τ) := by
  obtain ⟨n, n0, n1, n2, n3⟩ := h
  refine ⟨n, n0, ?_⟩
  have hb : ∀ i, i < n → (σ.1 203 i).toNatClampNeg < 128 := fun i hi => by
    obtain ⟨-, b, b1, b2⟩ := n3 i hi
    rw [b2, pu_clamp (by omega)]; exact b1
  have T : TP σ n (fun i => (σ.1 203 i).toNatClampNeg) := ⟨n0, n1, fun i hi => by
    obtain ⟨-, b, b1, b2⟩ := n3 i hi
    show _ = nI (σ.1 203 i).toNatClampNeg
    rw [b2, pu_clamp (by omega)]⟩
  have U : TM τ n (fun i => (σ.1 203 i).toNatClampNeg) := ⟨n0, n2, fun i hi => by
    rw [← (n3 i hi).1]; exact T.2.2 i hi⟩
  have T4 : TP (qm_si (qm_si (qm_si (qm_si σ 202 5 0) 202 7 0) 202 8 0) 202 9 (-1)) n (fun i => (σ.1 203 i).toNatClampNeg) := (((T.si _ (by omega) (by omega)).si _ (by omega) (by omega)).si _ (by omega) (by omega)).si _ (by omega) (by omega)
  have U2 : TM (qm_si (qm_si τ 210 10 0) 210 8 0) n (fun i => (σ.1 203 i).toNatClampNeg) := (U.si _ (by omega) (by omega)).si _ (by omega) (by omega)
  have FP4 : FP σ (qm_si (qm_si (qm_si (qm_si σ 202 5 0) 202 7 0) 202 8 0) 202 9 (-1)) := (((FP.si _ _ (Or.inl ⟨rfl, by omega⟩)).tr (FP.si _ _ (Or.inl ⟨rfl, by omega⟩))).tr (FP.si _ _ (Or.inl ⟨rfl, by omega⟩))).tr (FP.si _ _ (Or.inl ⟨rfl, by omega⟩))
  have FM2 : FM τ (qm_si (qm_si τ 210 10 0) 210 8 0) := (FM.si _ _ (Or.inl ⟨rfl, by omega⟩)).tr (FM.si _ _ (Or.inl ⟨rfl, by omega⟩))
  have A4 : PA (qm_si (qm_si (qm_si (qm_si σ 202 5 0) 202 7 0) 202 8 0) 202 9 (-1)) 0 (fun _ => 0) (fun _ => 0) (fun _ => 0) := by
    refine ⟨?_, fun i hi => absurd hi (by omega), fun k hk => ⟨fun q => ?_, fun ⟨i, i1, _⟩ => absurd i1 (by omega)⟩⟩
    · rw [qm_si_at, if_neg (by omega), qm_si_at, if_neg (by omega), qm_si_at, if_neg (by omega), qm_si_at, if_pos rfl]; rfl
    · rw [qm_si_at, if_neg (by omega), qm_si_at, if_neg (by omega), qm_si_at, if_pos rfl, b_0] at q; cases q
  have B2 : PB (qm_si (qm_si τ 210 10 0) 210 8 0) 0 (fun _ => 0) (fun _ => 0) (fun _ => 0) := ⟨by rw [qm_si_at, if_neg (by omega), qm_si_at, if_pos rfl]; rfl, fun i hi => absurd hi (by omega)⟩
  have D0 : PN 0 (fun _ => 0) (fun _ => 0) (fun _ => 0) := ⟨by omega, fun i hi => absurd hi (by omega), fun i j _ hj => absurd hj (by omega)⟩
  have key := (pu_S_all hb (n - 0)).1 0 0 0 0 0 0 (nI 0) false false (fun _ => 0) (fun _ => 0) (fun _ => 0) _ _ 1000 1000 (by omega) rfl T4 U2 (by rw [qm_si_at, if_neg (by omega), qm_si_at, if_pos rfl]; rfl) (by rw [qm_si_at, if_pos rfl]) A4 B2 D0 (Or.inl rfl) (by omega) (by omega) (by omega) (by rw [qm_si_at, if_pos rfl]; rfl) (by omega) rfl (Or.inl rfl) (Or.inl ⟨rfl, rfl⟩)
  exact key.pre FP4 FM2
