-- ===== one call of the law; the law's loop =====
theorem pu_two {B B' : Nat} {σ : qm_M} {α : Type} {x : Option (α × qm_M)} {g : qm_M → Option (α × qm_M)} (h : Inv B σ σ) (f : ∀ τ, Inv B σ τ → Sim B' σ τ x (g τ)) : ∃ r σ1 σ2, x = some (r, σ1) ∧ g σ1 = some (r, σ2) ∧ Inv B' σ2 σ2 := by
  obtain ⟨r0, σ1, -, e0, -, -, c0, -⟩ := f σ h
  obtain ⟨r, σ', τ', e1, e2, hI, -, m⟩ := f σ1 (h.model c0)
  rw [e0] at e1
  injection e1 with e1
  injection e1 with ea eb
  subst ea eb
  exact ⟨r0, σ1, τ', e0, e2, hI.own m⟩
theorem pu_inv0 : Inv 0 qm_0 qm_0 := by
  have z : ∀ i, i < 208 → qm_0.2 211 i = 0 := (by decide +kernel : ∀ i, i < 208 → qc_f0 i = 0)
  have t : qm_0.1 0 1 = 0 := rfl
  refine ⟨⟨fun s a b => ?_, fun s k a b c d => ?_, fun s a b d => ?_, ?_, ?_, fun i _ _ => ?_⟩, ⟨fun s a b c => ?_, ⟨fun _ => 0, fun s a b c => ?_⟩, ⟨10000, by omega, rfl⟩, ⟨100, by omega, by omega, rfl⟩, ⟨10, by omega, rfl⟩, ⟨0, by omega, rfl⟩, ⟨0, by omega, rfl⟩, fun s a => Or.inl ?_⟩, ⟨0, 0, by omega, by omega, rfl, rfl, rfl, fun j hj => absurd hj (by omega)⟩, ⟨rfl, rfl, rfl⟩, ⟨0, by omega, rfl, rfl, fun i hi => absurd hi (by omega)⟩⟩
  · rw [t, b_0, z _ (by omega)]; rfl
  · rw [t, b_0] at d; cases d
  · rw [t, b_0] at d; cases d
  · rw [z _ (by omega)]; rfl
  · exact (by decide +kernel : ∀ k, k < 7 → qm_0.2 211 (208 + k) = (qm_0.1 0 (3 + k)).toInt64)
  · rw [t, b_0]
  · rw [t, b_0] at c; cases c
  · rw [t, b_0] at c; cases c
  · show (if 2 + s < 192 ∧ (2 + s) % 32 = 0 then _ else (0 : Int32)) = 0
    rw [if_neg (by omega)]
theorem pu_step (E : qm_E) {k : Nat} {σ : qm_M} (hL : E.2.2.2.2.1 ≤ 2560) (hk : 5 * k + 5 ≤ E.2.2.2.2.1) (h : Inv (300 * k) σ σ) : ∃ σ', bb_L_law_18 E σ (nI (5 * k)) = some (.inl (nI (5 * (k + 1)), σ')) ∧ Inv (300 * (k + 1)) σ' σ' := by
  unfold bb_L_law_18
  have hb : 300 * k ≤ 300 * (k + 1) := by omega
  have h5 : nI (5 * k) + 5 = nI (5 * (k + 1)) := nI_add (5 * k) 5
  have i0 : ¬ (nI (5 * k) < 0 ∨ E.2.2.2.2.1 ≤ (nI (5 * k)).toNatClampNeg) := pu_in (by omega) (by omega)
  have i1 : ¬ (nI (5 * k) + 1 < 0 ∨ E.2.2.2.2.1 ≤ (nI (5 * k) + 1).toNatClampNeg) := by rw [show nI (5 * k) + 1 = nI (5 * k + 1) from nI_add (5 * k) 1]; exact pu_in (by omega) (by omega)
  have i2 : ¬ (nI (5 * k) + 2 < 0 ∨ E.2.2.2.2.1 ≤ (nI (5 * k) + 2).toNatClampNeg) := by rw [show nI (5 * k) + 2 = nI (5 * k + 2) from nI_add (5 * k) 2]; exact pu_in (by omega) (by omega)
  have i3 : ¬ (nI (5 * k) + 3 < 0 ∨ E.2.2.2.2.1 ≤ (nI (5 * k) + 3).toNatClampNeg) := by rw [show nI (5 * k) + 3 = nI (5 * k + 3) from nI_add (5 * k) 3]; exact pu_in (by omega) (by omega)
  have i4 : ¬ (nI (5 * k) + 4 < 0 ∨ E.2.2.2.2.1 ≤ (nI (5 * k) + 4).toNatClampNeg) := by rw [show nI (5 * k) + 4 = nI (5 * k + 4) from nI_add (5 * k) 4]; exact pu_in (by omega) (by omega)
  have hn : ¬ (Int32.ofNat E.2.2.2.2.1 - 5 < nI (5 * k)) := by
    show ¬ (nI E.2.2.2.2.1 - nI 5 < nI (5 * k))
    rw [Int32.lt_iff_toInt_lt, pk_sub_toInt (by omega) (by omega), nI_toInt (by omega)]
    omega
  rw [if_neg hn, if_pos i0]
  generalize E.2.2.2.2.2 (nI (5 * k)).toNatClampNeg &&& 31 = w
  generalize E.2.2.2.2.2 (nI (5 * k) + 1).toNatClampNeg = a1
  generalize E.2.2.2.2.2 (nI (5 * k) + 2).toNatClampNeg = a2
  generalize E.2.2.2.2.2 (nI (5 * k) + 3).toNatClampNeg = a3
  generalize E.2.2.2.2.2 (nI (5 * k) + 4).toNatClampNeg = a4
  by_cases c0 : w = 0
  · obtain ⟨r, σ1, σ2, e1, e2, hI⟩ := pu_two (g := fun τ => fn_X7_comes τ a1 a2 a3 a4) (B' := 300 * (k + 1)) h (fun τ hτ => (pu_comes hτ a1 a2 a3 a4).mono hb)
    refine ⟨σ2, ?_, hI⟩
    have e2 : fn_X7_comes σ1 a1 a2 a3 a4 = some (r, σ2) := e2
    rw [if_pos c0, if_pos i1, if_pos i2, if_pos i3, if_pos i4, e1, Option.bind_some, if_pos i1, if_pos i2, if_pos i3, if_pos i4, e2, Option.bind_some, if_pos rfl, h5]; rfl
  rw [if_neg c0]
  by_cases c1 : w = 1
  · obtain ⟨r, σ1, σ2, e1, e2, hI⟩ := pu_two (g := fun τ => fn_X7_moves τ a1 a2 a3 a4) (B' := 300 * (k + 1)) h (fun τ hτ => (pu_moves hτ a1 a2 a3 a4).mono hb)
    refine ⟨σ2, ?_, hI⟩
    have e2 : fn_X7_moves σ1 a1 a2 a3 a4 = some (r, σ2) := e2
    rw [if_pos c1, if_pos i1, if_pos i2, if_pos i3, if_pos i4, e1, Option.bind_some, if_pos i1, if_pos i2, if_pos i3, if_pos i4, e2, Option.bind_some, if_pos rfl, h5]; rfl
  rw [if_neg c1]
  by_cases c2 : w = 2
  · obtain ⟨r, σ1, σ2, e1, e2, hI⟩ := pu_two (g := fun τ => fn_X7_sets τ a1 a2 a3) (B' := 300 * (k + 1)) h (fun τ hτ => (pu_sets hτ a1 a2 a3).mono hb)
    refine ⟨σ2, ?_, hI⟩
    have e2 : fn_X7_sets σ1 a1 a2 a3 = some (r, σ2) := e2
    rw [if_pos c2, if_pos i1, if_pos i2, if_pos i3, e1, Option.bind_some, if_pos i1, if_pos i2, if_pos i3, e2, Option.bind_some, if_pos rfl, h5]; rfl
  rw [if_neg c2]
  by_cases c3 : w = 3
  · obtain ⟨r, σ1, σ2, e1, e2, hI⟩ := pu_two (g := fun τ => fn_X7_closes τ a1) (B' := 300 * (k + 1)) h (fun τ hτ => (pu_closes hτ a1).mono hb)
    refine ⟨σ2, ?_, hI⟩
    have e2 : fn_X7_closes σ1 a1 = some (r, σ2) := e2
    rw [if_pos c3, if_pos i1, e1, Option.bind_some, if_pos i1, e2, Option.bind_some, if_pos rfl, h5]; rfl
  rw [if_neg c3]
  by_cases c4 : w = 4
  · obtain ⟨r, σ1, σ2, e1, e2, hI⟩ := pu_two (g := fun τ => fn_X7_of τ a1 a2) (B' := 300 * (k + 1)) h (fun τ hτ => (pu_of_sim hτ a1 a2).mono hb)
    refine ⟨σ2, ?_, hI⟩
    have e2 : fn_X7_of σ1 a1 a2 = some (r, σ2) := e2
    rw [if_pos c4, if_pos i1, if_pos i2, e1, Option.bind_some, if_pos i1, if_pos i2, e2, Option.bind_some, if_pos rfl, h5]; rfl
  rw [if_neg c4]
  by_cases c5 : w = 5
  · obtain ⟨r, σ1, σ2, e1, e2, hI⟩ := pu_two (g := fun τ => fn_X7_turn τ a1 a2) (B' := 300 * (k + 1)) h (fun τ hτ => (pu_turn hτ a1 a2).mono hb)
    refine ⟨σ2, ?_, hI⟩
    have e2 : fn_X7_turn σ1 a1 a2 = some (r, σ2) := e2
    rw [if_pos c5, if_pos i1, if_pos i2, e1, Option.bind_some, if_pos i1, if_pos i2, e2, Option.bind_some, if_pos ((lg_cmp_eq _ _).mpr rfl), h5]; rfl
  rw [if_neg c5]
  by_cases c6 : w = 6
  · obtain ⟨r, σ1, σ2, e1, e2, hI⟩ := pu_two (g := fun τ => fn_X7_child τ a1 a2) (B' := 300 * (k + 1)) h (fun τ hτ => (pu_child hτ a1 a2).mono hb)
    refine ⟨σ2, ?_, hI⟩
    have e2 : fn_X7_child σ1 a1 a2 = some (r, σ2) := e2
    rw [if_pos c6, if_pos i1, if_pos i2, e1, Option.bind_some, if_pos i1, if_pos i2, e2, Option.bind_some, if_pos rfl, h5]; rfl
  rw [if_neg c6]
  by_cases c7 : w = 7
  · obtain ⟨r, σ1, σ2, e1, e2, hI⟩ := pu_two (g := fun τ => fn_X7_common τ a1 a2) (B' := 300 * (k + 1)) h (fun τ hτ => (pu_common hτ a1 a2).mono hb)
    refine ⟨σ2, ?_, hI⟩
    have e2 : fn_X7_common σ1 a1 a2 = some (r, σ2) := e2
    rw [if_pos c7, if_pos i1, if_pos i2, e1, Option.bind_some, if_pos i1, if_pos i2, e2, Option.bind_some, if_pos rfl, h5]; rfl
  rw [if_neg c7]
  by_cases c8 : w = 8
  · obtain ⟨r, σ1, σ2, e1, e2, hI⟩ := pu_two (g := fun τ => fn_X7_readies τ a1 a2) (B' := 300 * (k + 1)) h (fun τ hτ => (pu_readies hτ a1 a2).mono hb)
    refine ⟨σ2, ?_, hI⟩
    have e2 : fn_X7_readies σ1 a1 a2 = some (r, σ2) := e2
    rw [if_pos c8, if_pos i1, if_pos i2, e1, Option.bind_some, if_pos i1, if_pos i2, e2, Option.bind_some, if_pos rfl, h5]; rfl
  rw [if_neg c8]
  by_cases c9 : w = 9
  · obtain ⟨r, σ1, σ2, e1, e2, hI⟩ := pu_two (g := fun τ => fn_X7_window τ a1 a2) (B' := 300 * (k + 1)) h (fun τ hτ => (pu_window hτ a1 a2).mono hb)
    refine ⟨σ2, ?_, hI⟩
    have e2 : fn_X7_window σ1 a1 a2 = some (r, σ2) := e2
    rw [if_pos c9, if_pos i1, if_pos i2, e1, Option.bind_some, if_pos i1, if_pos i2, e2, Option.bind_some, if_pos rfl, h5]; rfl
  rw [if_neg c9]
  by_cases c10 : w = 10
  · obtain ⟨r, σ1, σ2, e1, e2, hI⟩ := pu_two (g := fun τ => fn_X7_settings τ a1 a2) (B' := 300 * (k + 1)) h (fun τ hτ => (pu_settings hτ a1 a2).mono hb)
    refine ⟨σ2, ?_, hI⟩
    have e2 : fn_X7_settings σ1 a1 a2 = some (r, σ2) := e2
    rw [if_pos c10, if_pos i1, if_pos i2, e1, Option.bind_some, if_pos i1, if_pos i2, e2, Option.bind_some, if_pos rfl, h5]; rfl
  rw [if_neg c10]
  by_cases c11 : w = 11
  · obtain ⟨r, σ1, σ2, e1, e2, hI⟩ := pu_two (g := fun τ => fn_X7_sends τ a1) (B' := 300 * (k + 1)) h (fun τ hτ => (pu_sends (by omega) hτ a1).mono (by omega))
    refine ⟨σ2, ?_, hI⟩
    have e2 : fn_X7_sends σ1 a1 = some (r, σ2) := e2
    rw [if_pos c11, if_pos i1, e1, Option.bind_some, if_pos i1, e2, Option.bind_some, if_pos rfl, h5]; rfl
  rw [if_neg c11]
  by_cases c12 : w = 12
  · obtain ⟨r, e1, e2⟩ := pu_next h
    refine ⟨σ, ?_, h.mono hb⟩
    rw [if_pos c12, e1, Option.bind_some, e2, Option.bind_some, if_pos rfl, h5]; rfl
  rw [if_neg c12]
  by_cases c13 : w = 13
  · obtain ⟨r, σ1, σ2, e1, e2, hI⟩ := pu_two (g := fun τ => fn_X7_share τ a1 a2) (B' := 300 * (k + 1)) h (fun τ hτ => (pu_share hτ a1 a2).mono hb)
    refine ⟨σ2, ?_, hI⟩
    have e2 : fn_X7_share σ1 a1 a2 = some (r, σ2) := e2
    rw [if_pos c13, if_pos i1, if_pos i2, e1, Option.bind_some, if_pos i1, if_pos i2, e2, Option.bind_some, if_pos ((lg_cmp_eq _ _).mpr rfl), h5]; rfl
  rw [if_neg c13]
  by_cases c14 : w = 14
  · obtain ⟨r, σ1, σ2, e1, e2, hI⟩ := pu_two (g := fun τ => fn_X7_all τ a1) (B' := 300 * (k + 1)) h (fun τ hτ => (pu_all_sim hτ a1).mono hb)
    refine ⟨σ2, ?_, hI⟩
    have e2 : fn_X7_all σ1 a1 = some (r, σ2) := e2
    rw [if_pos c14, if_pos i1, e1, Option.bind_some, if_pos i1, e2, Option.bind_some, if_pos rfl, h5]; rfl
  rw [if_neg c14]
  by_cases c15 : w = 15
  · obtain ⟨r, σ1, σ2, e1, e2, hI⟩ := pu_two (g := fun τ => fn_X7_type τ a1) (B' := 300 * (k + 1)) h (fun τ hτ => (pu_type hτ a1).mono hb)
    refine ⟨σ2, ?_, hI⟩
    have e2 : fn_X7_type σ1 a1 = some (r, σ2) := e2
    rw [if_pos c15, if_pos i1, e1, Option.bind_some, if_pos i1, e2, Option.bind_some, if_pos rfl, h5]; rfl
  rw [if_neg c15]
  by_cases c16 : w = 16
  · obtain ⟨r, σ1, σ2, e1, e2, hI⟩ := pu_two (g := fun τ => fn_X7_clear τ ) (B' := 300 * (k + 1)) h (fun τ hτ => (pu_clear hτ).mono hb)
    refine ⟨σ2, ?_, hI⟩
    have e2 : fn_X7_clear σ1  = some (r, σ2) := e2
    rw [if_pos c16, e1, Option.bind_some, e2, Option.bind_some, if_pos rfl, h5]; rfl
  rw [if_neg c16]
  by_cases c17 : w = 17
  · obtain ⟨r, σ1, σ2, e1, e2, hI⟩ := pu_two (g := fun τ => fn_X7_builds τ ) (B' := 300 * (k + 1)) h (fun τ hτ => (pu_builds hτ).mono hb)
    refine ⟨σ2, ?_, hI⟩
    have e2 : fn_X7_builds σ1  = some (r, σ2) := e2
    rw [if_pos c17, e1, Option.bind_some, e2, Option.bind_some, if_pos rfl, h5]; rfl
  rw [if_neg c17]
  by_cases c18 : w = 18
  · obtain ⟨r, σ1, σ2, e1, e2, hI⟩ := pu_two (g := fun τ => fn_X7_shown τ a1) (B' := 300 * (k + 1)) h (fun τ hτ => (pu_shown hτ a1).mono hb)
    refine ⟨σ2, ?_, hI⟩
    have e2 : fn_X7_shown σ1 a1 = some (r, σ2) := e2
    rw [if_pos c18, if_pos i1, e1, Option.bind_some, if_pos i1, e2, Option.bind_some, if_pos rfl, h5]; rfl
  rw [if_neg c18]
  by_cases c19 : w = 19
  · obtain ⟨r, σ1, σ2, e1, e2, hI⟩ := pu_two (g := fun τ => fn_X7_back τ ) (B' := 300 * (k + 1)) h (fun τ hτ => (pu_back hτ).mono hb)
    refine ⟨σ2, ?_, hI⟩
    have e2 : fn_X7_back σ1  = some (r, σ2) := e2
    rw [if_pos c19, e1, Option.bind_some, e2, Option.bind_some, if_pos rfl, h5]; rfl
  rw [if_neg c19]
  by_cases c20 : w = 20
  · obtain ⟨r, σ1, σ2, e1, e2, hI⟩ := pu_two (g := fun τ => fn_X7_told τ a1) (B' := 300 * (k + 1)) h (fun τ hτ => (pu_told hτ a1).mono hb)
    refine ⟨σ2, ?_, hI⟩
    have e2 : fn_X7_told σ1 a1 = some (r, σ2) := e2
    rw [if_pos c20, if_pos i1, e1, Option.bind_some, if_pos i1, e2, Option.bind_some, if_pos rfl, h5]; rfl
  rw [if_neg c20]
  by_cases c21 : w = 21
  · obtain ⟨r, e1, e2⟩ := pu_digest h
    refine ⟨σ, ?_, h.mono hb⟩
    rw [if_pos c21, e1, Option.bind_some, e2, Option.bind_some, if_pos ((lg_cmp_eq _ _).mpr rfl), h5]; rfl
  rw [if_neg c21]
  exact ⟨σ, by rw [h5]; rfl, h.mono hb⟩
theorem lw_pure (E : qm_E) (hL : E.2.2.2.2.1 ≤ 2560) : ∃ σ', lp_L_law_18 E qm_0 0 = some (true, σ') := by
  have key : ∀ m k (σ : qm_M) N, E.2.2.2.2.1 < 5 * (k + m) + 5 → 5 * k ≤ 2560 → m < N → Inv (300 * k) σ σ → ∃ σ', qm_loop (fun s : Int32 × qm_M => bb_L_law_18 E s.2 s.1) N (nI (5 * k), σ) = some (true, σ') := by
    intro m
    induction m with
    | zero =>
      intro k σ N h1 h2 hN h
      obtain ⟨N, rfl⟩ : ∃ q, N = q + 1 := ⟨N - 1, by omega⟩
      refine ⟨σ, pu_inr ?_⟩
      show bb_L_law_18 E σ (nI (5 * k)) = _
      unfold bb_L_law_18
      rw [if_pos (show Int32.ofNat E.2.2.2.2.1 - 5 < nI (5 * k) by
        show nI E.2.2.2.2.1 - nI 5 < nI (5 * k)
        rw [Int32.lt_iff_toInt_lt, pk_sub_toInt (by omega) (by omega), nI_toInt (by omega)]
        omega)]
      rfl
    | succ m ih =>
      intro k σ N h1 h2 hN h
      by_cases c : E.2.2.2.2.1 < 5 * k + 5
      · obtain ⟨N, rfl⟩ : ∃ q, N = q + 1 := ⟨N - 1, by omega⟩
        refine ⟨σ, pu_inr ?_⟩
        show bb_L_law_18 E σ (nI (5 * k)) = _
        unfold bb_L_law_18
        rw [if_pos (show Int32.ofNat E.2.2.2.2.1 - 5 < nI (5 * k) by
          show nI E.2.2.2.2.1 - nI 5 < nI (5 * k)
          rw [Int32.lt_iff_toInt_lt, pk_sub_toInt (by omega) (by omega), nI_toInt (by omega)]
          omega)]
        rfl
      · obtain ⟨N, rfl⟩ : ∃ q, N = q + 1 := ⟨N - 1, by omega⟩
        obtain ⟨σ1, e1, hI⟩ := pu_step E hL (by omega) h
        obtain ⟨σ', e2⟩ := ih (k + 1) σ1 N (by omega) (by omega) (by omega) hI
        exact ⟨σ', (pu_inl e1).trans e2⟩
  exact key 512 0 qm_0 1000 (by omega) (by omega) (by omega) pu_inv0
