theorem pu_and (a b : Nat) : nI a &&& nI b = nI (a &&& b) := by
  apply Int32.toBitVec_inj.mp
  rw [Int32.toBitVec_and]
  show BitVec.ofNat 32 a &&& BitVec.ofNat 32 b = BitVec.ofNat 32 (a &&& b)
  exact BitVec.ofNat_and.symm
theorem pu_ush {n : Nat} (hn : n < 2 ^ 32) (k : Nat) (hk : k < 32) : ((nI n).toUInt32 >>> ((nI k).toUInt32 &&& Int32.toUInt32 31)).toInt32 = nI (n >>> k) := by
  rw [pk_ushrN hn (nI k) k (s_u k hk), Nat.shiftRight_eq_div_pow]
theorem pc_bitCount (σ : qm_M) {n : Nat} (hn : n < 8192) : fn_J_bitCount σ (nI n) = some (nI (pu_szN n)) := by
  have e := pu_bcN_eq (n / 64) (by omega) (n % 64) (by omega)
  rw [Nat.div_add_mod] at e
  rw [← e]
  unfold fn_J_bitCount pu_bcN
  simp only [Option.bind_some]
  have l1 : n >>> 1 &&& 1431655765 ≤ n := Nat.le_trans Nat.and_le_left (by rw [Nat.shiftRight_eq_div_pow]; omega)
  have h1 : nI n - (((nI n).toUInt32 >>> ((1 : Int32).toUInt32 &&& Int32.toUInt32 31)).toInt32 &&& (1431655765 : Int32)) = nI (n - (n >>> 1 &&& 1431655765)) := by
    have := pu_ush (n := n) (by omega) 1 (by omega)
    rw [show (1 : Int32) = nI 1 from rfl, this, show (1431655765 : Int32) = nI 1431655765 from rfl, pu_and, pk_sub l1]
  rw [h1]
  have ba : n - (n >>> 1 &&& 1431655765) < 8192 := by omega
  generalize n - (n >>> 1 &&& 1431655765) = a at ba
  have h2 : (nI a &&& (858993459 : Int32)) + (((nI a).toUInt32 >>> ((2 : Int32).toUInt32 &&& Int32.toUInt32 31)).toInt32 &&& (858993459 : Int32)) = nI ((a &&& 858993459) + (a >>> 2 &&& 858993459)) := by
    have := pu_ush (n := a) (by omega) 2 (by omega)
    rw [show (2 : Int32) = nI 2 from rfl, this, show (858993459 : Int32) = nI 858993459 from rfl, pu_and, pu_and, nI_add]
  rw [h2]
  have bb : (a &&& 858993459) + (a >>> 2 &&& 858993459) < 16384 := by
    have k1 : a &&& 858993459 ≤ a := Nat.and_le_left
    have k2 : a >>> 2 &&& 858993459 ≤ a := Nat.le_trans Nat.and_le_left (by rw [Nat.shiftRight_eq_div_pow]; omega)
    omega
  generalize (a &&& 858993459) + (a >>> 2 &&& 858993459) = b at bb
  have h3 : (nI b + ((nI b).toUInt32 >>> ((4 : Int32).toUInt32 &&& Int32.toUInt32 31)).toInt32) &&& (252645135 : Int32) = nI ((b + b >>> 4) &&& 252645135) := by
    have := pu_ush (n := b) (by omega) 4 (by omega)
    rw [show (4 : Int32) = nI 4 from rfl, this, show (252645135 : Int32) = nI 252645135 from rfl, nI_add, pu_and]
  rw [h3]
  have bc : (b + b >>> 4) &&& 252645135 < 32768 := by
    have k1 : (b + b >>> 4) &&& 252645135 ≤ b + b >>> 4 := Nat.and_le_left
    have k2 : b >>> 4 ≤ b := by rw [Nat.shiftRight_eq_div_pow]; omega
    omega
  generalize (b + b >>> 4) &&& 252645135 = c at bc
  have h4 : nI c + ((nI c).toUInt32 >>> ((8 : Int32).toUInt32 &&& Int32.toUInt32 31)).toInt32 = nI (c + c >>> 8) := by
    have := pu_ush (n := c) (by omega) 8 (by omega)
    rw [show (8 : Int32) = nI 8 from rfl, this, nI_add]
  rw [h4]
  have bd : c + c >>> 8 < 65536 := by
    have k2 : c >>> 8 ≤ c := by rw [Nat.shiftRight_eq_div_pow]; omega
    omega
  generalize c + c >>> 8 = d at bd
  have h5 : nI d + ((nI d).toUInt32 >>> ((16 : Int32).toUInt32 &&& Int32.toUInt32 31)).toInt32 = nI (d + d >>> 16) := by
    have := pu_ush (n := d) (by omega) 16 (by omega)
    rw [show (16 : Int32) = nI 16 from rfl, this, nI_add]
  rw [h5, show (63 : Int32) = nI 63 from rfl, pu_and]
theorem pu_thN {σ : qm_M} {g : Nat → Int64} (h : RT σ g) : ∃ n, n < 8192 ∧ σ.1 0 1 = nI n ∧ ∀ k, bt (σ.1 0 1) k = n.testBit k := by
  refine ⟨(σ.1 0 1).toBitVec.toNat, ?_, ?_, fun k => rfl⟩
  · refine Nat.lt_pow_two_of_testBit (n := 13) _ (fun i hi => ?_)
    show bt (σ.1 0 1) i = false
    rcases Nat.lt_or_ge i 32 with q | q
    · exact h.2.2.2.2.2 i q (by omega)
    · exact b_big q
  · apply Int32.toBitVec_inj.mp
    show (σ.1 0 1).toBitVec = BitVec.ofNat 32 _
    rw [BitVec.ofNat_toNat, BitVec.setWidth_eq]
theorem pu_bit1 (v : Int32) {k : Nat} (hk : k < 32) : (v >>> (nI k &&& 31)) &&& 1 = nI (if bt v k = true then 1 else 0) := by
  apply b_ext
  intro i hi
  rw [b_and]
  by_cases e : i = 0
  · subst e
    rw [b_sshr k hk v (by omega), if_pos (by omega), show bt (1 : Int32) 0 = true by decide, Bool.and_true, Nat.add_zero]
    cases bt v k
    · rfl
    · rfl
  · have h1 : bt (1 : Int32) i = false := (show ∀ i, i < 32 → i ≠ 0 → bt (1 : Int32) i = false by decide +kernel) i hi e
    rw [h1, Bool.and_false]
    cases bt v k
    · exact (b_0 i).symm
    · exact h1.symm
theorem pm_size (τ : qm_M) {v : Int32} {n : Nat} (hv : ∀ k, bt v k = n.testBit k) : fn_X7_size τ v = some (nI (pu_szN n)) := by
  have tb : ∀ k, (if bt v k = true then 1 else 0) = n / 2 ^ k % 2 := by
    intro k
    rw [hv k, Nat.testBit_eq_decide_div_mod_eq]
    by_cases c : n / 2 ^ k % 2 = 1
    · rw [decide_eq_true c, if_pos rfl, c]
    · rw [decide_eq_false c, if_neg (by decide)]
      have := Nat.mod_lt (n / 2 ^ k) (show 0 < 2 by omega)
      omega
  have st : ∀ a j, j ≤ 12 → bb_X7_size_4 τ v (nI a) (nI j) = some (.inl (nI (a + n / 2 ^ j % 2), nI (j + 1))) := by
    intro a j hj
    unfold bb_X7_size_4
    rw [if_neg (pu_h12 hj), pu_bit1 v (by omega), tb, nI_add, pu_s1]; rfl
  have e0 : fn_X7_size τ v = qm_loop (fun s : Int32 × Int32 => bb_X7_size_4 τ v s.1 s.2) (986 + 1 + 1 + 1 + 1 + 1 + 1 + 1 + 1 + 1 + 1 + 1 + 1 + 1 + 1) (nI 0, nI 0) := rfl
  rw [e0, pu_inl (st 0 0 (by omega)), pu_inl (st _ 1 (by omega)), pu_inl (st _ 2 (by omega)), pu_inl (st _ 3 (by omega)), pu_inl (st _ 4 (by omega)), pu_inl (st _ 5 (by omega)), pu_inl (st _ 6 (by omega)), pu_inl (st _ 7 (by omega)), pu_inl (st _ 8 (by omega)), pu_inl (st _ 9 (by omega)), pu_inl (st _ 10 (by omega)), pu_inl (st _ 11 (by omega)), pu_inl (st _ 12 (by omega))]
  refine pu_inr ?_
  show bb_X7_size_4 τ v _ (nI 13) = _
  unfold bb_X7_size_4
  rw [if_pos pu_13, Option.bind_some]
  have : pu_szN n = 0 + n / 2 ^ 0 % 2 + n / 2 ^ 1 % 2 + n / 2 ^ 2 % 2 + n / 2 ^ 3 % 2 + n / 2 ^ 4 % 2 + n / 2 ^ 5 % 2 + n / 2 ^ 6 % 2 + n / 2 ^ 7 % 2 + n / 2 ^ 8 % 2 + n / 2 ^ 9 % 2 + n / 2 ^ 10 % 2 + n / 2 ^ 11 % 2 + n / 2 ^ 12 % 2 := by
    unfold pu_szN
    simp only [Nat.reducePow, Nat.div_one, Nat.zero_add]
  rw [this]
theorem pu_closes {B : Nat} {σ τ : qm_M} (h : Inv B σ τ) (v : Int32) : Sim B σ τ (fn_X6_closes σ v) (fn_X7_closes τ v) := by
  unfold fn_X6_closes fn_X7_closes
  rw [pc_isThere, pm_isStream h.1]
  simp only [Option.bind_some]
  cases ht : pu_th σ v
  · rw [pu_iff, pu_iff, pu_bid, pu_bid]; exact Sim.bad h
  · obtain ⟨j, h1, h2, rfl, hj⟩ := pu_th_t ht
    have inj := pu_in (show j < 13 by omega) (by omega : 13 < 2147483648)
    rw [pu_ift, pu_ift, if_pos inj, pu_its_7 τ h2, Option.bind_some]
    have eo : τ.2 211 (16 * j + 7) = (σ.1 (2 + j) 6).toInt64 := h.1.2.1 j 6 h1 h2 (by omega) hj
    have co : (lg_cmp (τ.2 211 (16 * j + 7)) 0 = 0) ↔ σ.1 (2 + j) 6 = 0 := by
      rw [lg_cmp_eq, eo, show (0 : Int64) = (0 : Int32).toInt64 from rfl, pu_64inj]
    rw [pu_clamp (by omega), show 0 + 1 + 1 + j = 2 + j by omega] at *
    by_cases o : σ.1 (2 + j) 6 = 0
    · rw [if_pos o, if_pos (co.mpr o), pu_bid, pu_bid]; exact Sim.no h
    · rw [if_neg o, if_neg (fun q => o (co.mp q))]
      obtain ⟨σ1, τ1, e1, e2, hI, f1, f2, K⟩ := pu_keep h
      rw [e1, e2]
      simp only [Option.bind_some]
      rw [if_pos inj, if_pos inj, pu_puts_7 τ1 h2, Option.bind_some, pu_puts_3 _ h2, Option.bind_some]
      have R1 : RT (qm_si (qm_si σ1 (2 + j) 6 0) (2 + j) 2 0) ((qm_sl (qm_sl τ1 211 (16 * j + 7) 0) 211 (16 * j + 3) 0).2 211) := by
        rw [qm_sl_row, qm_sl_row]
        exact (hI.1.wr h2 (show 6 < 12 by omega) 0).wr h2 (show 2 < 12 by omega) 0
      have W0 : WF B (qm_si σ1 (2 + j) 6 0) := hI.2.1.wr h2 (by omega) 0 (fun a b => WS.k6 (n := 0) (by omega) _ _ _ (hI.2.1.1 j a h2 b)) (fun _ => Or.inl rfl)
      have W1 : WF B (qm_si (qm_si σ1 (2 + j) 6 0) (2 + j) 2 0) := W0.wr h2 (by omega) 0 (fun a b => WS.k2 (n := 0) (by omega) _ _ _ (W0.1 j a h2 b)) (fun q => absurd q (by omega))
      obtain ⟨σ2, τ2, g1, g2, g3, g4, g5, g6⟩ := pu_letGo R1 W1
      rw [g1, g2]
      simp only [Option.bind_some]
      obtain ⟨n, n1, n2, n3⟩ := pu_thN g3
      rw [pm_there g3, Option.bind_some, pm_size τ2 n3, n2, pc_bitCount σ2 n1]
      simp only [Option.bind_some]
      exact Sim.done _ rfl rfl hI f1 f2 (((Lc.si _ _ _ (by omega)).tr (Lc.si _ _ _ (by omega))).tr g5) (((Lm.sl _ _ _).tr (Lm.sl _ _ _)).tr g6) g3 g4 (Nat.le_refl _)
