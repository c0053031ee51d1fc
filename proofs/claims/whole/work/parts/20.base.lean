def bt (x : Int32) (i : Nat) : Bool := x.toBitVec.getLsbD i
theorem b_ext {x y : Int32} (h : ∀ i, i < 32 → bt x i = bt y i) : x = y := Int32.toBitVec_inj.mp (BitVec.eq_of_getLsbD_eq (fun i hi => h i hi))
theorem b_or (x y : Int32) (i : Nat) : bt (x ||| y) i = (bt x i || bt y i) := by unfold bt; rw [Int32.toBitVec_or, BitVec.getLsbD_or]
theorem b_and (x y : Int32) (i : Nat) : bt (x &&& y) i = (bt x i && bt y i) := by unfold bt; rw [Int32.toBitVec_and, BitVec.getLsbD_and]
theorem b_xor (x y : Int32) (i : Nat) : bt (x ^^^ y) i = (bt x i ^^ bt y i) := by unfold bt; rw [Int32.toBitVec_xor, BitVec.getLsbD_xor]
theorem b_big {x : Int32} {i : Nat} (h : 32 ≤ i) : bt x i = false := BitVec.getLsbD_of_ge _ _ h
theorem b_255 (i : Nat) : bt 255 i = decide (i < 8) := by
  rcases Nat.lt_or_ge i 32 with h | h
  · exact (by decide +kernel : ∀ i, i < 32 → bt 255 i = decide (i < 8)) i h
  · rw [b_big h, decide_eq_false (by omega)]
theorem b_65535 (i : Nat) : bt 65535 i = decide (i < 16) := by
  rcases Nat.lt_or_ge i 32 with h | h
  · exact (by decide +kernel : ∀ i, i < 32 → bt 65535 i = decide (i < 16)) i h
  · rw [b_big h, decide_eq_false (by omega)]
theorem b_m1 : ∀ i, i < 32 → bt (-1) i = true := by decide +kernel
theorem b_0 (i : Nat) : bt 0 i = false := BitVec.getLsbD_zero
theorem s_l : ∀ n, n < 32 → ((nI n &&& 31).toBitVec.smod 32).toNat = n := by decide +kernel
theorem s_u : ∀ n, n < 32 → (((nI n).toUInt32 &&& Int32.toUInt32 31).toBitVec % 32).toNat = n := by decide +kernel
theorem b_shl (n : Nat) (hn : n < 32) (x : Int32) {i : Nat} (hi : i < 32) : bt (x <<< (nI n &&& 31)) i = (decide (n ≤ i) && bt x (i - n)) := by
  unfold bt
  rw [Int32.toBitVec_shiftLeft]
  show (x.toBitVec <<< ((nI n &&& 31).toBitVec.smod 32).toNat).getLsbD i = _
  rw [s_l n hn, BitVec.getLsbD_shiftLeft]
  rcases Nat.lt_or_ge i n with h | h
  · simp [h, Nat.not_le.mpr h]
  · simp [hi, h, Nat.not_lt.mpr h]
theorem b_ushr (n : Nat) (hn : n < 32) (x : Int32) (i : Nat) : bt ((x.toUInt32 >>> ((nI n).toUInt32 &&& Int32.toUInt32 31)).toInt32) i = bt x (n + i) := by
  show (x.toUInt32 >>> ((nI n).toUInt32 &&& Int32.toUInt32 31)).toBitVec.getLsbD i = x.toUInt32.toBitVec.getLsbD (n + i)
  rw [UInt32.toBitVec_shiftRight]
  show (x.toUInt32.toBitVec >>> (((nI n).toUInt32 &&& Int32.toUInt32 31).toBitVec % 32).toNat).getLsbD i = _
  rw [s_u n hn, BitVec.getLsbD_ushiftRight]
theorem b_sshr (n : Nat) (hn : n < 32) (x : Int32) {i : Nat} (hi : i < 32) : bt (x >>> (nI n &&& 31)) i = if n + i < 32 then bt x (n + i) else bt x 31 := by
  unfold bt
  rw [Int32.toBitVec_shiftRight]
  show (x.toBitVec.sshiftRight ((nI n &&& 31).toBitVec.smod 32).toNat).getLsbD i = _
  rw [s_l n hn, BitVec.getLsbD_sshiftRight, BitVec.msb_eq_getLsbD_last]
  simp [hi]
-- ===== THE PURE PART: numbers, bits, loops =====
theorem pu_clamp {j : Nat} (h : j < 2147483648) : (nI j).toNatClampNeg = j := nI_clamp (by omega)
theorem pu_in {j n : Nat} (h : j < n) (hn : n < 2147483648) : ¬ (nI j < 0 ∨ n ≤ (nI j).toNatClampNeg) := nI_in h (by omega)
theorem pu_lt {a b : Nat} (ha : a < 2147483648) (hb : b < 2147483648) : nI a < nI b ↔ a < b := nI_ltI (by omega) (by omega)
theorem pu_le {a b : Nat} (ha : a < 2147483648) (hb : b < 2147483648) : nI a ≤ nI b ↔ a ≤ b := nI_leI (by omega) (by omega)
theorem pu_eq {a b : Nat} (ha : a < 2147483648) (hb : b < 2147483648) : nI a = nI b ↔ a = b := nI_eq (by omega) (by omega)
theorem pu_b0 (b : Bool) : (qm_b b = 0) = (b = false) := by cases b <;> simp [qm_b]
theorem pu_i64 (x : Int32) : x.toInt64.toInt32 = x := by simp
theorem pu_64inj {x y : Int32} : x.toInt64 = y.toInt64 ↔ x = y := ⟨fun h => by rw [← pu_i64 x, h, pu_i64], fun h => by rw [h]⟩
theorem pu_64lt (a b : Int32) : a.toInt64 < b.toInt64 ↔ a < b := by
  rw [Int64.lt_iff_toInt_lt, Int32.lt_iff_toInt_lt]; simp
theorem pu_64le (a b : Int32) : a.toInt64 ≤ b.toInt64 ↔ a ≤ b := by
  rw [Int64.le_iff_toInt_le, Int32.le_iff_toInt_le]; simp
theorem pu_nI64 {n : Nat} (h : n < 2147483648) : (nI n).toInt64 = lN n := nI_l (by omega)
theorem pu_ge0 {v : Int32} {n : Nat} (hn : n < 2147483648) (h1 : 0 ≤ v) (h2 : v ≤ nI n) : ∃ j, j ≤ n ∧ v = nI j := by
  obtain ⟨j, hj, rfl⟩ := nI_of (x := v) (by rw [Int32.lt_iff_toInt_lt]; rw [Int32.le_iff_toInt_le] at h1; omega)
  exact ⟨j, (pu_le (by omega) hn).mp h2, rfl⟩
/-- an int from 1 to 12, or not -/
theorem pu_12 (v : Int32) : (∃ j, 1 ≤ j ∧ j ≤ 12 ∧ v = nI j) ∨ (v < 1 ∨ 12 < v) := by
  by_cases h1 : v < 1
  · exact Or.inr (Or.inl h1)
  · by_cases h2 : 12 < v
    · exact Or.inr (Or.inr h2)
    · left
      have e1 : (1 : Int32).toInt = 1 := rfl
      have e2 : (12 : Int32).toInt = 12 := rfl
      have e0 : (0 : Int32).toInt = 0 := rfl
      rw [Int32.lt_iff_toInt_lt] at h1 h2
      obtain ⟨j, hj, rfl⟩ := nI_of (x := v) (by rw [Int32.lt_iff_toInt_lt]; omega)
      rw [nI_toInt hj] at h1 h2
      exact ⟨j, by omega, by omega, rfl⟩
theorem pu_h12 {j : Nat} (h : j ≤ 12) : ¬ ((12 : Int32) < nI j) := by
  show ¬ (nI 12 < nI j); rw [pu_lt (by omega) (by omega)]; omega
theorem pu_13 : (12 : Int32) < nI 13 := by decide
theorem pu_s1 (j : Nat) : nI j + 1 = nI (j + 1) := nI_1 j
/-- a loop by a falling measure -/
theorem pu_loop {S R : Type} {body : S → Option (S ⊕ R)} {Q : R → Prop} (I : Nat → S → Prop) (hs : ∀ (j : Nat) (s : S), I j s → (∃ r, body s = some (.inr r) ∧ Q r) ∨ ∃ s' j', body s = some (.inl s') ∧ j' < j ∧ I j' s') : ∀ (n j : Nat) (s : S), j < n → I j s → ∃ r, qm_loop body n s = some r ∧ Q r
  | 0, j, s, h, _ => absurd h (by omega)
  | n + 1, j, s, h, hI => by
    rcases hs j s hI with ⟨r, hr, hq⟩ | ⟨s', j', hr, hj, hI'⟩
    · exact ⟨r, by unfold qm_loop; rw [hr], hq⟩
    · obtain ⟨r, h1, h2⟩ := pu_loop I hs n j' s' (by omega) hI'
      exact ⟨r, by unfold qm_loop; rw [hr]; exact h1, h2⟩
/-- bits: an index below 32 -/
theorem pu_has (σ : qm_M) (v : Int32) {j : Nat} (hj : j < 32) : fn_X6_has σ v (nI j) = some (bt v j) := by
  unfold fn_X6_has
  have hb : ((v >>> (nI j &&& 31)) &&& 1 = 1) ↔ bt v j = true := by
    have e : bt ((v >>> (nI j &&& 31)) &&& 1) 0 = bt v j := by
      rw [b_and, b_sshr j hj v (by omega)]
      have h1 : bt (1 : Int32) 0 = true := by decide
      rw [h1, if_pos (by omega)]; simp
    constructor
    · intro h; rw [← e, h]; decide
    · intro h
      apply b_ext
      intro i hi
      by_cases h0 : i = 0
      · subst h0; rw [e, h]; decide
      · rw [b_and]
        have h1 : bt (1 : Int32) i = false := (show ∀ i, i < 32 → i ≠ 0 → bt (1 : Int32) i = false by decide +kernel) i hi h0
        rw [h1, Bool.and_false]
  by_cases h : bt v j = true
  · rw [if_pos (hb.mpr h), h]
  · rw [if_neg (fun q => h (hb.mp q))]; simp at h; rw [h]
theorem pu_bit {j : Nat} (hj : j < 32) {i : Nat} (hi : i < 32) : bt ((1 : Int32) <<< (nI j &&& 31)) i = decide (i = j) := by
  rw [b_shl j hj _ hi]
  by_cases h : i = j
  · subst h; simp; decide
  · by_cases h2 : j ≤ i
    · have h1 : bt (1 : Int32) (i - j) = false := (show ∀ i, i < 32 → i ≠ 0 → bt (1 : Int32) i = false by decide +kernel) (i - j) (by omega) (by omega)
      rw [h1]; simp [h]
    · simp [h, h2]
theorem pu_nbit {j : Nat} (hj : j < 32) {i : Nat} (hi : i < 32) : bt (((1 : Int32) <<< (nI j &&& 31)) ^^^ (-1)) i = !decide (i = j) := by
  rw [b_xor, pu_bit hj hi, b_m1 i hi]; simp
theorem pu_ift {α : Type} (a b : α) : (if qm_b true = 0 then a else b) = b := if_neg (by decide)
theorem pu_iff {α : Type} (a b : α) : (if qm_b false = 0 then a else b) = a := if_pos (by decide)
theorem pu_sub0 {a b : Int32} (h : a - b = 0) : a = b := by
  have := Int32.sub_add_cancel a b
  rw [h, Int32.zero_add] at this; exact this.symm
theorem pu_sub1 (a b : Int32) : a - b + (-1) = a - (b + 1) := by
  simp [Int32.sub_eq_add_neg, Int32.neg_add, Int32.add_assoc]
theorem pu_inl {S R : Type} {body : S → Option (S ⊕ R)} {n : Nat} {s s' : S} (h : body s = some (.inl s')) : qm_loop body (n + 1) s = qm_loop body n s' := by
  conv => lhs; unfold qm_loop
  rw [h]
theorem pu_inr {S R : Type} {body : S → Option (S ⊕ R)} {n : Nat} {s : S} {r : R} (h : body s = some (.inr r)) : qm_loop body (n + 1) s = some r := by
  unfold qm_loop
  rw [h]
