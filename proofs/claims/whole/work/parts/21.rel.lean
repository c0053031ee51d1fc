-- ===== the relation between the program's tree and the model's row =====
def pu_km (k : Nat) : Nat := if k < 8 then k + 1 else k + 3
/-- the tree of σ (its ids from 0 on) and the row g hold the same -/
def RT (σ : qm_M) (g : Nat → Int64) : Prop :=
  (∀ s, 1 ≤ s → s ≤ 12 → g (16 * s) = if bt (σ.1 0 1) s = true then 1 else 0) ∧
  (∀ s k, 1 ≤ s → s ≤ 12 → k < 12 → bt (σ.1 0 1) s = true → g (16 * s + pu_km k) = (σ.1 (2 + s) k).toInt64) ∧
  (∀ s, 1 ≤ s → s ≤ 12 → bt (σ.1 0 1) s = true → g (16 * s + 9) = σ.2 (2 + s) 12 ∧ g (16 * s + 10) = σ.2 (2 + s) 13 ∧ g (16 * s + 15) = if bt (σ.1 0 2) s = true then 1 else 0) ∧
  g 10 = σ.2 2 13 ∧ (∀ k, k < 7 → g (208 + k) = (σ.1 0 (3 + k)).toInt64) ∧ (∀ i, i < 32 → (i = 0 ∨ 12 < i) → bt (σ.1 0 1) i = false)
/-- a stream's numbers are in their bounds -/
def WS (B : Nat) (th : Int32) (f : Nat → Int32) (s : Nat) : Prop :=
  (∃ p, p ≤ 12 ∧ f 0 = nI p ∧ (p = 0 ∨ bt th p = true)) ∧ (∃ n, 1 ≤ n ∧ n ≤ 16 ∧ f 1 = nI n) ∧ (∃ n, n ≤ 9999 ∧ f 2 = nI n) ∧ (∃ n, n ≤ 9999 ∧ f 3 = nI n) ∧ (∃ n, n ≤ 7 ∧ f 4 = nI n) ∧ (∃ n, n ≤ 1 ∧ f 5 = nI n) ∧ (∃ n, n ≤ 1 ∧ f 6 = nI n) ∧ (∃ n, n ≤ B ∧ f 7 = nI n) ∧ (∃ n, n ≤ 1000 * B ∧ f 8 = nI n) ∧ (∃ n, n ≤ B ∧ f 9 = nI n) ∧ (∃ n, n ≤ B ∧ f 10 = nI n) ∧ (f 11 = -1 ∨ ∃ n, n ≤ B ∧ f 11 = nI n)
/-- the parent of a stream, as a number -/
def pu_par (σ : qm_M) (s : Nat) : Nat := (σ.1 (2 + s) 0).toNatClampNeg
def pu_it (f : Nat → Nat) : Nat → Nat → Nat
  | 0, s => s
  | n + 1, s => pu_it f n (f s)
def WF (B : Nat) (σ : qm_M) : Prop :=
  (∀ s, 1 ≤ s → s ≤ 12 → bt (σ.1 0 1) s = true → WS B (σ.1 0 1) (σ.1 (2 + s)) s) ∧
  (∃ rk : Nat → Nat, ∀ s, 1 ≤ s → s ≤ 12 → bt (σ.1 0 1) s = true → pu_par σ s ≠ 0 → rk (pu_par σ s) < rk s) ∧
  (∃ n, n ≤ 99999 ∧ σ.1 0 3 = nI n) ∧ (∃ n, 1 ≤ n ∧ n ≤ 999 ∧ σ.1 0 4 = nI n) ∧ (∃ n, n ≤ 50 ∧ σ.1 0 5 = nI n) ∧ (∃ n, n ≤ 1 ∧ σ.1 0 6 = nI n) ∧ (∃ n, n ≤ B ∧ σ.1 0 7 = nI n) ∧ (∀ s, s ≤ 12 → σ.1 (2 + s) 6 = 0 ∨ σ.1 (2 + s) 6 = 1)
/-- another tree of the memory as if its ids began at 0 -/
def pu_V (t : Nat) (σ : qm_M) : qm_M := (fun r k => σ.1 (t + r) k, fun r k => σ.2 (t + r) k)
def Cnt (σ τ : qm_M) : Prop := σ.1 200 6 = τ.1 213 0 ∧ σ.1 200 7 = τ.1 213 1 ∧ σ.1 200 8 = τ.1 213 2
def Txt (σ τ : qm_M) : Prop := ∃ n, n ≤ 120 ∧ σ.1 202 1 = nI n ∧ τ.1 210 7 = nI n ∧ ∀ i, i < n → σ.1 203 i = τ.1 214 i ∧ ∃ b, b < 128 ∧ σ.1 203 i = nI b
def Hist (B : Nat) (σ τ : qm_M) : Prop := ∃ o c, o < 5 ∧ c ≤ 5 ∧ σ.1 200 2 = nI o ∧ σ.1 200 3 = nI c ∧ τ.1 210 2 = nI c ∧ ∀ j, j < c → RT (pu_V (32 * ((o + j) % 5 + 1)) σ) (fun i => τ.2 212 (215 * j + i)) ∧ WF B (pu_V (32 * ((o + j) % 5 + 1)) σ)
def Inv (B : Nat) (σ τ : qm_M) : Prop := RT σ (τ.2 211) ∧ WF B σ ∧ Hist B σ τ ∧ Cnt σ τ ∧ Txt σ τ
/-- the program's part is as before, the model's part is as before -/
def Fc (σ σ' : qm_M) : Prop := ∀ id, 210 ≤ id → σ'.1 id = σ.1 id ∧ σ'.2 id = σ.2 id
def Fm (τ τ' : qm_M) : Prop := ∀ id, id < 210 → τ'.1 id = τ.1 id ∧ τ'.2 id = τ.2 id
theorem Fc.rf (σ : qm_M) : Fc σ σ := fun _ _ => ⟨rfl, rfl⟩
theorem Fm.rf (σ : qm_M) : Fm σ σ := fun _ _ => ⟨rfl, rfl⟩
theorem Fc.tr {a b c : qm_M} (h : Fc a b) (k : Fc b c) : Fc a c := fun i hi => ⟨(k i hi).1.trans (h i hi).1, (k i hi).2.trans (h i hi).2⟩
theorem Fm.tr {a b c : qm_M} (h : Fm a b) (k : Fm b c) : Fm a c := fun i hi => ⟨(k i hi).1.trans (h i hi).1, (k i hi).2.trans (h i hi).2⟩
theorem Fc.si (σ : qm_M) {id : Nat} (k : Nat) (x : Int32) (h : id < 210) : Fc σ (qm_si σ id k x) := fun i hi => ⟨qm_si_ne σ k x (by omega), rfl⟩
theorem Fc.sl (σ : qm_M) {id : Nat} (k : Nat) (x : Int64) (h : id < 210) : Fc σ (qm_sl σ id k x) := fun i hi => ⟨rfl, qm_sl_ne σ k x (by omega)⟩
theorem Fm.si (σ : qm_M) {id : Nat} (k : Nat) (x : Int32) (h : 210 ≤ id) : Fm σ (qm_si σ id k x) := fun i hi => ⟨qm_si_ne σ k x (by omega), rfl⟩
theorem Fm.sl (σ : qm_M) {id : Nat} (k : Nat) (x : Int64) (h : 210 ≤ id) : Fm σ (qm_sl σ id k x) := fun i hi => ⟨rfl, qm_sl_ne σ k x (by omega)⟩
-- ===== the model's reads and writes =====
theorem pu_idx (a b : Nat) : (16 : Int32) * nI a + nI b = nI (16 * a + b) := by
  show nI 16 * nI a + nI b = _
  rw [pk_mul, nI_add]
theorem pu_its (σ : qm_M) {a b : Nat} (h : 16 * a + b < 215) : fn_X7_its σ (nI a) (nI b) = some (σ.2 211 (16 * a + b)) := by
  unfold fn_X7_its
  rw [pu_idx, if_pos (pu_in h (by omega)), pu_clamp (by omega)]
theorem pu_puts (σ : qm_M) {a b : Nat} (h : 16 * a + b < 215) (x : Int64) : fn_X7_puts σ (nI a) (nI b) x = some (qm_sl σ 211 (16 * a + b) x) := by
  unfold fn_X7_puts
  rw [pu_idx, if_pos (pu_in h (by omega)), pu_clamp (by omega)]
  rfl
theorem pu_its_0 (σ : qm_M) {a : Nat} (h : a ≤ 12) : fn_X7_its σ (nI a) 0 = some (σ.2 211 (16 * a + 0)) := pu_its σ (b := 0) (by omega)
theorem pu_puts_0 (σ : qm_M) {a : Nat} (h : a ≤ 12) (x : Int64) : fn_X7_puts σ (nI a) 0 x = some (qm_sl σ 211 (16 * a + 0) x) := pu_puts σ (b := 0) (by omega) x
theorem pu_its_1 (σ : qm_M) {a : Nat} (h : a ≤ 12) : fn_X7_its σ (nI a) 1 = some (σ.2 211 (16 * a + 1)) := pu_its σ (b := 1) (by omega)
theorem pu_puts_1 (σ : qm_M) {a : Nat} (h : a ≤ 12) (x : Int64) : fn_X7_puts σ (nI a) 1 x = some (qm_sl σ 211 (16 * a + 1) x) := pu_puts σ (b := 1) (by omega) x
theorem pu_its_2 (σ : qm_M) {a : Nat} (h : a ≤ 12) : fn_X7_its σ (nI a) 2 = some (σ.2 211 (16 * a + 2)) := pu_its σ (b := 2) (by omega)
theorem pu_puts_2 (σ : qm_M) {a : Nat} (h : a ≤ 12) (x : Int64) : fn_X7_puts σ (nI a) 2 x = some (qm_sl σ 211 (16 * a + 2) x) := pu_puts σ (b := 2) (by omega) x
theorem pu_its_3 (σ : qm_M) {a : Nat} (h : a ≤ 12) : fn_X7_its σ (nI a) 3 = some (σ.2 211 (16 * a + 3)) := pu_its σ (b := 3) (by omega)
theorem pu_puts_3 (σ : qm_M) {a : Nat} (h : a ≤ 12) (x : Int64) : fn_X7_puts σ (nI a) 3 x = some (qm_sl σ 211 (16 * a + 3) x) := pu_puts σ (b := 3) (by omega) x
theorem pu_its_4 (σ : qm_M) {a : Nat} (h : a ≤ 12) : fn_X7_its σ (nI a) 4 = some (σ.2 211 (16 * a + 4)) := pu_its σ (b := 4) (by omega)
theorem pu_puts_4 (σ : qm_M) {a : Nat} (h : a ≤ 12) (x : Int64) : fn_X7_puts σ (nI a) 4 x = some (qm_sl σ 211 (16 * a + 4) x) := pu_puts σ (b := 4) (by omega) x
theorem pu_its_5 (σ : qm_M) {a : Nat} (h : a ≤ 12) : fn_X7_its σ (nI a) 5 = some (σ.2 211 (16 * a + 5)) := pu_its σ (b := 5) (by omega)
theorem pu_puts_5 (σ : qm_M) {a : Nat} (h : a ≤ 12) (x : Int64) : fn_X7_puts σ (nI a) 5 x = some (qm_sl σ 211 (16 * a + 5) x) := pu_puts σ (b := 5) (by omega) x
theorem pu_its_6 (σ : qm_M) {a : Nat} (h : a ≤ 12) : fn_X7_its σ (nI a) 6 = some (σ.2 211 (16 * a + 6)) := pu_its σ (b := 6) (by omega)
theorem pu_puts_6 (σ : qm_M) {a : Nat} (h : a ≤ 12) (x : Int64) : fn_X7_puts σ (nI a) 6 x = some (qm_sl σ 211 (16 * a + 6) x) := pu_puts σ (b := 6) (by omega) x
theorem pu_its_7 (σ : qm_M) {a : Nat} (h : a ≤ 12) : fn_X7_its σ (nI a) 7 = some (σ.2 211 (16 * a + 7)) := pu_its σ (b := 7) (by omega)
theorem pu_puts_7 (σ : qm_M) {a : Nat} (h : a ≤ 12) (x : Int64) : fn_X7_puts σ (nI a) 7 x = some (qm_sl σ 211 (16 * a + 7) x) := pu_puts σ (b := 7) (by omega) x
theorem pu_its_8 (σ : qm_M) {a : Nat} (h : a ≤ 12) : fn_X7_its σ (nI a) 8 = some (σ.2 211 (16 * a + 8)) := pu_its σ (b := 8) (by omega)
theorem pu_puts_8 (σ : qm_M) {a : Nat} (h : a ≤ 12) (x : Int64) : fn_X7_puts σ (nI a) 8 x = some (qm_sl σ 211 (16 * a + 8) x) := pu_puts σ (b := 8) (by omega) x
theorem pu_its_9 (σ : qm_M) {a : Nat} (h : a ≤ 12) : fn_X7_its σ (nI a) 9 = some (σ.2 211 (16 * a + 9)) := pu_its σ (b := 9) (by omega)
theorem pu_puts_9 (σ : qm_M) {a : Nat} (h : a ≤ 12) (x : Int64) : fn_X7_puts σ (nI a) 9 x = some (qm_sl σ 211 (16 * a + 9) x) := pu_puts σ (b := 9) (by omega) x
theorem pu_its_10 (σ : qm_M) {a : Nat} (h : a ≤ 12) : fn_X7_its σ (nI a) 10 = some (σ.2 211 (16 * a + 10)) := pu_its σ (b := 10) (by omega)
theorem pu_puts_10 (σ : qm_M) {a : Nat} (h : a ≤ 12) (x : Int64) : fn_X7_puts σ (nI a) 10 x = some (qm_sl σ 211 (16 * a + 10) x) := pu_puts σ (b := 10) (by omega) x
theorem pu_its_11 (σ : qm_M) {a : Nat} (h : a ≤ 12) : fn_X7_its σ (nI a) 11 = some (σ.2 211 (16 * a + 11)) := pu_its σ (b := 11) (by omega)
theorem pu_puts_11 (σ : qm_M) {a : Nat} (h : a ≤ 12) (x : Int64) : fn_X7_puts σ (nI a) 11 x = some (qm_sl σ 211 (16 * a + 11) x) := pu_puts σ (b := 11) (by omega) x
theorem pu_its_12 (σ : qm_M) {a : Nat} (h : a ≤ 12) : fn_X7_its σ (nI a) 12 = some (σ.2 211 (16 * a + 12)) := pu_its σ (b := 12) (by omega)
theorem pu_puts_12 (σ : qm_M) {a : Nat} (h : a ≤ 12) (x : Int64) : fn_X7_puts σ (nI a) 12 x = some (qm_sl σ 211 (16 * a + 12) x) := pu_puts σ (b := 12) (by omega) x
theorem pu_its_13 (σ : qm_M) {a : Nat} (h : a ≤ 12) : fn_X7_its σ (nI a) 13 = some (σ.2 211 (16 * a + 13)) := pu_its σ (b := 13) (by omega)
theorem pu_puts_13 (σ : qm_M) {a : Nat} (h : a ≤ 12) (x : Int64) : fn_X7_puts σ (nI a) 13 x = some (qm_sl σ 211 (16 * a + 13) x) := pu_puts σ (b := 13) (by omega) x
theorem pu_its_14 (σ : qm_M) {a : Nat} (h : a ≤ 12) : fn_X7_its σ (nI a) 14 = some (σ.2 211 (16 * a + 14)) := pu_its σ (b := 14) (by omega)
theorem pu_puts_14 (σ : qm_M) {a : Nat} (h : a ≤ 12) (x : Int64) : fn_X7_puts σ (nI a) 14 x = some (qm_sl σ 211 (16 * a + 14) x) := pu_puts σ (b := 14) (by omega) x
theorem pu_its_15 (σ : qm_M) {a : Nat} (h : a ≤ 12) : fn_X7_its σ (nI a) 15 = some (σ.2 211 (16 * a + 15)) := pu_its σ (b := 15) (by omega)
theorem pu_puts_15 (σ : qm_M) {a : Nat} (h : a ≤ 12) (x : Int64) : fn_X7_puts σ (nI a) 15 x = some (qm_sl σ 211 (16 * a + 15) x) := pu_puts σ (b := 15) (by omega) x
theorem pu_m_in (σ : qm_M) (v : Int32) (a b : Int64) (x y : Int32) (ha : x.toInt64 = a) (hb : y.toInt64 = b) : fn_X7_in σ v.toInt64 a b = some (decide (x ≤ v) && decide (v ≤ y)) := by
  subst ha hb
  unfold fn_X7_in
  have h1 : (lg_cmp v.toInt64 x.toInt64 < 0) ↔ v < x := (lg_cmp_lt _ _).trans (pu_64lt _ _)
  have h2 : (0 < lg_cmp v.toInt64 y.toInt64) ↔ y < v := (lg_cmp_gt _ _).trans (pu_64lt _ _)
  have n1 : ¬ v < x ↔ x ≤ v := by rw [Int32.lt_iff_toInt_lt, Int32.le_iff_toInt_le]; omega
  have n2 : ¬ y < v ↔ v ≤ y := by rw [Int32.lt_iff_toInt_lt, Int32.le_iff_toInt_le]; omega
  by_cases c1 : v < x
  · rw [if_pos (h1.mpr c1), decide_eq_false (fun q => (n1.mpr q) c1)]; rfl
  · rw [if_neg (fun q => c1 (h1.mp q)), decide_eq_true (n1.mp c1)]
    by_cases c2 : y < v
    · rw [if_pos (h2.mpr c2), decide_eq_false (fun q => (n2.mpr q) c2)]; rfl
    · rw [if_neg (fun q => c2 (h2.mp q)), decide_eq_true (n2.mp c2)]; rfl
theorem pu_c_within (σ : qm_M) (v a b : Int32) : fn_X6_within σ v a b = some (decide (a ≤ v) && decide (v ≤ b)) := by
  unfold fn_X6_within
  have n1 : ¬ a ≤ v ↔ v < a := by rw [Int32.lt_iff_toInt_lt, Int32.le_iff_toInt_le]; omega
  have n2 : ¬ b < v ↔ v ≤ b := by rw [Int32.lt_iff_toInt_lt, Int32.le_iff_toInt_le]; omega
  by_cases c1 : a ≤ v
  · simp only [decide_eq_true c1]
    by_cases c2 : v ≤ b
    · simp [c2, show ¬ v < a from fun q => (n1.mpr q) c1, show ¬ b < v from n2.mpr c2]
    · simp [c2, show ¬ v < a from fun q => (n1.mpr q) c1, show b < v from Classical.byContradiction fun q => c2 (n2.mp q)]
  · simp [c1, n1.mp c1]
