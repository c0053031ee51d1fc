def RO (n : Nat) (σ τ : qm_M) (x : Option (Int32 × qm_M)) (y : Option (Bool × qm_M)) : Prop :=
  (∃ σ' τ' c nm wt pa, x = some (-1, σ') ∧ y = some (true, τ') ∧ PA σ' c nm wt pa ∧ PB τ' c nm wt pa ∧ PN c nm wt pa ∧ FP σ σ' ∧ FM τ τ') ∨ (∃ σ' τ' q, q ≤ n ∧ x = some (nI q, σ') ∧ y = some (false, τ') ∧ τ'.1 210 8 = nI q ∧ FP σ σ' ∧ FM τ τ')
theorem RO.pre {n : Nat} {σ σ1 τ τ1 : qm_M} {x : Option (Int32 × qm_M)} {y : Option (Bool × qm_M)} (h : RO n σ1 τ1 x y) (f : FP σ σ1) (g : FM τ τ1) : RO n σ τ x y := by
  rcases h with ⟨a, b, c, nm, wt, pa, h1, h2, h3, h4, h5, h6, h7⟩ | ⟨a, b, q, h1, h2, h3, h4, h5, h6⟩
  · exact Or.inl ⟨a, b, c, nm, wt, pa, h1, h2, h3, h4, h5, f.tr h6, g.tr h7⟩
  · exact Or.inr ⟨a, b, q, h1, h2, h3, h4, f.tr h5, g.tr h6⟩
abbrev pu_PL (N : Nat) (s : Int32 × Int32 × Int32 × Int32 × Int32 × qm_M) : Option (Int32 × qm_M) := qm_loop (fun s : Int32 × Int32 × Int32 × Int32 × Int32 × qm_M => bb_X5_read_32 s.2.2.2.2.2 s.1 s.2.1 s.2.2.1 s.2.2.2.1 s.2.2.2.2.1) N s
abbrev pu_ML (N : Nat) (s : Int32 × Int32 × qm_M) : Option (Bool × qm_M) := qm_loop (fun s : Int32 × Int32 × qm_M => bb_X7_isRead_14 s.2.2 s.1 s.2.1) N s
def pu_MC (N : Nat) : ((Int32 × Int32 × qm_M) ⊕ (Bool × qm_M)) → Option (Bool × qm_M)
  | .inl s => pu_ML N s
  | .inr r => some r
theorem pu_MLb (N : Nat) (x y : Int32) (τ : qm_M) : pu_ML (N + 1) (x, y, τ) = (bb_X7_isRead_14 τ x y).bind (pu_MC N) := by
  show qm_loop _ (N + 1) (x, y, τ) = _
  conv => lhs; unfold qm_loop
  cases bb_X7_isRead_14 τ x y with
  | none => rfl
  | some r => cases r <;> rfl
/-- behind a stream -/
def pu_mid (τ : qm_M) (a : Int32) (N : Nat) : Option (Bool × qm_M) := ((fn_X7_here τ).bind (fun r4 => if r4.1 = 40 then bb_X7_isRead_86 r4.2 a 1 else bb_X7_isRead_86 r4.2 a 0)).bind (pu_MC N)
def S0 (n : Nat) (tb : Nat → Nat) (m : Nat) : Prop := ∀ (p0 q0 a k c v2 : Nat) (w : Int32) (mo mc : Bool) (nm wt pa : Nat → Nat) (σ τ : qm_M) (N M : Nat), p0 ≤ n → n - p0 = m → TP σ n tb → TM τ n tb → σ.1 202 8 = nI p0 → σ.1 202 9 = -1 → PA σ c nm wt pa → PB τ c nm wt pa → PN c nm wt pa → (a = 0 ∨ ∃ i, i < c ∧ nm i = a) → k ≤ p0 → m < N → m + 1 < M → τ.1 210 8 = nI q0 → q0 ≤ n → pu_sk tb n q0 = pu_sk tb n p0 → (mo = false ∨ ¬ pu_at tb n (pu_sk tb n p0) = 40) → ((v2 = 0 ∧ mc = decide (a ≠ 0)) ∨ (v2 = 1 ∧ mc = false ∧ a ≠ 0)) → RO n σ τ (pu_PL N (nI a, w, qm_b mo, qm_b mc, nI k, σ)) (pu_ML M (nI a, nI v2, τ))
def S1 (n : Nat) (tb : Nat → Nat) (m : Nat) : Prop := ∀ (p0 a k c : Nat) (nm wt pa : Nat → Nat) (σ τ : qm_M) (N M : Nat), p0 ≤ n → n - p0 = m → TP σ n tb → TM τ n tb → σ.1 202 8 = nI p0 → σ.1 202 9 = -1 → PA σ (c + 1) nm wt pa → PB τ (c + 1) nm wt pa → PN (c + 1) nm wt pa → (a = 0 ∨ ∃ i, i < c + 1 ∧ nm i = a) → k ≤ p0 → m < N → m + 1 < M → τ.1 210 8 = nI p0 → RO n σ τ (pu_PL N (nI a, nI (nm c), 1, qm_b (decide (a ≠ 0)), nI k, σ)) (pu_mid τ (nI a) M)
theorem pu_atk {tb : Nat → Nat} {n p k : Nat} (hb : ∀ i, i < n → tb i < 128) (hk : k < 128) : (pu_at tb n p = nI k) ↔ (p < n ∧ tb p = k) := by
  unfold pu_at
  by_cases c : p < n
  · rw [if_pos c, pu_eq (by have := hb p c; omega) (by omega)]
    exact ⟨fun h => ⟨c, h⟩, fun h => h.2⟩
  · rw [if_neg c]
    exact ⟨fun h => absurd h.symm (pu_m1 (by omega)), fun h => absurd h.1 c⟩
theorem pu_S1_of {n : Nat} {tb : Nat → Nat} (hb : ∀ i, i < n → tb i < 128) {m : Nat} (h0 : ∀ j, j ≤ m → S0 n tb j) : S1 n tb m := by
  intro p0 a k c nm wt pa σ τ N M p0n hm T U hp hf A Bt D ha kp hN hM hq
  have n1 := T.1
  have skb := pu_sk_le (tb := tb) p0n
  unfold pu_mid
  rw [pm_blanks U hb hq p0n, Option.bind_some]
  dsimp only
  have F1 : FM τ (qm_si τ 210 8 (nI (pu_sk tb n p0))) := FM.si τ _ (Or.inl ⟨rfl, by omega⟩)
  by_cases c40 : pu_at tb n (pu_sk tb n p0) = 40
  · rw [if_pos c40]
    obtain ⟨pl, tp⟩ := (pu_atk (k := 40) hb (by omega)).mp c40
    obtain ⟨N, rfl⟩ : ∃ q, N = q + 1 := ⟨N - 1, by omega⟩
    have hfg : pu_fg tb n (pu_sk tb n p0) = false := by
      unfold pu_fg
      rw [tp, decide_eq_true pl]; rfl
    have st : bb_X5_read_32 σ (nI a) (nI (nm c)) 1 (qm_b (decide (a ≠ 0))) (nI k) = some (.inl (nI (nm c), nI (nm c), 0, 0, nI (k + 1), qm_si σ 202 8 (nI (pu_sk tb n p0 + 1)))) := by
      unfold bb_X5_read_32
      rw [if_neg (show ¬ (120 : Int32) ≤ nI k by show ¬ nI 120 ≤ nI k; rw [pu_le (by omega) (by omega)]; omega), pc_blanks T hb hp p0n, Option.bind_some]
      dsimp only
      rw [if_neg (by rw [c40]; decide), pc_isFigure _ hb, hfg, Option.bind_some, pu_iff, if_pos c40, if_neg (by decide), qm_si_at, if_pos rfl, pu_s1, pu_s1, pu_si_si]; rfl
    have e10 : (qm_si (qm_si τ 210 8 (nI (pu_sk tb n p0))) 210 8 (nI (pu_sk tb n p0 + 1))).1 210 10 = nI (c + 1) := by
      rw [qm_si_at, if_neg (by omega), qm_si_at, if_neg (by omega)]; exact Bt.1
    have c12 := D.1
    have md : bb_X7_isRead_86 (qm_si τ 210 8 (nI (pu_sk tb n p0))) (nI a) 1 = some (.inl (nI (nm c), nI 1, qm_si τ 210 8 (nI (pu_sk tb n p0 + 1)))) := by
      unfold bb_X7_isRead_86
      rw [if_neg (by decide), qm_si_at, if_pos rfl, pu_s1, Option.bind_some, e10]
      have em : nI (c + 1) - 1 = nI c := nI_pred c
      rw [em, if_pos (pu_in (show c < 12 by omega) (by omega)), pu_clamp (by omega), pu_si_si, qm_si_ne _ _ _ (by omega), (Bt.2 c (by omega)).1]; rfl
    rw [md, Option.bind_some]
    show RO n σ τ (pu_PL (N + 1) _) (pu_ML M (nI (nm c), nI 1, qm_si τ 210 8 (nI (pu_sk tb n p0 + 1))))
    have s1 : pu_PL (N + 1) (nI a, nI (nm c), 1, qm_b (decide (a ≠ 0)), nI k, σ) = pu_PL N (nI (nm c), nI (nm c), qm_b false, qm_b false, nI (k + 1), qm_si σ 202 8 (nI (pu_sk tb n p0 + 1))) := pu_inl st
    rw [s1]
    have bc := (D.2.1 c (by omega)).1
    have o1 : n - (pu_sk tb n p0 + 1) ≤ m := by clear ha; omega
    have o2 : n - (pu_sk tb n p0 + 1) < N := by clear ha; omega
    have o3 : n - (pu_sk tb n p0 + 1) + 1 < M := by clear ha; omega
    refine (h0 (n - (pu_sk tb n p0 + 1)) o1 (pu_sk tb n p0 + 1) (pu_sk tb n p0 + 1) (nm c) (k + 1) (c + 1) 1 (nI (nm c)) false false nm wt pa _ _ N M (by omega) rfl (T.si _ (by omega) (by omega)) (U.si _ (by omega) (by omega)) (by rw [qm_si_at, if_pos rfl]) (by rw [qm_si_at, if_neg (by omega)]; exact hf) (A.si _ (Or.inl rfl)) (Bt.si _ (Or.inl ⟨rfl, Or.inl rfl⟩)) D (Or.inr ⟨c, Nat.lt_succ_self c, rfl⟩) (by clear ha; omega) o2 o3 (by rw [qm_si_at, if_pos rfl]) (by clear ha; omega) rfl (Or.inl rfl) (Or.inr ⟨rfl, rfl, by clear ha; omega⟩)).pre (FP.si σ _ (Or.inl ⟨rfl, by omega⟩)) (FM.si τ _ (Or.inl ⟨rfl, by omega⟩))
  · rw [if_neg c40]
    have md : bb_X7_isRead_86 (qm_si τ 210 8 (nI (pu_sk tb n p0))) (nI a) 0 = some (.inl (nI a, nI 0, qm_si τ 210 8 (nI (pu_sk tb n p0)))) := by
      unfold bb_X7_isRead_86
      rw [if_pos rfl]; rfl
    rw [md, Option.bind_some]
    show RO n σ τ (pu_PL N _) (pu_ML M (nI a, nI 0, qm_si τ 210 8 (nI (pu_sk tb n p0))))
    exact (h0 m (Nat.le_refl _) p0 (pu_sk tb n p0) a k (c + 1) 0 (nI (nm c)) true (decide (a ≠ 0)) nm wt pa σ _ N M p0n hm T (U.si _ (by omega) (by omega)) hp hf A (Bt.si _ (Or.inl ⟨rfl, Or.inl rfl⟩)) D ha kp hN hM (by rw [qm_si_at, if_pos rfl]) skb.2.1 (pu_sk_id p0n) (Or.inr c40) (Or.inl ⟨rfl, rfl⟩)).pre (FP.rf σ) F1
