-- ===== reading the text =====
def TP (σ : qm_M) (n : Nat) (tb : Nat → Nat) : Prop := n ≤ 120 ∧ σ.1 202 1 = nI n ∧ ∀ i, i < n → σ.1 203 i = nI (tb i)
def TM (τ : qm_M) (n : Nat) (tb : Nat → Nat) : Prop := n ≤ 120 ∧ τ.1 210 7 = nI n ∧ ∀ i, i < n → τ.1 214 i = nI (tb i)
def pu_at (tb : Nat → Nat) (n p : Nat) : Int32 := if p < n then nI (tb p) else -1
def pu_skf (tb : Nat → Nat) (n : Nat) : Nat → Nat → Nat
  | 0, p => p
  | m + 1, p => if p < n ∧ tb p = 32 then pu_skf tb n m (p + 1) else p
def pu_sk (tb : Nat → Nat) (n p : Nat) : Nat := pu_skf tb n (n - p) p
theorem pu_sk_b {tb : Nat → Nat} {n : Nat} : ∀ m p, p + m = n → p ≤ pu_skf tb n m p ∧ pu_skf tb n m p ≤ n ∧ ¬ (pu_skf tb n m p < n ∧ tb (pu_skf tb n m p) = 32)
  | 0, p, h => ⟨Nat.le_refl _, (by show p ≤ n; omega), (fun q => by have : p < n := q.1; omega)⟩
  | m + 1, p, h => by
    unfold pu_skf
    by_cases c : p < n ∧ tb p = 32
    · rw [if_pos c]
      have := pu_sk_b (tb := tb) (n := n) m (p + 1) (by omega)
      exact ⟨by omega, this.2⟩
    · rw [if_neg c]; exact ⟨Nat.le_refl _, by omega, c⟩
theorem pu_sk_le {tb : Nat → Nat} {n p : Nat} (h : p ≤ n) : p ≤ pu_sk tb n p ∧ pu_sk tb n p ≤ n ∧ ¬ (pu_sk tb n p < n ∧ tb (pu_sk tb n p) = 32) := pu_sk_b (n - p) p (by omega)
theorem pu_sk_st {tb : Nat → Nat} {n p : Nat} (h : p < n) (h32 : tb p = 32) : pu_sk tb n p = pu_sk tb n (p + 1) := by
  unfold pu_sk
  rw [show n - p = (n - (p + 1)) + 1 by omega]
  conv => lhs; unfold pu_skf
  rw [if_pos ⟨h, h32⟩]
theorem pu_sk_no {tb : Nat → Nat} {n p : Nat} (h : ¬ (p < n ∧ tb p = 32)) : pu_sk tb n p = p := by
  unfold pu_sk
  cases n - p with
  | zero => rfl
  | succ m => unfold pu_skf; rw [if_neg h]
theorem pu_sk_id {tb : Nat → Nat} {n p : Nat} (h : p ≤ n) : pu_sk tb n (pu_sk tb n p) = pu_sk tb n p := pu_sk_no (pu_sk_le h).2.2
theorem pu_si_id (σ : qm_M) {id k : Nat} {x : Int32} (h : σ.1 id k = x) : qm_si σ id k x = σ := by
  refine Prod.ext ?_ rfl
  funext i j
  unfold qm_si
  dsimp only
  by_cases c : i = id ∧ j = k
  · rw [if_pos c, c.1, c.2, h]
  · rw [if_neg c]
theorem pc_byteHere {σ : qm_M} {n p : Nat} {tb : Nat → Nat} (T : TP σ n tb) (hp : σ.1 202 8 = nI p) (h : p ≤ n) : fn_X5_byteHere σ = some (pu_at tb n p) := by
  obtain ⟨n1, t1, t2⟩ := T
  unfold fn_X5_byteHere pu_at
  rw [t1, hp]
  by_cases c : p < n
  · rw [if_neg (by rw [pu_le (by omega) (by omega)]; omega), if_pos (pu_in (show p < 120 by omega) (by omega)), pu_clamp (by omega), t2 p c, if_pos c]
  · rw [if_pos ((pu_le (by omega) (by omega)).mpr (by omega)), if_neg c]
theorem TP.si {σ : qm_M} {n : Nat} {tb : Nat → Nat} (T : TP σ n tb) {id k : Nat} (x : Int32) (h : id ≠ 203) (h2 : ¬ (id = 202 ∧ k = 1)) : TP (qm_si σ id k x) n tb := by
  obtain ⟨n1, t1, t2⟩ := T
  refine ⟨n1, ?_, fun i hi => by rw [qm_si_ne _ _ _ (by omega)]; exact t2 i hi⟩
  unfold qm_si; dsimp only; rw [if_neg (by omega)]; exact t1
theorem TM.si {τ : qm_M} {n : Nat} {tb : Nat → Nat} (T : TM τ n tb) {id k : Nat} (x : Int32) (h : id ≠ 214) (h2 : ¬ (id = 210 ∧ k = 7)) : TM (qm_si τ id k x) n tb := by
  obtain ⟨n1, t1, t2⟩ := T
  refine ⟨n1, ?_, fun i hi => by rw [qm_si_ne _ _ _ (by omega)]; exact t2 i hi⟩
  unfold qm_si; dsimp only; rw [if_neg (by omega)]; exact t1
theorem pu_at32 {tb : Nat → Nat} {n p : Nat} (hb : ∀ i, i < n → tb i < 128) : (pu_at tb n p = 32) ↔ (p < n ∧ tb p = 32) := by
  unfold pu_at
  by_cases c : p < n
  · rw [if_pos c, show (32 : Int32) = nI 32 from rfl, pu_eq (by have := hb p c; omega) (by omega)]
    exact ⟨fun h => ⟨c, h⟩, fun h => h.2⟩
  · rw [if_neg c]
    exact ⟨fun h => absurd h (by decide), fun h => absurd h.1 c⟩
theorem pc_blanks {σ : qm_M} {n p : Nat} {tb : Nat → Nat} (T : TP σ n tb) (hb : ∀ i, i < n → tb i < 128) (hp : σ.1 202 8 = nI p) (h : p ≤ n) : fn_X5_byteBehindBlanks σ = some (pu_at tb n (pu_sk tb n p), qm_si σ 202 8 (nI (pu_sk tb n p))) := by
  have key : ∀ m i p, p + m = n → i ≤ p → ∀ N, m < N → qm_loop (fun s : Int32 × qm_M => bb_X5_byteBehindBlanks_2 s.2 s.1) N (nI i, qm_si σ 202 8 (nI p)) = some (pu_at tb n (pu_sk tb n p), qm_si σ 202 8 (nI (pu_sk tb n p))) := by
    have n1 := T.1
    intro m
    induction m with
    | zero =>
      intro i p pm ip N hN
      obtain ⟨N, rfl⟩ : ∃ q, N = q + 1 := ⟨N - 1, by omega⟩
      have e8 : (qm_si σ 202 8 (nI p)).1 202 8 = nI p := by rw [qm_si_at, if_pos rfl]
      have T' : TP (qm_si σ 202 8 (nI p)) n tb := T.si _ (by omega) (by omega)
      have bh := pc_byteHere T' e8 (by omega)
      have c : ¬ (p < n ∧ tb p = 32) := fun q => by omega
      rw [pu_sk_no c]
      refine pu_inr ?_
      show bb_X5_byteBehindBlanks_2 (qm_si σ 202 8 (nI p)) (nI i) = _
      unfold bb_X5_byteBehindBlanks_2
      rw [bh]
      simp only [Option.bind_some]
      rw [if_neg (fun q => c ((pu_at32 hb).mp q))]
      split <;> rfl
    | succ m ih =>
      intro i p pm ip N hN
      obtain ⟨N, rfl⟩ : ∃ q, N = q + 1 := ⟨N - 1, by omega⟩
      have e8 : (qm_si σ 202 8 (nI p)).1 202 8 = nI p := by rw [qm_si_at, if_pos rfl]
      have T' : TP (qm_si σ 202 8 (nI p)) n tb := T.si _ (by omega) (by omega)
      have bh := pc_byteHere T' e8 (by omega)
      by_cases c : p < n ∧ tb p = 32
      · rw [pu_sk_st c.1 c.2, ← ih (i + 1) (p + 1) (by omega) (by omega) N (by omega)]
        refine pu_inl ?_
        show bb_X5_byteBehindBlanks_2 (qm_si σ 202 8 (nI p)) (nI i) = _
        unfold bb_X5_byteBehindBlanks_2
        rw [bh]
        simp only [Option.bind_some]
        rw [if_neg (show ¬ (120 : Int32) ≤ nI i by show ¬ nI 120 ≤ nI i; rw [pu_le (by omega) (by omega)]; omega), if_pos ((pu_at32 hb).mpr c), e8, pu_s1, pu_s1, pu_si_si]
      · rw [pu_sk_no c]
        refine pu_inr ?_
        show bb_X5_byteBehindBlanks_2 (qm_si σ 202 8 (nI p)) (nI i) = _
        unfold bb_X5_byteBehindBlanks_2
        rw [bh]
        simp only [Option.bind_some]
        rw [if_neg (fun q => c ((pu_at32 hb).mp q))]
        split <;> rfl
  have := key (n - p) 0 p (by omega) (by omega) 1000 (by have := T.1; omega)
  rw [pu_si_id σ hp] at this
  exact this
theorem pm_blanks {τ : qm_M} {n p : Nat} {tb : Nat → Nat} (T : TM τ n tb) (hb : ∀ i, i < n → tb i < 128) (hp : τ.1 210 8 = nI p) (h : p ≤ n) : fn_X7_here τ = some (pu_at tb n (pu_sk tb n p), qm_si τ 210 8 (nI (pu_sk tb n p))) := by
  have key : ∀ m p, p + m = n → ∀ N, m < N → qm_loop (fun s : qm_M => bb_X7_here_0 s) N (qm_si τ 210 8 (nI p)) = some (pu_at tb n (pu_sk tb n p), qm_si τ 210 8 (nI (pu_sk tb n p))) := by
    have n1 := T.1
    have h38 : ∀ p, p ≤ n → bb_X7_here_38 (qm_si τ 210 8 (nI p)) = some (pu_at tb n p, qm_si τ 210 8 (nI p)) := by
      intro p hp
      have e8 : (qm_si τ 210 8 (nI p)).1 210 8 = nI p := by rw [qm_si_at, if_pos rfl]
      have T' : TM (qm_si τ 210 8 (nI p)) n tb := T.si _ (by omega) (by omega)
      unfold bb_X7_here_38 pu_at
      rw [T'.2.1, e8]
      by_cases c : p < n
      · rw [if_neg (by rw [pu_le (by omega) (by omega)]; omega), if_pos (pu_in (show p < 120 by omega) (by omega)), pu_clamp (by omega), T'.2.2 p c, if_pos c]
      · rw [if_pos ((pu_le (by omega) (by omega)).mpr (by omega)), if_neg c]
    intro m
    induction m with
    | zero =>
      intro p pm N hN
      obtain ⟨N, rfl⟩ : ∃ q, N = q + 1 := ⟨N - 1, by omega⟩
      have e8 : (qm_si τ 210 8 (nI p)).1 210 8 = nI p := by rw [qm_si_at, if_pos rfl]
      have T' : TM (qm_si τ 210 8 (nI p)) n tb := T.si _ (by omega) (by omega)
      rw [pu_sk_no (fun q => by omega)]
      refine pu_inr ?_
      unfold bb_X7_here_0
      rw [T'.2.1, e8, if_pos ((pu_le (by omega) (by omega)).mpr (by omega)), h38 p (by omega)]; rfl
    | succ m ih =>
      intro p pm N hN
      obtain ⟨N, rfl⟩ : ∃ q, N = q + 1 := ⟨N - 1, by omega⟩
      have e8 : (qm_si τ 210 8 (nI p)).1 210 8 = nI p := by rw [qm_si_at, if_pos rfl]
      have T' : TM (qm_si τ 210 8 (nI p)) n tb := T.si _ (by omega) (by omega)
      have c0 : p < n := by omega
      have bp := hb p c0
      by_cases c : tb p = 32
      · rw [pu_sk_st c0 c, ← ih (p + 1) (by omega) N (by omega)]
        refine pu_inl ?_
        unfold bb_X7_here_0
        rw [T'.2.1, e8, if_neg (by rw [pu_le (by omega) (by omega)]; omega), if_pos (pu_in (show p < 120 by omega) (by omega)), pu_clamp (by omega), T'.2.2 p c0, if_pos (by rw [c]; rfl), pu_s1, pu_si_si]; rfl
      · rw [pu_sk_no (fun q => c q.2)]
        refine pu_inr ?_
        unfold bb_X7_here_0
        rw [T'.2.1, e8, if_neg (by rw [pu_le (by omega) (by omega)]; omega), if_pos (pu_in (show p < 120 by omega) (by omega)), pu_clamp (by omega), T'.2.2 p c0, if_neg (show ¬ nI (tb p) = 32 by show ¬ _ = nI 32; rw [pu_eq (by omega) (by omega)]; exact c), h38 p (by omega)]; rfl
  have := key (n - p) p (by omega) 1000 (by have := T.1; omega)
  rw [pu_si_id τ hp] at this
  exact this
