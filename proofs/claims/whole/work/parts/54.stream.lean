-- ===== one stream of the text =====
def PN (c : Nat) (nm wt pa : Nat → Nat) : Prop := c ≤ 12 ∧ (∀ i, i < c → 1 ≤ nm i ∧ nm i ≤ 12 ∧ 1 ≤ wt i ∧ wt i ≤ 16 ∧ (pa i = 0 ∨ ∃ j, j < i ∧ nm j = pa i)) ∧ ∀ i j, i < j → j < c → nm i ≠ nm j
def PA (σ : qm_M) (c : Nat) (nm wt pa : Nat → Nat) : Prop := σ.1 202 5 = nI c ∧ (∀ i, i < c → σ.1 204 i = nI (nm i) ∧ σ.1 205 i = nI (wt i) ∧ σ.1 206 i = nI (pa i) ∧ σ.1 207 (nm i) = nI (pa i)) ∧ ∀ k, k < 32 → (bt (σ.1 202 7) k = true ↔ ∃ i, i < c ∧ nm i = k)
def PB (τ : qm_M) (c : Nat) (nm wt pa : Nat → Nat) : Prop := τ.1 210 10 = nI c ∧ ∀ i, i < c → τ.1 215 i = nI (nm i) ∧ τ.1 216 i = nI (wt i) ∧ τ.1 217 i = nI (pa i)
theorem PA.si {σ : qm_M} {c : Nat} {nm wt pa : Nat → Nat} (h : PA σ c nm wt pa) {k : Nat} (x : Int32) (hk : k = 8 ∨ k = 9) : PA (qm_si σ 202 k x) c nm wt pa := by
  obtain ⟨a1, a2, a3⟩ := h
  refine ⟨by rw [qm_si_at, if_neg (by omega)]; exact a1, fun i hi => ?_, fun j hj => ?_⟩
  · rw [qm_si_ne _ _ _ (by omega), qm_si_ne _ _ _ (by omega), qm_si_ne _ _ _ (by omega), qm_si_ne _ _ _ (by omega)]; exact a2 i hi
  · rw [qm_si_at, if_neg (by omega)]; exact a3 j hj
theorem PB.si {τ : qm_M} {c : Nat} {nm wt pa : Nat → Nat} (h : PB τ c nm wt pa) {id k : Nat} (x : Int32) (hk : (id = 210 ∧ (k = 8 ∨ k = 9)) ∨ (215 ≤ id ∧ id ≤ 217 ∧ c ≤ k)) : PB (qm_si τ id k x) c nm wt pa := by
  obtain ⟨a1, a2⟩ := h
  refine ⟨?_, fun i hi => ?_⟩
  · unfold qm_si; dsimp only; rw [if_neg (by omega)]; exact a1
  · unfold qm_si; dsimp only; rw [if_neg (by omega), if_neg (by omega), if_neg (by omega)]; exact a2 i hi
def pu_u (f : Nat → Nat) (c x : Nat) : Nat → Nat := fun i => if i = c then x else f i
theorem pu_u_c (f : Nat → Nat) (c x : Nat) : pu_u f c x c = x := if_pos rfl
theorem pu_u_n (f : Nat → Nat) {c i : Nat} (x : Nat) (h : i ≠ c) : pu_u f c x i = f i := if_neg h
theorem PN.add {c : Nat} {nm wt pa : Nat → Nat} (h : PN c nm wt pa) {v w a : Nat} (v1 : 1 ≤ v) (v2 : v ≤ 12) (w1 : 1 ≤ w) (w2 : w ≤ 16) (ha : a = 0 ∨ ∃ i, i < c ∧ nm i = a) (nv : ∀ i, i < c → nm i ≠ v) : c < 12 ∧ PN (c + 1) (pu_u nm c v) (pu_u wt c w) (pu_u pa c a) := by
  obtain ⟨h1, h2, h3⟩ := h
  have c12 : c < 12 := by
    rcases Nat.lt_or_ge c 12 with q | q
    · exact q
    · exfalso
      have hc : c = 12 := by omega
      have := fb_holes 12 13 (fun i => pu_u nm c v i - 1) (fun i hi => ?_) (fun i j hij hj => ?_)
      · omega
      · show pu_u nm c v i - 1 < 12
        by_cases e : i = c
        · rw [e, pu_u_c]; omega
        · rw [pu_u_n nm v e]; have := h2 i (by omega); omega
      · show pu_u nm c v i - 1 ≠ pu_u nm c v j - 1
        rw [pu_u_n nm v (show i ≠ c by omega)]
        have bi := h2 i (by omega)
        by_cases e : j = c
        · rw [e, pu_u_c]
          have := nv i (by omega)
          omega
        · rw [pu_u_n nm v e]
          have bj := h2 j (by omega)
          have := h3 i j hij (by omega)
          omega
  refine ⟨c12, by omega, fun i hi => ?_, fun i j hij hj => ?_⟩
  · by_cases e : i = c
    · subst e
      rw [pu_u_c, pu_u_c, pu_u_c]
      refine ⟨v1, v2, w1, w2, ha.imp id (fun ⟨j, j1, j2⟩ => ⟨j, j1, by rw [pu_u_n nm v (by omega)]; exact j2⟩)⟩
    · rw [pu_u_n nm v e, pu_u_n wt w e, pu_u_n pa a e]
      obtain ⟨b1, b2, b3, b4, b5⟩ := h2 i (by omega)
      exact ⟨b1, b2, b3, b4, b5.imp id (fun ⟨j, j1, j2⟩ => ⟨j, j1, by rw [pu_u_n nm v (by omega)]; exact j2⟩)⟩
  · rw [pu_u_n nm v (show i ≠ c by omega)]
    by_cases e : j = c
    · rw [e, pu_u_c]; exact nv i (by omega)
    · rw [pu_u_n nm v e]; exact h3 i j hij (by omega)
theorem pc_keep {σ : qm_M} {c : Nat} {nm wt pa : Nat → Nat} (h : PA σ c nm wt pa) (c12 : c < 12) {v w a : Nat} (v2 : v ≤ 12) (nv : ∀ i, i < c → nm i ≠ v) : ∃ σ', fn_X5_keepStream σ (nI v) (nI w) (nI a) = some σ' ∧ PA σ' (c + 1) (pu_u nm c v) (pu_u wt c w) (pu_u pa c a) ∧ FP σ σ' ∧ σ'.1 202 8 = σ.1 202 8 ∧ σ'.1 202 9 = σ.1 202 9 := by
  obtain ⟨a1, a2, a3⟩ := h
  refine ⟨qm_si (qm_si (qm_si (qm_si (qm_si (qm_si σ 204 c (nI v)) 205 c (nI w)) 206 c (nI a)) 202 5 (nI (c + 1))) 207 v (nI a)) 202 7 (σ.1 202 7 ||| (1 <<< (nI v &&& 31))), ?_, ⟨?_, fun i hi => ?_, fun k hk => ?_⟩, ?_, ?_, ?_⟩
  · have r1 : (qm_si σ 204 c (nI v)).1 202 5 = nI c := by rw [qm_si_ne _ _ _ (by omega)]; exact a1
    have r2 : (qm_si (qm_si σ 204 c (nI v)) 205 c (nI w)).1 202 5 = nI c := by rw [qm_si_ne _ _ _ (by omega)]; exact r1
    have r3 : (qm_si (qm_si (qm_si σ 204 c (nI v)) 205 c (nI w)) 206 c (nI a)).1 202 5 = nI c := by rw [qm_si_ne _ _ _ (by omega)]; exact r2
    unfold fn_X5_keepStream bb_X5_keepStream_49
    have ic := pu_in (show c < 12 by omega) (by omega : 12 < 2147483648)
    rw [a1, if_neg (show ¬ (12 : Int32) ≤ nI c by show ¬ nI 12 ≤ nI c; rw [pu_le (by omega) (by omega)]; omega), if_pos ic, pu_clamp (by omega), Option.bind_some, r1, if_pos ic, pu_clamp (by omega), Option.bind_some, r2, if_pos ic, pu_clamp (by omega), Option.bind_some, r3, pu_s1, Option.bind_some, if_pos (pu_in (show v < 13 by omega) (by omega)), pu_clamp (by omega), Option.bind_some]
    have r7 : (qm_si (qm_si (qm_si (qm_si (qm_si σ 204 c (nI v)) 205 c (nI w)) 206 c (nI a)) 202 5 (nI (c + 1))) 207 v (nI a)).1 202 7 = σ.1 202 7 := by
      rw [qm_si_ne _ _ _ (by omega), qm_si_at, if_neg (by omega), qm_si_ne _ _ _ (by omega), qm_si_ne _ _ _ (by omega), qm_si_ne _ _ _ (by omega)]
    rw [r7]; rfl
  · rw [qm_si_at, if_neg (by omega), qm_si_ne _ _ _ (by omega), qm_si_at, if_pos rfl]
  · have e4 : (qm_si (qm_si (qm_si (qm_si (qm_si (qm_si σ 204 c (nI v)) 205 c (nI w)) 206 c (nI a)) 202 5 (nI (c + 1))) 207 v (nI a)) 202 7 (σ.1 202 7 ||| (1 <<< (nI v &&& 31)))).1 204 i = if i = c then nI v else σ.1 204 i := by
      rw [qm_si_ne _ _ _ (by omega), qm_si_ne _ _ _ (by omega), qm_si_ne _ _ _ (by omega), qm_si_ne _ _ _ (by omega), qm_si_ne _ _ _ (by omega), qm_si_at]
    have e5 : (qm_si (qm_si (qm_si (qm_si (qm_si (qm_si σ 204 c (nI v)) 205 c (nI w)) 206 c (nI a)) 202 5 (nI (c + 1))) 207 v (nI a)) 202 7 (σ.1 202 7 ||| (1 <<< (nI v &&& 31)))).1 205 i = if i = c then nI w else σ.1 205 i := by
      rw [qm_si_ne _ _ _ (by omega), qm_si_ne _ _ _ (by omega), qm_si_ne _ _ _ (by omega), qm_si_ne _ _ _ (by omega), qm_si_at, qm_si_ne _ _ _ (by omega)]
    have e6 : (qm_si (qm_si (qm_si (qm_si (qm_si (qm_si σ 204 c (nI v)) 205 c (nI w)) 206 c (nI a)) 202 5 (nI (c + 1))) 207 v (nI a)) 202 7 (σ.1 202 7 ||| (1 <<< (nI v &&& 31)))).1 206 i = if i = c then nI a else σ.1 206 i := by
      rw [qm_si_ne _ _ _ (by omega), qm_si_ne _ _ _ (by omega), qm_si_ne _ _ _ (by omega), qm_si_at, qm_si_ne _ _ _ (by omega), qm_si_ne _ _ _ (by omega)]
    have e7 : ∀ k, (qm_si (qm_si (qm_si (qm_si (qm_si (qm_si σ 204 c (nI v)) 205 c (nI w)) 206 c (nI a)) 202 5 (nI (c + 1))) 207 v (nI a)) 202 7 (σ.1 202 7 ||| (1 <<< (nI v &&& 31)))).1 207 k = if k = v then nI a else σ.1 207 k := fun k => by
      rw [qm_si_ne _ _ _ (by omega), qm_si_at, qm_si_ne _ _ _ (by omega), qm_si_ne _ _ _ (by omega), qm_si_ne _ _ _ (by omega), qm_si_ne _ _ _ (by omega)]
    rw [e4, e5, e6, e7]
    by_cases e : i = c
    · subst e
      rw [if_pos rfl, if_pos rfl, if_pos rfl, pu_u_c, pu_u_c, pu_u_c, if_pos rfl]
      exact ⟨rfl, rfl, rfl, rfl⟩
    · rw [if_neg e, if_neg e, if_neg e, pu_u_n nm v e, pu_u_n wt w e, pu_u_n pa a e, if_neg (nv i (by omega))]
      exact a2 i (by omega)
  · rw [qm_si_at, if_pos rfl, b_or, pu_bit (by omega) hk, Bool.or_eq_true, a3 k hk]
    constructor
    · intro q
      rcases q with ⟨i, i1, i2⟩ | q
      · exact ⟨i, by omega, by rw [pu_u_n nm v (by omega)]; exact i2⟩
      · exact ⟨c, by omega, by rw [pu_u_c]; exact (of_decide_eq_true q).symm⟩
    · intro ⟨i, i1, i2⟩
      by_cases e : i = c
      · right; rw [e, pu_u_c] at i2; exact decide_eq_true i2.symm
      · left; rw [pu_u_n nm v e] at i2; exact ⟨i, by omega, i2⟩
  · exact (((((FP.si _ _ (Or.inr ⟨by omega, by omega⟩)).tr (FP.si _ _ (Or.inr ⟨by omega, by omega⟩))).tr (FP.si _ _ (Or.inr ⟨by omega, by omega⟩))).tr (FP.si _ _ (Or.inl ⟨rfl, by omega⟩))).tr (FP.si _ _ (Or.inr ⟨by omega, by omega⟩))).tr (FP.si _ _ (Or.inl ⟨rfl, by omega⟩))
  · rw [qm_si_at, if_neg (by omega), qm_si_ne _ _ _ (by omega), qm_si_at, if_neg (by omega), qm_si_ne _ _ _ (by omega), qm_si_ne _ _ _ (by omega), qm_si_ne _ _ _ (by omega)]
  · rw [qm_si_at, if_neg (by omega), qm_si_ne _ _ _ (by omega), qm_si_at, if_neg (by omega), qm_si_ne _ _ _ (by omega), qm_si_ne _ _ _ (by omega), qm_si_ne _ _ _ (by omega)]
