def pu_fg (tb : Nat → Nat) (n p : Nat) : Bool := decide (p < n) && (decide (48 ≤ tb p) && decide (tb p ≤ 57))
theorem pu_fg_t {tb : Nat → Nat} {n p : Nat} (h : pu_fg tb n p = true) : p < n ∧ 48 ≤ tb p ∧ tb p ≤ 57 := by
  unfold pu_fg at h
  rw [Bool.and_eq_true, Bool.and_eq_true] at h
  exact ⟨of_decide_eq_true h.1, of_decide_eq_true h.2.1, of_decide_eq_true h.2.2⟩
theorem pu_48 {c : Nat} (h : c < 128) : (decide ((48 : Int32) ≤ nI c) && decide (nI c ≤ (57 : Int32))) = (decide (48 ≤ c) && decide (c ≤ 57)) := by
  have e1 : ((48 : Int32) ≤ nI c) ↔ 48 ≤ c := pu_le (a := 48) (by omega) (by omega)
  have e2 : (nI c ≤ (57 : Int32)) ↔ c ≤ 57 := pu_le (b := 57) (by omega) (by omega)
  rw [decide_eq_decide.mpr e1, decide_eq_decide.mpr e2]
theorem pc_isFigure (σ : qm_M) {tb : Nat → Nat} {n : Nat} (hb : ∀ i, i < n → tb i < 128) (p : Nat) : fn_X5_isFigure σ (pu_at tb n p) = some (pu_fg tb n p) := by
  unfold fn_X5_isFigure pu_at pu_fg
  rw [pu_c_within, Option.bind_some]
  by_cases c : p < n
  · rw [if_pos c, decide_eq_true c, Bool.true_and, pu_48 (hb p c)]
  · rw [if_neg c, decide_eq_false c, Bool.false_and]; rfl
theorem pm_isFigure {τ : qm_M} {tb : Nat → Nat} {n : Nat} (T : TM τ n tb) (hb : ∀ i, i < n → tb i < 128) {p : Nat} (hp : p ≤ 121) : fn_X7_isFigure τ (nI p) = some (pu_fg tb n p) := by
  obtain ⟨n1, t1, t2⟩ := T
  unfold fn_X7_isFigure pu_fg
  rw [t1]
  by_cases c : p < n
  · rw [if_neg (by rw [pu_le (by omega) (by omega)]; omega), if_pos (pu_in (show p < 120 by omega) (by omega)), pu_clamp (by omega), t2 p c, pu_m_in τ _ 48 57 48 57 rfl rfl, Option.bind_some, pu_48 (hb p c), decide_eq_true c, Bool.true_and]
    cases (decide (48 ≤ tb p) && decide (tb p ≤ 57))
    · rw [pu_iff]
    · rw [pu_ift]
  · rw [if_pos ((pu_le (by omega) (by omega)).mpr (by omega)), decide_eq_false c, Bool.false_and]
def pu_val (v most q p' : Nat) : Nat ⊕ (Nat × Nat) := if 1 ≤ v ∧ v ≤ most then .inr (v, p') else .inl q
def pu_num (tb : Nat → Nat) (n most p : Nat) : Nat ⊕ (Nat × Nat) := if pu_fg tb n p = true then (if pu_fg tb n (p + 1) = true then (if pu_fg tb n (p + 2) = true then .inl (p + 2) else pu_val (10 * (tb p - 48) + (tb (p + 1) - 48)) most p (p + 2)) else pu_val (tb p - 48) most p (p + 1)) else .inl p
/-- the program's other memory is as before -/
def FP (σ σ' : qm_M) : Prop := σ'.2 = σ.2 ∧ (∀ id, id ≠ 202 → ¬ (204 ≤ id ∧ id ≤ 207) → σ'.1 id = σ.1 id) ∧ σ'.1 202 1 = σ.1 202 1
def FM (τ τ' : qm_M) : Prop := τ'.2 = τ.2 ∧ (∀ id, id ≠ 210 → ¬ (215 ≤ id ∧ id ≤ 217) → τ'.1 id = τ.1 id) ∧ ∀ k, k < 8 → τ'.1 210 k = τ.1 210 k
theorem FP.rf (σ : qm_M) : FP σ σ := ⟨rfl, fun _ _ _ => rfl, rfl⟩
theorem FM.rf (τ : qm_M) : FM τ τ := ⟨rfl, fun _ _ _ => rfl, fun _ _ => rfl⟩
theorem FP.tr {a b c : qm_M} (h : FP a b) (k : FP b c) : FP a c := ⟨k.1.trans h.1, fun id x y => (k.2.1 id x y).trans (h.2.1 id x y), k.2.2.trans h.2.2⟩
theorem FM.tr {a b c : qm_M} (h : FM a b) (k : FM b c) : FM a c := ⟨k.1.trans h.1, fun id x y => (k.2.1 id x y).trans (h.2.1 id x y), fun j hj => (k.2.2 j hj).trans (h.2.2 j hj)⟩
theorem FP.si (σ : qm_M) {id k : Nat} (x : Int32) (h : (id = 202 ∧ k ≠ 1) ∨ (204 ≤ id ∧ id ≤ 207)) : FP σ (qm_si σ id k x) := by
  refine ⟨rfl, fun i h1 h2 => qm_si_ne _ _ _ (by omega), ?_⟩
  unfold qm_si; dsimp only; rw [if_neg (by omega)]
theorem FM.si (τ : qm_M) {id k : Nat} (x : Int32) (h : (id = 210 ∧ 8 ≤ k) ∨ (215 ≤ id ∧ id ≤ 217)) : FM τ (qm_si τ id k x) := by
  refine ⟨rfl, fun i h1 h2 => qm_si_ne _ _ _ (by omega), fun j hj => ?_⟩
  unfold qm_si; dsimp only; rw [if_neg (by omega)]
theorem pu_dig {v c : Nat} (h : 48 ≤ c) : (10 : Int32) * nI v + nI c - 48 = nI (10 * v + (c - 48)) := by
  show nI 10 * nI v + nI c - nI 48 = _
  rw [pk_mul, nI_add, pk_sub (by omega), show 10 * v + c - 48 = 10 * v + (c - 48) by omega]
theorem pc_number {σ : qm_M} {n p most : Nat} {tb : Nat → Nat} (T : TP σ n tb) (hb : ∀ i, i < n → tb i < 128) (hm : most ≤ 16) (hp : σ.1 202 8 = nI p) (hf : σ.1 202 9 = -1) (h : p ≤ n) :
    (∀ v p', pu_num tb n most p = .inr (v, p') → fn_X5_readNumber σ (nI most) = some (nI v, qm_si σ 202 8 (nI p'))) ∧ (∀ q, pu_num tb n most p = .inl q → ∃ σ', fn_X5_readNumber σ (nI most) = some (-1, σ') ∧ σ'.1 202 9 = nI q ∧ FP σ σ') := by
  have n1 := T.1
  -- one figure more
  have step : ∀ j v x, j < 2 → x ≤ n → pu_fg tb n x = true → bb_X5_readNumber_10 (qm_si σ 202 8 (nI x)) (nI most) (nI p) (nI v) (nI j) = some (.inl (nI (10 * v + (tb x - 48)), nI (j + 1), qm_si σ 202 8 (nI (x + 1)))) := by
    intro j v x hj hx hg
    have e8 : (qm_si σ 202 8 (nI x)).1 202 8 = nI x := by rw [qm_si_at, if_pos rfl]
    have T' : TP (qm_si σ 202 8 (nI x)) n tb := T.si _ (by omega) (by omega)
    obtain ⟨g1, g2, g3⟩ := pu_fg_t hg
    unfold bb_X5_readNumber_10
    rw [if_neg (show ¬ (2 : Int32) ≤ nI j by show ¬ nI 2 ≤ nI j; rw [pu_le (by omega) (by omega)]; omega), pc_byteHere T' e8 hx, Option.bind_some, pc_isFigure _ hb, hg, Option.bind_some, pu_ift, Option.bind_some, e8, pu_s1, pu_s1, pu_si_si]
    unfold pu_at
    rw [if_pos g1, pu_dig g2]; rfl
  -- no figure more
  have stop : ∀ j v x, (j = 2 ∨ (x ≤ n ∧ pu_fg tb n x = false)) → j ≤ 2 → bb_X5_readNumber_10 (qm_si σ 202 8 (nI x)) (nI most) (nI p) (nI v) (nI j) = (bb_X5_readNumber_55 (qm_si σ 202 8 (nI x)) (nI most) (nI p) (nI v)).bind (fun y => some (.inr y)) := by
    intro j v x hj j2
    have e8 : (qm_si σ 202 8 (nI x)).1 202 8 = nI x := by rw [qm_si_at, if_pos rfl]
    have T' : TP (qm_si σ 202 8 (nI x)) n tb := T.si _ (by omega) (by omega)
    unfold bb_X5_readNumber_10
    by_cases q : j = 2
    · rw [if_pos (by rw [q]; decide)]
    · obtain ⟨a, b⟩ := hj.resolve_left q
      rw [if_neg (show ¬ (2 : Int32) ≤ nI j by show ¬ nI 2 ≤ nI j; rw [pu_le (by omega) (by omega)]; omega), pc_byteHere T' e8 a, Option.bind_some, pc_isFigure _ hb, b, Option.bind_some, pu_iff]
  -- what then
  have fin : ∀ v x, p < x → x ≤ n → v < 1000 → (pu_fg tb n x = true → ∃ σ', bb_X5_readNumber_55 (qm_si σ 202 8 (nI x)) (nI most) (nI p) (nI v) = some (-1, σ') ∧ σ'.1 202 9 = nI x ∧ FP σ σ') ∧ (pu_fg tb n x = false → ((1 ≤ v ∧ v ≤ most) → bb_X5_readNumber_55 (qm_si σ 202 8 (nI x)) (nI most) (nI p) (nI v) = some (nI v, qm_si σ 202 8 (nI x))) ∧ (¬ (1 ≤ v ∧ v ≤ most) → ∃ σ', bb_X5_readNumber_55 (qm_si σ 202 8 (nI x)) (nI most) (nI p) (nI v) = some (-1, σ') ∧ σ'.1 202 9 = nI p ∧ FP σ σ')) := by
    intro v x px xn v9
    have e8 : (qm_si σ 202 8 (nI x)).1 202 8 = nI x := by rw [qm_si_at, if_pos rfl]
    have T' : TP (qm_si σ 202 8 (nI x)) n tb := T.si _ (by omega) (by omega)
    have F1 : FP σ (qm_si σ 202 8 (nI x)) := FP.si σ _ (Or.inl ⟨rfl, by omega⟩)
    have bad : ∀ q, q < 2147483648 → bb_X5_readNumber_98 (qm_si (qm_si σ 202 8 (nI x)) 202 9 (nI q)) (nI v) = some (-1, qm_si (qm_si σ 202 8 (nI x)) 202 9 (nI q)) := by
      intro q hq
      unfold bb_X5_readNumber_98
      rw [qm_si_at, if_pos rfl, if_neg (pu_m1 hq)]
    have e55 : bb_X5_readNumber_55 (qm_si σ 202 8 (nI x)) (nI most) (nI p) (nI v) = if qm_b (pu_fg tb n x) = 0 then (if qm_b (decide ((1 : Int32) ≤ nI v) && decide (nI v ≤ nI most)) = 0 then bb_X5_readNumber_98 (qm_si (qm_si σ 202 8 (nI x)) 202 9 (nI p)) (nI v) else bb_X5_readNumber_98 (qm_si σ 202 8 (nI x)) (nI v)) else bb_X5_readNumber_98 (qm_si (qm_si σ 202 8 (nI x)) 202 9 (nI x)) (nI v) := by
      unfold bb_X5_readNumber_55
      rw [e8, if_neg (show ¬ nI x = nI p by rw [pu_eq (by omega) (by omega)]; omega), pc_byteHere T' e8 xn, Option.bind_some, pc_isFigure _ hb, Option.bind_some, pu_c_within, Option.bind_some]
      rfl
    rw [e55]
    refine ⟨fun hg => ?_, fun hg => ⟨fun hv => ?_, fun hv => ?_⟩⟩
    · rw [hg, pu_ift, bad x (by omega)]
      exact ⟨_, rfl, by rw [qm_si_at, if_pos rfl], F1.tr (FP.si _ _ (Or.inl ⟨rfl, by omega⟩))⟩
    · have e : (decide ((1 : Int32) ≤ nI v) && decide (nI v ≤ nI most)) = true := by
        rw [show (1 : Int32) = nI 1 from rfl, decide_eq_true ((pu_le (by omega) (by omega)).mpr hv.1), decide_eq_true ((pu_le (by omega) (by omega)).mpr hv.2)]; rfl
      rw [hg, pu_iff, e, pu_ift]
      unfold bb_X5_readNumber_98
      have e9 : (qm_si σ 202 8 (nI x)).1 202 9 = -1 := by rw [qm_si_at, if_neg (by omega)]; exact hf
      rw [e9, if_pos rfl]
    · have e : (decide ((1 : Int32) ≤ nI v) && decide (nI v ≤ nI most)) = false := by
        rw [show (1 : Int32) = nI 1 from rfl]
        by_cases a : 1 ≤ v
        · rw [decide_eq_false (show ¬ nI v ≤ nI most by rw [pu_le (by omega) (by omega)]; omega), Bool.and_false]
        · rw [decide_eq_false (show ¬ nI 1 ≤ nI v by rw [pu_le (by omega) (by omega)]; omega), Bool.false_and]
      rw [hg, pu_iff, e, pu_iff, bad p (by omega)]
      exact ⟨_, rfl, by rw [qm_si_at, if_pos rfl], F1.tr (FP.si _ _ (Or.inl ⟨rfl, by omega⟩))⟩
  have s0 : qm_si σ 202 8 (nI p) = σ := pu_si_id σ hp
  have start : fn_X5_readNumber σ (nI most) = qm_loop (fun s : Int32 × Int32 × qm_M => bb_X5_readNumber_10 s.2.2 (nI most) (nI p) s.1 s.2.1) (997 + 1 + 1 + 1) (nI 0, nI 0, qm_si σ 202 8 (nI p)) := by
    unfold fn_X5_readNumber lp_X5_readNumber_10
    rw [Option.bind_some, hp, s0]; rfl
  rw [start]
  unfold pu_num
  cases g0 : pu_fg tb n p
  · rw [if_neg (show ¬ (false = true) by decide)]
    refine ⟨fun v p' e => (nomatch e), fun q e => ?_⟩
    have e := Sum.inl.inj e
    subst e
    rw [pu_inb (stop 0 0 p (Or.inr ⟨h, g0⟩) (by omega))]
    unfold bb_X5_readNumber_55
    have e8 : (qm_si σ 202 8 (nI p)).1 202 8 = nI p := by rw [qm_si_at, if_pos rfl]
    rw [e8, if_pos rfl, Option.bind_some]
    unfold bb_X5_readNumber_98
    rw [qm_si_at, if_pos rfl, if_neg (pu_m1 (by omega))]
    exact ⟨_, rfl, by rw [qm_si_at, if_pos rfl], (FP.si σ _ (Or.inl ⟨rfl, by omega⟩)).tr (FP.si _ _ (Or.inl ⟨rfl, by omega⟩))⟩
  · have f0 := pu_fg_t g0
    rw [if_pos rfl, pu_inl (step 0 0 p (by omega) h g0), Nat.mul_zero, Nat.zero_add]
    cases g1 : pu_fg tb n (p + 1)
    · rw [if_neg (show ¬ (false = true) by decide), pu_inb (stop 1 (tb p - 48) (p + 1) (Or.inr ⟨by omega, g1⟩) (by omega))]
      have F := (fin (tb p - 48) (p + 1) (by omega) (by omega) (by omega)).2 g1
      unfold pu_val
      by_cases c : 1 ≤ tb p - 48 ∧ tb p - 48 ≤ most
      · rw [if_pos c]
        refine ⟨fun v p' e => ?_, fun q e => (nomatch e)⟩
        have e := Sum.inr.inj e
        rw [← (Prod.mk.inj e).1, ← (Prod.mk.inj e).2]
        exact F.1 c
      · rw [if_neg c]
        refine ⟨fun v p' e => (nomatch e), fun q e => ?_⟩
        have e := Sum.inl.inj e
        subst e
        exact F.2 c
    · have f1 := pu_fg_t g1
      rw [if_pos rfl, pu_inl (step 1 (tb p - 48) (p + 1) (by omega) (by omega) g1), pu_inb (stop 2 _ (p + 1 + 1) (Or.inl rfl) (by omega))]
      have F := fin (10 * (tb p - 48) + (tb (p + 1) - 48)) (p + 1 + 1) (by omega) (by omega) (by omega)
      cases g2 : pu_fg tb n (p + 2)
      · rw [if_neg (show ¬ (false = true) by decide)]
        have F2 := F.2 g2
        unfold pu_val
        by_cases c : 1 ≤ 10 * (tb p - 48) + (tb (p + 1) - 48) ∧ 10 * (tb p - 48) + (tb (p + 1) - 48) ≤ most
        · rw [if_pos c]
          refine ⟨fun v p' e => ?_, fun q e => (nomatch e)⟩
          have e := Sum.inr.inj e
          rw [← (Prod.mk.inj e).1, ← (Prod.mk.inj e).2]
          exact F2.1 c
        · rw [if_neg c]
          refine ⟨fun v p' e => (nomatch e), fun q e => ?_⟩
          have e := Sum.inl.inj e
          subst e
          exact F2.2 c
      · rw [if_pos rfl]
        refine ⟨fun v p' e => (nomatch e), fun q e => ?_⟩
        have e := Sum.inl.inj e
        subst e
        exact F.1 g2
