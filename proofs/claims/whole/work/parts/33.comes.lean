-- ===== comes, moves =====
theorem pu_On12 {σ : qm_M} (G : pu_G σ) {x c : Nat} (hx : x = 0 ∨ pu_t σ x = true) (h : pu_On (pu_par σ) c x) : pu_up (pu_par σ) 12 x c = true := by
  obtain ⟨m, h⟩ := h
  have up1 : ∀ m x, pu_up (pu_par σ) m x c = true → pu_up (pu_par σ) (m + 1) x c = true := by
    intro m
    induction m with
    | zero => intro x h; cases h
    | succ m ih =>
      intro x h
      unfold pu_up at h
      by_cases h0 : x = 0
      · rw [if_pos h0] at h; cases h
      · rw [if_neg h0] at h
        conv => lhs; unfold pu_up
        rw [if_neg h0]
        by_cases e : x = c
        · rw [decide_eq_true e, Bool.true_or]
        · rw [decide_eq_false e, Bool.false_or] at h ⊢
          exact ih _ h
  have upk : ∀ k, pu_up (pu_par σ) (m + k) x c = true := by
    intro k
    induction k with
    | zero => exact h
    | succ k ih => exact up1 _ _ ih
  rcases Nat.eq_zero_or_pos x with h0 | h0
  · rw [h0] at h; exact absurd ⟨m, h⟩ pu_On.z
  · obtain ⟨n, n1, n2, n3, -⟩ := pu_chain G (hx.resolve_left (by omega))
    have := upk 12
    rw [pu_up_st n (m + 12) x c n3 (by omega)] at this
    rw [pu_up_st n 12 x c n3 n2]; exact this
theorem pu_G.A {σ : qm_M} (G : pu_G σ) : pu_A (pu_t σ) (pu_par σ) := G.2.2
theorem pu_G.z {σ : qm_M} (G : pu_G σ) (x : Nat) (h : pu_t σ x = true) : x ≠ 0 := by have := (G.1 x h).1; omega
theorem pu_G.c {σ : qm_M} (G : pu_G σ) (x : Nat) (h : pu_t σ x = true) : pu_par σ x = 0 ∨ pu_t σ (pu_par σ x) = true := (G.2.1 x h).2.2
theorem WS.chg {B : Nat} {th th' : Int32} {f f' : Nat → Int32} {s s' : Nat} (h : WS B th f s) (e : ∀ k, k ≠ 0 → f' k = f k) (h0 : ∃ p, p ≤ 12 ∧ f' 0 = nI p ∧ (p = 0 ∨ bt th' p = true)) : WS B th' f' s' := by
  obtain ⟨-, a1, a2, a3, a4, a5, a6, a7, a8, a9, a10, a11⟩ := h
  exact ⟨h0, by rw [e 1 (by decide)]; exact a1, by rw [e 2 (by decide)]; exact a2, by rw [e 3 (by decide)]; exact a3, by rw [e 4 (by decide)]; exact a4, by rw [e 5 (by decide)]; exact a5, by rw [e 6 (by decide)]; exact a6, by rw [e 7 (by decide)]; exact a7, by rw [e 8 (by decide)]; exact a8, by rw [e 9 (by decide)]; exact a9, by rw [e 10 (by decide)]; exact a10, by rw [e 11 (by decide)]; exact a11⟩
theorem WF.att {B : Nat} {σ σ' : qm_M} {s p al : Nat} (w : WF B σ) (G : pu_G σ) (ht : pu_t σ s = true) (hp : p = 0 ∨ pu_t σ p = true) (h12 : p ≤ 12) (no : ¬ pu_On (pu_par σ) s p) (e0 : σ'.1 0 = σ.1 0) (e1 : ∀ x k, k ≠ 0 → σ'.1 (2 + x) k = σ.1 (2 + x) k) (e2 : ∀ x, 1 ≤ x → x ≤ 12 → σ'.1 (2 + x) 0 = pu_nw σ s p al 13 x) : WF B σ' := by
  have hs := G.1 s ht
  have A1 := G.A.hang G.z (c := s) (q := p) (by omega) no
  have c1 : ∀ x, pu_t σ x = true → pu_upd (pu_par σ) s p x = 0 ∨ pu_t σ (pu_upd (pu_par σ) s p x) = true := by
    intro x hx
    unfold pu_upd
    split
    · exact hp
    · exact G.c x hx
  have A2 := A1.alone G.z c1 ht (s := s) (q := p) (if_pos rfl) 13
  have hnw : ∀ x, pu_t σ x = true → σ'.1 (2 + x) 0 = nI (if al = 1 then pu_al (pu_t σ) (pu_upd (pu_par σ) s p) s p 13 x else pu_upd (pu_par σ) s p x) := by
    intro x hx
    have hb := G.1 x hx
    rw [e2 x hb.1 hb.2]
    unfold pu_nw pu_al pu_upd
    by_cases e : x = s
    · rw [if_pos e, if_pos e]
      by_cases ea : al = 1
      · rw [if_pos ea, if_neg (fun q => q.2.2.1 e)]
      · rw [if_neg ea]
    · have g := G.2.1 x hx
      rw [if_neg e, if_neg e]
      by_cases ea : al = 1
      · rw [if_pos ea]
        by_cases q : pu_par σ x = p
        · rw [if_pos ⟨ea, by omega, hx, by rw [g.2.1, q]⟩, if_pos ⟨by omega, hx, e, q⟩]
        · rw [if_neg (fun k => q (by have := k.2.2.2; rw [g.2.1, pu_eq (by omega) (by omega)] at this; exact this)), if_neg (fun k => q k.2.2.2), g.2.1]
      · rw [if_neg ea, if_neg (fun k => ea k.1), g.2.1]
  have hle : ∀ x, pu_t σ x = true → (if al = 1 then pu_al (pu_t σ) (pu_upd (pu_par σ) s p) s p 13 x else pu_upd (pu_par σ) s p x) ≤ 12 ∧ ((if al = 1 then pu_al (pu_t σ) (pu_upd (pu_par σ) s p) s p 13 x else pu_upd (pu_par σ) s p x) = 0 ∨ pu_t σ (if al = 1 then pu_al (pu_t σ) (pu_upd (pu_par σ) s p) s p 13 x else pu_upd (pu_par σ) s p x) = true) := by
    intro x hx
    have hu : pu_upd (pu_par σ) s p x ≤ 12 := by
      unfold pu_upd
      split
      · exact h12
      · exact (G.2.1 x hx).1
    by_cases ea : al = 1
    · rw [if_pos ea]
      unfold pu_al
      split
      · exact ⟨hs.2, Or.inr ht⟩
      · exact ⟨hu, c1 x hx⟩
    · rw [if_neg ea]; exact ⟨hu, c1 x hx⟩
  have hpar : ∀ x, pu_t σ x = true → pu_par σ' x = if al = 1 then pu_al (pu_t σ) (pu_upd (pu_par σ) s p) s p 13 x else pu_upd (pu_par σ) s p x := by
    intro x hx
    have h1 : pu_par σ' x = (σ'.1 (2 + x) 0).toNatClampNeg := rfl
    rw [h1, hnw x hx, pu_clamp (by have := (hle x hx).1; omega)]
  obtain ⟨w1, -, w3, w4, w5, w6, w7, w8⟩ := w
  have A3 : pu_A (pu_t σ) (pu_par σ') := by
    by_cases ea : al = 1
    · exact A2.cong (fun x hx => by rw [hpar x hx, if_pos ea])
    · exact A1.cong (fun x hx => by rw [hpar x hx, if_neg ea])
  obtain ⟨rk, hr⟩ := A3
  refine ⟨fun x a b c => ?_, ⟨rk, fun x a b c => ?_⟩, by rw [e0]; exact w3, by rw [e0]; exact w4, by rw [e0]; exact w5, by rw [e0]; exact w6, by rw [e0]; exact w7, fun x a => by rw [e1 x 6 (by decide)]; exact w8 x a⟩
  · rw [e0] at c ⊢
    exact (w1 x a b c).chg (fun k hk => e1 x k hk) ⟨_, (hle x c).1, hnw x c, (hle x c).2⟩
  · rw [e0] at c
    exact hr x c
theorem WF.hang {B : Nat} {σ : qm_M} {s p : Nat} (w : WF B σ) (G : pu_G σ) (ht : pu_t σ s = true) (hp : p = 0 ∨ pu_t σ p = true) (h12 : p ≤ 12) (no : ¬ pu_On (pu_par σ) s p) : WF B (pu_hc σ s p) := by
  refine w.att (al := 0) G ht hp h12 no ?_ (fun x k hk => ?_) (fun x x1 x2 => ?_)
  · rw [pu_hc_1]; exact qm_si_ne _ _ _ (by omega)
  · rw [pu_hc_1]
    unfold qm_si
    dsimp only
    rw [if_neg (fun q => hk q.2)]
  · rw [pu_hc_1]
    unfold pu_nw
    by_cases e : x = s
    · rw [if_pos e, e, qm_si_at, if_pos rfl]
    · rw [if_neg e, if_neg (fun q => absurd q.1 (by omega)), qm_si_ne _ _ _ (by omega)]
/-- a stream begins -/
def pu_bf (w : Int32) (k : Nat) : Int32 := if k = 1 then w else if k = 3 then 1000 else if k = 4 then 3 else if k = 6 then 1 else if k = 11 then -1 else 0
def pu_en (σ : qm_M) (s : Nat) (w : Int32) : qm_M := (fun id k => if id = 2 + s ∧ k < 12 then pu_bf w k else if id = 0 ∧ k = 1 then σ.1 0 1 ||| (1 <<< (nI s &&& 31)) else if id = 0 ∧ k = 2 then σ.1 0 2 &&& ((1 <<< (nI s &&& 31)) ^^^ (-1)) else σ.1 id k, fun id k => if id = 2 + s ∧ (k = 12 ∨ k = 13) then 0 else σ.2 id k)
theorem pc_enter (σ : qm_M) {s : Nat} (hs : s ≤ 12) (w : Int32) : fn_X3_enter σ 0 (nI s) w = some (pu_en σ s w) := by
  unfold fn_X3_enter fn_X2_begin
  simp only [Option.bind_some]
  rw [if_pos (pu_in (show s < 13 by omega) (by omega)), pu_clamp (by omega), show 0 + 1 + 1 + s = 2 + s by omega]
  refine congrArg some (Prod.ext ?_ ?_)
  · funext id k
    unfold pu_en pu_bf qm_si qm_sl
    dsimp only
    by_cases e : id = 2 + s
    · subst e
      rcases Nat.lt_or_ge k 12 with hk | hk
      · match k, hk with
        | 0, _ => simp
        | 1, _ => simp
        | 2, _ => simp
        | 3, _ => simp
        | 4, _ => simp
        | 5, _ => simp
        | 6, _ => simp
        | 7, _ => simp
        | 8, _ => simp
        | 9, _ => simp
        | 10, _ => simp
        | 11, _ => simp
        | k + 12, h => exact absurd h (by omega)
      · have n : ∀ j, j < 12 → ¬ k = j := fun j hj => by omega
        simp [n 0 (by omega), n 1 (by omega), n 2 (by omega), n 3 (by omega), n 4 (by omega), n 5 (by omega), n 6 (by omega), n 7 (by omega), n 8 (by omega), n 9 (by omega), n 10 (by omega), n 11 (by omega), show ¬ k < 12 by omega]
    · by_cases e0 : id = 0
      · subst e0
        by_cases k1 : k = 1
        · subst k1; simp [e]
        · by_cases k2 : k = 2
          · subst k2; simp [e]
          · simp [k1, k2, e]
      · simp [e, e0]
  · funext id k
    unfold pu_en qm_si qm_sl
    dsimp only
    by_cases e : id = 2 + s
    · subst e
      by_cases k1 : k = 13
      · subst k1; simp
      · by_cases k2 : k = 12
        · subst k2; simp
        · simp [k1, k2]
    · simp [e]
def pu_zr (τ : qm_M) (s n : Nat) : qm_M := (τ.1, fun id i => if id = 211 ∧ 16 * s ≤ i ∧ i < 16 * s + n then 0 else τ.2 id i)
def pu_bg (s w : Int32) (c : Nat) : Int64 := if c = 0 then 1 else if c = 1 then s.toInt64 else if c = 2 then w.toInt64 else if c = 4 then 1000 else if c = 5 then 3 else if c = 7 then 1 else if c = 14 then -1 else 0
theorem pu_sl_col (σ : qm_M) (s d c : Nat) (x : Int64) : (qm_sl σ 211 (16 * s + d) x).2 211 (16 * s + c) = if c = d then x else σ.2 211 (16 * s + c) := by
  rw [qm_sl_at]
  by_cases e : c = d
  · rw [if_pos e, if_pos (by rw [e])]
  · rw [if_neg e, if_neg (by omega)]
theorem pm_begins (τ : qm_M) {s : Nat} (hs : s ≤ 12) (w : Int32) : ∃ τ', fn_X7_begins τ (nI s) w = some τ' ∧ Lm τ τ' ∧ (∀ i, i < 16 * s ∨ 16 * s + 16 ≤ i → τ'.2 211 i = τ.2 211 i) ∧ ∀ c, c < 16 → τ'.2 211 (16 * s + c) = pu_bg (nI s) w c := by
  have h0 : pu_zr τ s 0 = τ := by
    refine Prod.ext rfl ?_
    funext id i
    unfold pu_zr
    dsimp only
    rw [if_neg (fun q => by omega)]
  have more : ∀ m j k, j + m = 16 → qm_loop (fun x : Int32 × qm_M => bb_X7_begins_2 x.2 (nI s) w x.1) (m + 1 + k) (nI j, pu_zr τ s j) = qm_loop (fun x : Int32 × qm_M => bb_X7_begins_2 x.2 (nI s) w x.1) (1 + k) (nI 16, pu_zr τ s 16) := by
    intro m
    induction m with
    | zero => intro j k hj; rw [show j = 16 by omega, show 0 + 1 + k = 1 + k by omega]
    | succ m ih =>
      intro j k hj
      rw [show m + 1 + 1 + k = m + 1 + k + 1 by omega, ← ih (j + 1) k (by omega)]
      refine pu_inl ?_
      show bb_X7_begins_2 (pu_zr τ s j) (nI s) w (nI j) = _
      unfold bb_X7_begins_2
      rw [if_neg (show ¬ (16 : Int32) ≤ nI j by show ¬ nI 16 ≤ nI j; rw [pu_le (by omega) (by omega)]; omega), pu_puts _ (by omega), pu_s1]
      simp only [Option.bind_some]
      refine congrArg some (congrArg Sum.inl (Prod.ext rfl (Prod.ext rfl ?_)))
      funext id i
      unfold pu_zr qm_sl
      dsimp only
      by_cases e : id = 211
      · subst e
        by_cases e2 : i = 16 * s + j
        · rw [if_pos ⟨rfl, e2⟩, if_pos ⟨rfl, by omega, by omega⟩]
        · rw [if_neg (fun q => e2 q.2)]
          by_cases e3 : 16 * s ≤ i ∧ i < 16 * s + j
          · rw [if_pos ⟨rfl, e3⟩, if_pos ⟨rfl, by omega, by omega⟩]
          · rw [if_neg (fun q => e3 q.2), if_neg (fun q => by omega)]
      · rw [if_neg (fun q => e q.1), if_neg (fun q => e q.1), if_neg (fun q => e q.1)]
  have m1 := more 16 0 983 (by omega)
  rw [h0] at m1
  have e3 : fn_X7_begins τ (nI s) w = qm_loop (fun x : Int32 × qm_M => bb_X7_begins_2 x.2 (nI s) w x.1) (16 + 1 + 983) (nI 0, τ) := rfl
  rw [e3, m1]
  refine ⟨_, pu_inr (n := 983) (show bb_X7_begins_2 (pu_zr τ s 16) (nI s) w (nI 16) = some (.inr (qm_sl (qm_sl (qm_sl (qm_sl (qm_sl (qm_sl (qm_sl (pu_zr τ s 16) 211 (16 * s + 0) 1) 211 (16 * s + 2) w.toInt64) 211 (16 * s + 4) 1000) 211 (16 * s + 5) 3) 211 (16 * s + 7) 1) 211 (16 * s + 14) (-1)) 211 (16 * s + 1) (nI s).toInt64)) from ?_), ?_, fun i hi => ?_, fun c hc => ?_⟩
  · unfold bb_X7_begins_2
    rw [if_pos (show (16 : Int32) ≤ nI 16 by decide), pu_puts_0 _ hs, Option.bind_some, pu_puts_2 _ hs, Option.bind_some, pu_puts_4 _ hs, Option.bind_some, pu_puts_5 _ hs, Option.bind_some, pu_puts_7 _ hs, Option.bind_some, pu_puts_14 _ hs, Option.bind_some, pu_puts_1 _ hs, Option.bind_some, Option.bind_some]
  · refine Lm.tr (b := pu_zr τ s 16) ⟨rfl, fun id hid => ?_⟩ ((((((((Lm.sl _ _ _).tr (Lm.sl _ _ _)).tr (Lm.sl _ _ _)).tr (Lm.sl _ _ _)).tr (Lm.sl _ _ _)).tr (Lm.sl _ _ _)).tr (Lm.sl _ _ _)))
    funext i
    show (if id = 211 ∧ 16 * s ≤ i ∧ i < 16 * s + 16 then 0 else τ.2 id i) = _
    rw [if_neg (fun q => hid q.1)]
  · rw [qm_sl_at, if_neg (by omega), qm_sl_at, if_neg (by omega), qm_sl_at, if_neg (by omega), qm_sl_at, if_neg (by omega), qm_sl_at, if_neg (by omega), qm_sl_at, if_neg (by omega), qm_sl_at, if_neg (by omega)]
    show (if 211 = 211 ∧ 16 * s ≤ i ∧ i < 16 * s + 16 then 0 else τ.2 211 i) = _
    rw [if_neg (fun q => by omega)]
  · have hz : (pu_zr τ s 16).2 211 (16 * s + c) = 0 := by
      show (if 211 = 211 ∧ 16 * s ≤ 16 * s + c ∧ 16 * s + c < 16 * s + 16 then 0 else τ.2 211 (16 * s + c)) = _
      rw [if_pos ⟨rfl, by omega, by omega⟩]
    simp only [pu_sl_col, hz]
    unfold pu_bg
    match c, hc with
    | 0, _ => simp
    | 1, _ => simp
    | 2, _ => simp
    | 3, _ => simp
    | 4, _ => simp
    | 5, _ => simp
    | 6, _ => simp
    | 7, _ => simp
    | 8, _ => simp
    | 9, _ => simp
    | 10, _ => simp
    | 11, _ => simp
    | 12, _ => simp
    | 13, _ => simp
    | 14, _ => simp
    | 15, _ => simp
    | c + 16, h => exact absurd h (by omega)
theorem RT.enter {σ τ τ' : qm_M} {s : Nat} {w : Int32} (h : RT σ (τ.2 211)) (h1 : 1 ≤ s) (h2 : s ≤ 12) (o : ∀ i, i < 16 * s ∨ 16 * s + 16 ≤ i → τ'.2 211 i = τ.2 211 i) (c : ∀ c, c < 16 → τ'.2 211 (16 * s + c) = pu_bg (nI s) w c) : RT (qm_si (pu_en σ s w) (2 + s) 0 (nI s)) (τ'.2 211) := by
  obtain ⟨r1, r2, r3, r4, r5, r6⟩ := h
  have e0 : (qm_si (pu_en σ s w) (2 + s) 0 (nI s)).1 0 = (pu_en σ s w).1 0 := qm_si_ne _ _ _ (by omega)
  have e01 : (pu_en σ s w).1 0 1 = σ.1 0 1 ||| (1 <<< (nI s &&& 31)) := by
    unfold pu_en; dsimp only; rw [if_neg (by omega), if_pos ⟨rfl, rfl⟩]
  have e02 : (pu_en σ s w).1 0 2 = σ.1 0 2 &&& ((1 <<< (nI s &&& 31)) ^^^ (-1)) := by
    unfold pu_en; dsimp only; rw [if_neg (by omega), if_neg (by omega), if_pos ⟨rfl, rfl⟩]
  have e03 : ∀ k, k < 7 → (pu_en σ s w).1 0 (3 + k) = σ.1 0 (3 + k) := by
    intro k hk; unfold pu_en; dsimp only; rw [if_neg (by omega), if_neg (by omega), if_neg (by omega)]
  have b1 : ∀ x, x < 32 → x ≠ s → bt ((pu_en σ s w).1 0 1) x = bt (σ.1 0 1) x := by
    intro x hx hne; rw [e01, b_or, pu_bit (by omega) hx, decide_eq_false hne, Bool.or_false]
  have b1s : bt ((pu_en σ s w).1 0 1) s = true := by rw [e01, b_or, pu_bit (by omega) (by omega), decide_eq_true rfl, Bool.or_true]
  have b2 : ∀ x, x < 32 → x ≠ s → bt ((pu_en σ s w).1 0 2) x = bt (σ.1 0 2) x := by
    intro x hx hne; rw [e02, b_and, pu_nbit (by omega) hx, decide_eq_false hne, Bool.not_false, Bool.and_true]
  have b2s : bt ((pu_en σ s w).1 0 2) s = false := by rw [e02, b_and, pu_nbit (by omega) (by omega), decide_eq_true rfl, Bool.not_true, Bool.and_false]
  have f1 : ∀ x, x ≠ s → (qm_si (pu_en σ s w) (2 + s) 0 (nI s)).1 (2 + x) = σ.1 (2 + x) := by
    intro x hx
    rw [qm_si_ne _ _ _ (by omega)]
    funext k
    unfold pu_en; dsimp only; rw [if_neg (by omega), if_neg (by omega), if_neg (by omega)]
  have f2 : ∀ x, x ≠ s → (qm_si (pu_en σ s w) (2 + s) 0 (nI s)).2 (2 + x) = σ.2 (2 + x) := by
    intro x hx
    funext k
    unfold pu_en qm_si; dsimp only; rw [if_neg (by omega)]
  refine ⟨fun x x1 x2 => ?_, fun x k x1 x2 k2 ht => ?_, fun x x1 x2 ht => ?_, ?_, fun k hk => ?_, fun i hi hj => ?_⟩
  · rw [e0]
    by_cases e : x = s
    · rw [e, b1s, if_pos rfl]; exact c 0 (by omega)
    · rw [b1 x (by omega) e, o _ (by omega)]; exact r1 x x1 x2
  · rw [e0] at ht
    have hb := pu_km_b k2
    by_cases e : x = s
    · rw [e, c _ (by omega), qm_si_at]
      match k, k2 with
      | 0, _ => rfl
      | 1, _ => show w.toInt64 = ((pu_en σ s w).1 (2 + s) 1).toInt64; unfold pu_en; dsimp only; rw [if_pos ⟨rfl, by omega⟩]; rfl
      | 2, _ => show 0 = ((pu_en σ s w).1 (2 + s) 2).toInt64; unfold pu_en; dsimp only; rw [if_pos ⟨rfl, by omega⟩]; rfl
      | 3, _ => show 1000 = ((pu_en σ s w).1 (2 + s) 3).toInt64; unfold pu_en; dsimp only; rw [if_pos ⟨rfl, by omega⟩]; rfl
      | 4, _ => show 3 = ((pu_en σ s w).1 (2 + s) 4).toInt64; unfold pu_en; dsimp only; rw [if_pos ⟨rfl, by omega⟩]; rfl
      | 5, _ => show 0 = ((pu_en σ s w).1 (2 + s) 5).toInt64; unfold pu_en; dsimp only; rw [if_pos ⟨rfl, by omega⟩]; rfl
      | 6, _ => show 1 = ((pu_en σ s w).1 (2 + s) 6).toInt64; unfold pu_en; dsimp only; rw [if_pos ⟨rfl, by omega⟩]; rfl
      | 7, _ => show 0 = ((pu_en σ s w).1 (2 + s) 7).toInt64; unfold pu_en; dsimp only; rw [if_pos ⟨rfl, by omega⟩]; rfl
      | 8, _ => show 0 = ((pu_en σ s w).1 (2 + s) 8).toInt64; unfold pu_en; dsimp only; rw [if_pos ⟨rfl, by omega⟩]; rfl
      | 9, _ => show 0 = ((pu_en σ s w).1 (2 + s) 9).toInt64; unfold pu_en; dsimp only; rw [if_pos ⟨rfl, by omega⟩]; rfl
      | 10, _ => show 0 = ((pu_en σ s w).1 (2 + s) 10).toInt64; unfold pu_en; dsimp only; rw [if_pos ⟨rfl, by omega⟩]; rfl
      | 11, _ => show -1 = ((pu_en σ s w).1 (2 + s) 11).toInt64; unfold pu_en; dsimp only; rw [if_pos ⟨rfl, by omega⟩]; rfl
      | k + 12, h => exact absurd h (by omega)
    · rw [b1 x (by omega) e] at ht
      rw [o _ (by omega), f1 x e]; exact r2 x k x1 x2 k2 ht
  · rw [e0] at ht ⊢
    by_cases e : x = s
    · rw [e, b2s, c 9 (by omega), c 10 (by omega), c 15 (by omega)]
      have t : ∀ k, (k = 12 ∨ k = 13) → (qm_si (pu_en σ s w) (2 + s) 0 (nI s)).2 (2 + s) k = 0 := by
        intro k hk; unfold pu_en qm_si; dsimp only; rw [if_pos ⟨rfl, hk⟩]
      rw [t 12 (Or.inl rfl), t 13 (Or.inr rfl)]
      exact ⟨rfl, rfl, rfl⟩
    · rw [b1 x (by omega) e] at ht
      rw [o _ (by omega), o _ (by omega), o _ (by omega), b2 x (by omega) e, f2 x e]
      exact r3 x x1 x2 ht
  · have e : (qm_si (pu_en σ s w) (2 + s) 0 (nI s)).2 (2 + 0) = σ.2 (2 + 0) := f2 0 (by omega)
    have e : (qm_si (pu_en σ s w) (2 + s) 0 (nI s)).2 2 = σ.2 2 := e
    rw [o _ (by omega), e]; exact r4
  · rw [o _ (by omega), e0, e03 k hk]; exact r5 k hk
  · rw [e0, b1 i hi (by omega)]; exact r6 i hi hj
theorem pu_en_t (σ : qm_M) {s : Nat} (hs : s ≤ 12) (w : Int32) {x : Nat} (hx : x < 32) : pu_t (pu_en σ s w) x = (pu_t σ x || decide (x = s)) := by
  have e01 : (pu_en σ s w).1 0 1 = σ.1 0 1 ||| (1 <<< (nI s &&& 31)) := by
    unfold pu_en; dsimp only; rw [if_neg (by omega), if_pos ⟨rfl, rfl⟩]
  show bt ((pu_en σ s w).1 0 1) x = _
  rw [e01, b_or, pu_bit (by omega) hx]
theorem pu_en_o (σ : qm_M) {s : Nat} (w : Int32) {x : Nat} (hx : x ≠ s) : (pu_en σ s w).1 (2 + x) = σ.1 (2 + x) := by
  funext k
  unfold pu_en; dsimp only; rw [if_neg (by omega), if_neg (by omega), if_neg (by omega)]
theorem pu_en_s (σ : qm_M) {s : Nat} (w : Int32) {k : Nat} (hk : k < 12) : (pu_en σ s w).1 (2 + s) k = pu_bf w k := by
  unfold pu_en; dsimp only; rw [if_pos ⟨rfl, hk⟩]
theorem pu_en_L (σ : qm_M) {s : Nat} (h2 : s ≤ 12) (w : Int32) : Lc σ (pu_en σ s w) := by
  intro id hid
  constructor
  · funext k
    unfold pu_en; dsimp only; rw [if_neg (by omega), if_neg (by omega), if_neg (by omega)]
  · funext k
    unfold pu_en; dsimp only; rw [if_neg (by omega)]
theorem WF.enter {B : Nat} {σ : qm_M} (w : WF B σ) {s n : Nat} (h1 : 1 ≤ s) (h2 : s ≤ 12) (n1 : 1 ≤ n) (n2 : n ≤ 16) : WF B (pu_en σ s (nI n)) := by
  obtain ⟨w1, ⟨rk, wr⟩, w3, w4, w5, w6, w7, w8⟩ := w
  have e03 : ∀ k, 3 ≤ k → (pu_en σ s (nI n)).1 0 k = σ.1 0 k := by
    intro k hk; unfold pu_en; dsimp only; rw [if_neg (by omega), if_neg (by omega), if_neg (by omega)]
  have tx : ∀ x, x < 32 → bt ((pu_en σ s (nI n)).1 0 1) x = (bt (σ.1 0 1) x || decide (x = s)) := fun x hx => pu_en_t σ h2 (nI n) hx
  refine ⟨fun x a b c => ?_, ⟨rk, fun x a b c hp => ?_⟩, by rw [e03 3 (by omega)]; exact w3, by rw [e03 4 (by omega)]; exact w4, by rw [e03 5 (by omega)]; exact w5, by rw [e03 6 (by omega)]; exact w6, by rw [e03 7 (by omega)]; exact w7, fun x a => ?_⟩
  · by_cases e : x = s
    · subst e
      have f : ∀ k, k < 12 → (pu_en σ x (nI n)).1 (2 + x) k = pu_bf (nI n) k := fun k hk => pu_en_s σ (nI n) hk
      exact ⟨⟨0, by omega, f 0 (by omega), Or.inl rfl⟩, ⟨n, n1, n2, f 1 (by omega)⟩, ⟨0, by omega, f 2 (by omega)⟩, ⟨1000, by omega, f 3 (by omega)⟩, ⟨3, by omega, f 4 (by omega)⟩, ⟨0, by omega, f 5 (by omega)⟩, ⟨1, by omega, f 6 (by omega)⟩, ⟨0, by omega, f 7 (by omega)⟩, ⟨0, by omega, f 8 (by omega)⟩, ⟨0, by omega, f 9 (by omega)⟩, ⟨0, by omega, f 10 (by omega)⟩, Or.inl (f 11 (by omega))⟩
    · rw [tx x (by omega), decide_eq_false e, Bool.or_false] at c
      have h := w1 x a b c
      rw [pu_en_o σ _ e]
      obtain ⟨p, p1, p2, p3⟩ := h.1
      exact h.chg (fun _ _ => rfl) ⟨p, p1, p2, p3.imp id (fun q => by rw [tx p (by omega), q, Bool.true_or])⟩
  · by_cases e : x = s
    · subst e
      exact absurd (by show ((pu_en σ x (nI n)).1 (2 + x) 0).toNatClampNeg = 0; rw [pu_en_s σ _ (by omega)]; rfl) hp
    · rw [tx x (by omega), decide_eq_false e, Bool.or_false] at c
      have ep : pu_par (pu_en σ s (nI n)) x = pu_par σ x := by unfold pu_par; rw [pu_en_o σ _ e]
      rw [ep] at hp ⊢; exact wr x a b c hp
  · by_cases e : x = s
    · right; rw [e, pu_en_s σ _ (by omega)]; rfl
    · rw [pu_en_o σ _ e]; exact w8 x a
theorem pu_al01 {v : Int32} : (∃ al, al ≤ 1 ∧ v = nI al ∧ (decide ((0 : Int32) ≤ v) && decide (v ≤ 1)) = true) ∨ (decide ((0 : Int32) ≤ v) && decide (v ≤ 1)) = false := by
  rcases pu_rd (v := v) 0 1 (by omega) (by omega) with ⟨n, -, n2, e, hb⟩ | hb
  · exact Or.inl ⟨n, n2, e, hb⟩
  · exact Or.inr hb
theorem pu_comes {B : Nat} {σ τ : qm_M} (h : Inv B σ τ) (v p w x : Int32) : Sim B σ τ (fn_X6_comes σ v p w x) (fn_X7_comes τ v p w x) := by
  unfold fn_X6_comes fn_X7_comes
  rw [pc_isThere, pm_isStream h.1, pc_isNode, pm_isPlace h.1, pu_c_within, pu_c_within, pu_c_within, pu_m_in τ v 1 12 1 12 rfl rfl, pu_m_in τ w 1 16 1 16 rfl rfl, pu_m_in τ x 0 1 0 1 rfl rfl]
  simp only [Option.bind_some]
  rcases pu_12 v with ⟨s, h1, h2, rfl⟩ | hv
  · rw [pu_d1 h1 h2, pu_ift, pu_ift]
    cases hp : pu_nd σ p
    · rw [pu_iff, pu_iff, pu_bid, pu_bid]; exact Sim.bad h
    · rw [pu_ift, pu_ift]
      obtain ⟨q, q12, rfl, hq⟩ := pu_nd_t hp
      rcases pu_rd (v := w) 1 16 (by omega) (by omega) with ⟨n, n1, n2, rfl, hb⟩ | hb
      · have hb : (decide ((1 : Int32) ≤ nI n) && decide (nI n ≤ (16 : Int32))) = true := hb
        rw [hb, pu_ift, pu_ift]
        rcases pu_al01 (v := x) with ⟨al, ha, rfl, hb⟩ | hb
        · rw [hb, pu_ift, pu_ift, pu_th_nI σ h1 h2]
          cases ht : bt (σ.1 0 1) s
          · rw [pu_iff, pu_iff]
            obtain ⟨σ1, τ1, e1, e2, hI, f1, f2, K⟩ := pu_keep h
            rw [e1, e2]
            simp only [Option.bind_some]
            have es : ∀ id, id < 32 → σ1.1 id = σ.1 id := fun id hid => (K.1 id (Or.inl hid)).1
            obtain ⟨τ2, b1, b2, b3, b4⟩ := pm_begins τ1 h2 (nI n)
            rw [pc_enter σ1 h2, b1]
            simp only [Option.bind_some]
            have hR := hI.1.enter (τ' := τ2) h1 h2 b3 b4
            have hW := hI.2.1.enter (s := s) (n := n) h1 h2 n1 n2
            have hG1 := pu_G.of hI.1 hI.2.1
            have tx : ∀ y, y < 32 → pu_t (pu_en σ1 s (nI n)) y = (pu_t σ1 y || decide (y = s)) := fun y hy => pu_en_t σ1 h2 (nI n) hy
            have tf : pu_t σ1 s = false := by show bt (σ1.1 0 1) s = false; rw [es 0 (by omega)]; exact ht
            have hqs : q ≠ s := by
              intro e
              rcases hq with hq | hq
              · omega
              · rw [e, ht] at hq; cases hq
            have hq1 : q = 0 ∨ pu_t (pu_en σ1 s (nI n)) q = true := hq.imp id (fun k => by
              rw [tx q (by omega)]
              have : pu_t σ1 q = true := by show bt (σ1.1 0 1) q = true; rw [es 0 (by omega)]; exact k
              rw [this, Bool.true_or])
            have hts : pu_t (pu_en σ1 s (nI n)) s = true := by rw [tx s (by omega), decide_eq_true rfl, Bool.or_true]
            have hGa : pu_G (pu_en σ1 s (nI n)) := by
              have g6 := hR.2.2.2.2.2
              have e0 : (qm_si (pu_en σ1 s (nI n)) (2 + s) 0 (nI s)).1 0 = (pu_en σ1 s (nI n)).1 0 := qm_si_ne _ _ _ (by omega)
              have bd : ∀ y, pu_t (pu_en σ1 s (nI n)) y = true → 1 ≤ y ∧ y ≤ 12 := by
                intro y hy
                rcases Nat.lt_or_ge y 32 with l | l
                · refine Classical.byContradiction fun hn => ?_
                  have := g6 y l (by omega)
                  rw [e0] at this
                  have hy : bt ((pu_en σ1 s (nI n)).1 0 1) y = true := hy
                  rw [this] at hy; cases hy
                · rw [show pu_t (pu_en σ1 s (nI n)) y = false from b_big l] at hy; cases hy
              refine ⟨bd, fun y hy => ?_, ?_⟩
              · obtain ⟨a, b⟩ := bd y hy
                obtain ⟨⟨p, p1, p2, p3⟩, -⟩ := hW.1 y a b hy
                have e : pu_par (pu_en σ1 s (nI n)) y = p := by unfold pu_par; rw [p2, pu_clamp (by omega)]
                rw [e]; exact ⟨p1, p2, p3⟩
              · obtain ⟨rk, hr⟩ := hW.2.1
                exact ⟨rk, fun y hy hp => hr y (bd y hy).1 (bd y hy).2 hy hp⟩
            have no : ¬ pu_On (pu_par (pu_en σ1 s (nI n))) s q := by
              -- nobody hangs on s yet
              have key : ∀ m y, y ≠ s → (y = 0 ∨ pu_t (pu_en σ1 s (nI n)) y = true) → pu_up (pu_par (pu_en σ1 s (nI n))) m y s = false := by
                intro m
                induction m with
                | zero => intro y _ _; rfl
                | succ m ih =>
                  intro y hy ht
                  unfold pu_up
                  by_cases y0 : y = 0
                  · rw [if_pos y0]
                  · rw [if_neg y0, decide_eq_false hy, Bool.false_or]
                    have ty := ht.resolve_left y0
                    have by1 := hGa.1 y ty
                    refine ih _ (fun e => ?_) (hGa.c y ty)
                    have ep : pu_par (pu_en σ1 s (nI n)) y = pu_par σ1 y := by unfold pu_par; rw [pu_en_o σ1 _ hy]
                    rw [ep] at e
                    rw [tx y (by omega), decide_eq_false hy, Bool.or_false] at ty
                    have := hG1.c y ty
                    rw [e, tf] at this
                    rcases this with k | k
                    · omega
                    · cases k
              intro ⟨m, hm⟩
              rw [key m q hqs hq1] at hm; cases hm
            obtain ⟨σ3, τ3, a1, a2, a3, a4, a5, a6, a7, a8⟩ := pu_attach hR h1 h2 hts hq1 q12 hqs ha
            have hW3 := hW.att hGa hts hq1 q12 no a6 a7 a8
            have fin : Sim B σ τ (bb_X6_comes_96 (pu_en σ1 s (nI n)) (nI s) (nI al) (nI q) (nI s) 0) ((fn_X7_comesTo τ2 (nI s) (nI q) (nI al)).bind fun r => (fn_X7_children r (nI s)).bind fun r2 => some (r2, r)) := by
              unfold bb_X6_comes_96
              rw [a1, a2]
              simp only [Option.bind_some]
              rw [pc_childCount, pm_children a3]
              simp only [Option.bind_some]
              exact Sim.done _ rfl rfl hI f1 f2 ((pu_en_L σ1 h2 _).tr a4) (b2.tr a5) a3 hW3 (Nat.le_refl _)
            match al, ha with
            | 0, _ => rw [if_neg (show ¬ nI 0 = 1 by decide), if_neg (show ¬ nI 0 = 1 by decide)]; exact fin
            | 1, _ => rw [if_pos (show nI 1 = 1 from rfl), if_pos (show nI 1 = 1 from rfl)]; exact fin
          · rw [pu_ift, pu_ift, pu_bid, pu_bid]; exact Sim.no h
        · rw [hb, pu_iff, pu_iff, pu_bid, pu_bid]; exact Sim.bad h
      · have hb : (decide ((1 : Int32) ≤ w) && decide (w ≤ (16 : Int32))) = false := hb
        rw [hb, pu_iff, pu_iff, pu_bid, pu_bid]; exact Sim.bad h
  · rw [pu_d0 hv, pu_iff, pu_iff, pu_bid, pu_bid]; exact Sim.bad h
