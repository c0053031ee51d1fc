-- ===== readies =====
theorem pu_64add {a b : Nat} (h : a + b < 2147483648) : (nI a).toInt64 + (nI b).toInt64 = (nI (a + b)).toInt64 := by
  rw [pu_nI64 (by omega), pu_nI64 (by omega), pu_nI64 h, lN_add]
theorem pu_readies {B : Nat} {σ τ : qm_M} (h : Inv B σ τ) (v x : Int32) : Sim B σ τ (fn_X6_readies σ v x) (fn_X7_readies τ v x) := by
  unfold fn_X6_readies fn_X7_readies
  rw [pc_isThere, pm_isStream h.1, pu_c_within, pu_m_in τ x 1 9999 1 9999 rfl rfl]
  simp only [Option.bind_some]
  cases ht : pu_th σ v
  · rw [pu_iff, pu_iff, pu_bid, pu_bid]; exact Sim.bad h
  · rw [pu_ift, pu_ift]
    obtain ⟨j, h1, h2, rfl, hj⟩ := pu_th_t ht
    rcases pu_rd (v := x) 1 9999 (by omega) (by omega) with ⟨n, n1, n2, rfl, hb⟩ | hb
    · have hb : (decide ((1 : Int32) ≤ nI n) && decide (nI n ≤ (9999 : Int32))) = true := hb
      rw [hb, pu_ift, pu_ift, if_pos (pu_in (show j < 13 by omega) (by omega)), pu_clamp (by omega), show 0 + 1 + 1 + j = 2 + j by omega, pu_its_7 τ h2, pu_its_3 τ h2]
      simp only [Option.bind_some]
      obtain ⟨-, -, ⟨r, r1, r2⟩, -⟩ := h.2.1.1 j h1 h2 hj
      have eo : τ.2 211 (16 * j + 7) = (σ.1 (2 + j) 6).toInt64 := h.1.2.1 j 6 h1 h2 (by omega) hj
      have er : τ.2 211 (16 * j + 3) = (σ.1 (2 + j) 2).toInt64 := h.1.2.1 j 2 h1 h2 (by omega) hj
      have co : (lg_cmp (τ.2 211 (16 * j + 7)) 0 = 0) ↔ σ.1 (2 + j) 6 = 0 := by
        rw [lg_cmp_eq, eo, show (0 : Int64) = (0 : Int32).toInt64 from rfl, pu_64inj]
      have cr : (lg_cmp (τ.2 211 (16 * j + 3) + (nI n).toInt64) 9999 ≤ 0) ↔ σ.1 (2 + j) 2 + nI n ≤ 9999 := by
        rw [lg_cmp_le, er, r2, pu_64add (by omega), nI_add, show (9999 : Int64) = (9999 : Int32).toInt64 from rfl, pu_64le]
      by_cases o : σ.1 (2 + j) 6 = 0
      · rw [if_pos o, if_pos (co.mpr o), pu_bid, pu_bid]; exact Sim.no h
      · rw [if_neg o, if_neg (fun q => o (co.mp q))]
        by_cases q : σ.1 (2 + j) 2 + nI n ≤ 9999
        · rw [if_pos q, if_pos (cr.mpr q)]
          have q' : r + n ≤ 9999 := by
            rw [r2, nI_add] at q
            exact (pu_le (by omega) (by omega)).mp q
          obtain ⟨σ', τ', e1, e2, e3, e4, e5⟩ := pu_setf h hj (k := 2) (by omega) (by omega) (by omega) (WS.k2 q')
          rw [e1, e2]
          simp only [Option.bind_some]
          rw [pu_its_3 τ' h2]
          simp only [Option.bind_some]
          rw [pu_puts_3 τ' h2]
          simp only [Option.bind_some]
          rw [pu_its_3 _ h2, Option.bind_some, qm_si_at, if_pos rfl, qm_sl_at, if_pos rfl]
          have e4 : τ'.2 211 (16 * j + 3) = (σ.1 (2 + j) 2).toInt64 := e4
          rw [e3, e4, r2, pu_64add (by omega), nI_add, pu_i64]
          exact e5 _
        · rw [if_neg q, if_neg (fun c => q (cr.mp c)), pu_bid, pu_bid]; exact Sim.no h
    · have hb : (decide ((1 : Int32) ≤ x) && decide (x ≤ (9999 : Int32))) = false := hb
      rw [hb, pu_iff, pu_iff, pu_bid, pu_bid]; exact Sim.bad h
-- ===== lines without end: none =====
def pu_A (t : Nat → Bool) (p : Nat → Nat) : Prop := ∃ rk : Nat → Nat, ∀ x, t x = true → p x ≠ 0 → rk (p x) < rk x
def pu_On (p : Nat → Nat) (c x : Nat) : Prop := ∃ m, pu_up p m x c = true
theorem pu_On.z {p : Nat → Nat} {c : Nat} : ¬ pu_On p c 0 := by
  intro ⟨m, h⟩
  cases m with
  | zero => cases h
  | succ m => unfold pu_up at h; rw [if_pos rfl] at h; cases h
theorem pu_On.me {p : Nat → Nat} {c : Nat} (h : c ≠ 0) : pu_On p c c := ⟨1, by unfold pu_up; rw [if_neg h, decide_eq_true rfl]; rfl⟩
theorem pu_On.st {p : Nat → Nat} {c x : Nat} (h0 : x ≠ 0) (hc : x ≠ c) : pu_On p c x ↔ pu_On p c (p x) := by
  constructor
  · intro ⟨m, h⟩
    cases m with
    | zero => cases h
    | succ m =>
      unfold pu_up at h
      rw [if_neg h0, decide_eq_false hc, Bool.false_or] at h
      exact ⟨m, h⟩
  · intro ⟨m, h⟩
    exact ⟨m + 1, by unfold pu_up; rw [if_neg h0, h, Bool.or_true]⟩
theorem pu_On.up {p : Nat → Nat} {c x : Nat} (h0 : x ≠ 0) (h : pu_On p c (p x)) : pu_On p c x := by
  obtain ⟨m, h⟩ := h
  exact ⟨m + 1, by unfold pu_up; rw [if_neg h0, h, Bool.or_true]⟩
theorem pu_On.tr {p : Nat → Nat} {y c x : Nat} (h : pu_On p c x) (k : pu_On p y c) : pu_On p y x := by
  obtain ⟨m, h⟩ := h
  obtain ⟨m', k⟩ := k
  exact ⟨m + m', pu_up_tr m m' x c y h k⟩
theorem pu_A.no {t : Nat → Bool} {p : Nat → Nat} (hA : pu_A t p) (hc : ∀ x, t x = true → p x = 0 ∨ t (p x) = true) {c : Nat} (ht : t c = true) : ¬ pu_On p c (p c) := by
  obtain ⟨rk, hr⟩ := hA
  have key : ∀ m q, (q = 0 ∨ t q = true) → (q ≠ 0 → rk q < rk c) → pu_up p m q c = false := by
    intro m
    induction m with
    | zero => intro q _ _; rfl
    | succ m ih =>
      intro q hq hk
      unfold pu_up
      by_cases h0 : q = 0
      · rw [if_pos h0]
      · rw [if_neg h0]
        have hq := hq.resolve_left h0
        have h1 := hk h0
        have hne : ¬ q = c := fun e => by rw [e] at h1; omega
        rw [decide_eq_false hne, Bool.false_or]
        exact ih _ (hc q hq) (fun h => Nat.lt_trans (hr q hq h) h1)
  intro ⟨m, h⟩
  rw [key m _ (hc c ht) (fun h => hr c ht h)] at h
  cases h
def pu_upd (p : Nat → Nat) (c q : Nat) : Nat → Nat := fun x => if x = c then q else p x
theorem pu_A.cong {t : Nat → Bool} {p p' : Nat → Nat} (h : pu_A t p) (e : ∀ x, t x = true → p' x = p x) : pu_A t p' := by
  obtain ⟨rk, h⟩ := h
  exact ⟨rk, fun x hx => by rw [e x hx]; exact h x hx⟩
theorem pu_A.hang {t : Nat → Bool} {p : Nat → Nat} (hA : pu_A t p) (h0 : ∀ x, t x = true → x ≠ 0) {c q : Nat} (hc : c ≠ 0) (hq : ¬ pu_On p c q) : pu_A t (pu_upd p c q) := by
  obtain ⟨rk, hr⟩ := hA
  refine ⟨fun x => @ite Nat (pu_On p c x) (Classical.propDecidable _) (rk x + rk q + 1) (rk x), fun x hx hp => ?_⟩
  unfold pu_upd at hp ⊢
  by_cases e : x = c
  · rw [if_pos e] at hp ⊢
    dsimp only
    rw [if_neg hq, if_pos (by rw [e]; exact pu_On.me hc)]; omega
  · rw [if_neg e] at hp ⊢
    have h1 := hr x hx hp
    dsimp only
    by_cases o : pu_On p c x
    · rw [if_pos ((pu_On.st (h0 x hx) e).mp o), if_pos o]; omega
    · rw [if_neg (fun q => o ((pu_On.st (h0 x hx) e).mpr q)), if_neg o]; exact h1
/-- the line of one that c is not on is the same when c hangs elsewhere -/
theorem pu_On.keep {p : Nat → Nat} {c q y : Nat} (hc : c ≠ 0) : ∀ {x : Nat}, ¬ pu_On p c x → pu_On (pu_upd p c q) y x → pu_On p y x := by
  have key : ∀ m x, ¬ pu_On p c x → pu_up (pu_upd p c q) m x y = true → pu_On p y x := by
    intro m
    induction m with
    | zero => intro x _ h; cases h
    | succ m ih =>
      intro x hx h
      unfold pu_up at h
      by_cases h0 : x = 0
      · rw [if_pos h0] at h; cases h
      · rw [if_neg h0] at h
        by_cases e : x = y
        · rw [e]; exact pu_On.me (by omega)
        · rw [decide_eq_false e, Bool.false_or] at h
          have ec : x ≠ c := fun q => hx (by rw [q]; exact pu_On.me hc)
          have eu : pu_upd p c q x = p x := if_neg ec
          rw [eu] at h
          exact pu_On.up h0 (ih (p x) (fun o => hx (pu_On.up h0 o)) h)
  intro x hx ⟨m, h⟩
  exact key m x hx h
/-- all the others that hang on q hang on s, which hangs on q -/
def pu_al (t : Nat → Bool) (p : Nat → Nat) (s q n : Nat) : Nat → Nat := fun x => if x < n ∧ t x = true ∧ x ≠ s ∧ p x = q then s else p x
theorem pu_A.alone {t : Nat → Bool} {p : Nat → Nat} (hA : pu_A t p) (h0 : ∀ x, t x = true → x ≠ 0) (hc : ∀ x, t x = true → p x = 0 ∨ t (p x) = true) {s q : Nat} (hs : t s = true) (hq : p s = q) : ∀ n, pu_A t (pu_al t p s q n) := by
  intro n
  induction n with
  | zero => exact hA.cong (fun x _ => if_neg (fun h => by omega))
  | succ n ih =>
    by_cases e : t n = true ∧ n ≠ s ∧ p n = q
    · have hp : pu_al t p s q n n = q := by
        unfold pu_al
        rw [if_neg (fun h => by omega)]; exact e.2.2
      have hps : pu_al t p s q n s = q := by
        unfold pu_al
        rw [if_neg (fun h => h.2.2.1 rfl)]; exact hq
      have hcl : ∀ x, t x = true → pu_al t p s q n x = 0 ∨ t (pu_al t p s q n x) = true := by
        intro x hx
        unfold pu_al
        split
        · exact Or.inr hs
        · exact hc x hx
      have no := ih.no hcl e.1
      rw [hp] at no
      refine (ih.hang h0 (c := n) (q := s) (h0 n e.1) (fun o => no ?_)).cong (fun x hx => ?_)
      · have := (pu_On.st (h0 s hs) (fun q => e.2.1 q.symm)).mp o
        rw [hps] at this; exact this
      · unfold pu_upd pu_al
        by_cases ex : x = n
        · rw [if_pos ex, if_pos ⟨by omega, hx, by rw [ex]; exact e.2.1, by rw [ex]; exact e.2.2⟩]
        · rw [if_neg ex]
          by_cases r : x < n ∧ t x = true ∧ x ≠ s ∧ p x = q
          · rw [if_pos r, if_pos ⟨by omega, r.2⟩]
          · rw [if_neg r, if_neg (fun k => r ⟨by omega, k.2⟩)]
    · refine ih.cong (fun x hx => ?_)
      unfold pu_al
      by_cases r : x < n ∧ t x = true ∧ x ≠ s ∧ p x = q
      · rw [if_pos r, if_pos ⟨by omega, r.2⟩]
      · rw [if_neg r, if_neg (fun k => by
          by_cases ex : x = n
          · exact e (by rw [← ex]; exact k.2)
          · exact r ⟨by omega, k.2⟩)]
