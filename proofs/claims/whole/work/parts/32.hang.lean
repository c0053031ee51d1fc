-- ===== hang =====
def pu_hc (σ : qm_M) (c p : Nat) : qm_M := qm_sl (qm_si σ (2 + c) 0 (nI p)) (2 + c) 12 (σ.2 (2 + p) 13)
def pu_hm (τ : qm_M) (c p : Nat) : qm_M := qm_sl (qm_sl τ 211 (16 * c + 1) (nI p).toInt64) 211 (16 * c + 9) (τ.2 211 (16 * p + 10))
theorem pc_hang (σ : qm_M) {c p : Nat} (hc : c ≤ 12) (hp : p ≤ 12) : fn_X3_hang σ 0 (nI c) (nI p) = some (pu_hc σ c p) := by
  unfold fn_X3_hang
  simp only [Option.bind_some]
  rw [if_pos (pu_in (show c < 13 by omega) (by omega)), if_pos (pu_in (show c < 13 by omega) (by omega)), if_pos (pu_in (show p < 13 by omega) (by omega)), pu_clamp (by omega), pu_clamp (by omega), show 0 + 1 + 1 + c = 2 + c by omega, show 0 + 1 + 1 + p = 2 + p by omega]
  rfl
theorem pm_hang (τ : qm_M) {c p : Nat} (hc : c ≤ 12) (hp : p ≤ 12) : fn_X7_hangs τ (nI c) (nI p) = some (pu_hm τ c p) := by
  unfold fn_X7_hangs
  rw [pu_puts_1 τ hc]
  simp only [Option.bind_some]
  rw [pu_its_10 _ hp]
  simp only [Option.bind_some]
  rw [pu_puts_9 _ hc, Option.bind_some, qm_sl_at, if_neg (by omega)]
  rfl
theorem RT.hang {σ τ : qm_M} (h : RT σ (τ.2 211)) {c p : Nat} (hc : c ≤ 12) (hp : p = 0 ∨ pu_t σ p = true) (h12 : p ≤ 12) : RT (pu_hc σ c p) ((pu_hm τ c p).2 211) := by
  have e : τ.2 211 (16 * p + 10) = σ.2 (2 + p) 13 := by
    rcases Nat.eq_zero_or_pos p with q | q
    · rw [q]; exact h.2.2.2.1
    · exact (h.2.2.1 p q h12 (hp.resolve_left (by omega))).2.1
  have h1 := (h.wr hc (show 0 < 12 by omega) (nI p)).tn hc (σ.2 (2 + p) 13)
  unfold pu_hc pu_hm
  rw [qm_sl_row, qm_sl_row, e]
  exact h1
theorem pu_hc_1 (σ : qm_M) (c p : Nat) : (pu_hc σ c p).1 = (qm_si σ (2 + c) 0 (nI p)).1 := rfl
theorem pu_hc_L (σ : qm_M) {c : Nat} (p : Nat) (hc : c ≤ 12) : Lc σ (pu_hc σ c p) := (Lc.si σ _ _ (by omega)).tr (Lc.sl _ _ _ (by omega))
theorem pu_hm_L (τ : qm_M) (c p : Nat) : Lm τ (pu_hm τ c p) := (Lm.sl τ _ _).tr (Lm.sl _ _ _)
theorem pu_si_si (σ : qm_M) (id k : Nat) (x y : Int32) : qm_si (qm_si σ id k x) id k y = qm_si σ id k y := by
  unfold qm_si
  refine Prod.ext ?_ rfl
  funext i j
  dsimp only
  by_cases h : i = id ∧ j = k
  · rw [if_pos h, if_pos h]
  · rw [if_neg h, if_neg h, if_neg h]
theorem pu_si_cm (σ : qm_M) {id id' k k' : Nat} (x y : Int32) (h : ¬ (id = id' ∧ k = k')) : qm_si (qm_si σ id k x) id' k' y = qm_si (qm_si σ id' k' y) id k x := by
  unfold qm_si
  refine Prod.ext ?_ rfl
  funext i j
  dsimp only
  by_cases h1 : i = id' ∧ j = k'
  · rw [if_pos h1, if_neg (fun q => h ⟨by omega, by omega⟩), if_pos h1]
  · rw [if_neg h1]
    by_cases h2 : i = id ∧ j = k
    · rw [if_pos h2, if_pos h2]
    · rw [if_neg h2, if_neg h2, if_neg h1]
theorem pu_hc_cm (σ : qm_M) {c s p k : Nat} (v : Int32) (h : ¬ (c = s ∧ k = 0)) : pu_hc (qm_si σ (2 + s) k v) c p = qm_si (pu_hc σ c p) (2 + s) k v := by
  unfold pu_hc
  rw [pu_si_cm σ v (nI p) (fun q => h ⟨by omega, by omega⟩)]
  rfl
/-- who hangs where when s comes to p -/
def pu_nw (σ : qm_M) (s p : Nat) (al n : Nat) (x : Nat) : Int32 := if x = s then nI p else if al = 1 ∧ x < n ∧ pu_t σ x = true ∧ σ.1 (2 + x) 0 = nI p then nI s else σ.1 (2 + x) 0
theorem pu_attach {σ τ : qm_M} {s p al : Nat} {v : Int32} (h : RT (qm_si σ (2 + s) 0 v) (τ.2 211)) (h1 : 1 ≤ s) (h2 : s ≤ 12) (ht : pu_t σ s = true) (hp : p = 0 ∨ pu_t σ p = true) (h12 : p ≤ 12) (hps : p ≠ s) (hal : al ≤ 1) :
    ∃ σ' τ', fn_X3_attach σ 0 (nI s) (nI p) (nI al) = some σ' ∧ fn_X7_comesTo τ (nI s) (nI p) (nI al) = some τ' ∧ RT σ' (τ'.2 211) ∧ Lc σ σ' ∧ Lm τ τ' ∧ σ'.1 0 = σ.1 0 ∧ (∀ x k, k ≠ 0 → σ'.1 (2 + x) k = σ.1 (2 + x) k) ∧ (∀ x, 1 ≤ x → x ≤ 12 → σ'.1 (2 + x) 0 = pu_nw σ s p al 13 x) := by
  have fin : ∀ (a b : qm_M), RT (qm_si a (2 + s) 0 v) (b.2 211) → (p = 0 ∨ pu_t a p = true) → RT (pu_hc a s p) ((pu_hm b s p).2 211) := by
    intro a b hab ha
    have e0 : (qm_si a (2 + s) 0 v).1 0 = a.1 0 := qm_si_ne _ _ _ (by omega)
    have := hab.hang (c := s) (p := p) h2 (by show p = 0 ∨ bt ((qm_si a (2 + s) 0 v).1 0 1) p = true; rw [e0]; exact ha) h12
    have e : pu_hc (qm_si a (2 + s) 0 v) s p = pu_hc a s p := by unfold pu_hc; rw [pu_si_si]; rfl
    rw [e] at this; exact this
  match al, hal with
  | 0, _ =>
    refine ⟨pu_hc σ s p, pu_hm τ s p, ?_, ?_, fin σ τ h hp, pu_hc_L σ p h2, pu_hm_L τ s p, ?_, fun x k hk => ?_, fun x x1 x2 => ?_⟩
    · unfold fn_X3_attach
      rw [if_pos (show nI 0 = 0 from rfl), pc_hang σ h2 h12, Option.bind_some]
    · unfold fn_X7_comesTo lp_X7_comesTo_3
      refine pu_inr (n := 999) ?_
      show bb_X7_comesTo_3 τ (nI s) (nI p) (nI 0) 1 = _
      unfold bb_X7_comesTo_3
      rw [if_neg (by decide), if_pos (show nI 0 = 0 from rfl), pm_hang τ h2 h12]; rfl
    · rw [pu_hc_1]; exact qm_si_ne _ _ _ (by omega)
    · rw [pu_hc_1]
      unfold qm_si
      dsimp only
      rw [if_neg (fun q => hk q.2)]
    · rw [pu_hc_1]
      unfold pu_nw
      by_cases e : x = s
      · rw [if_pos e, e, qm_si_at, if_pos rfl]
      · rw [if_neg e, if_neg (fun q => absurd q.1 (by omega)), qm_si_ne _ _ _ (by omega)]
  | 1, _ =>
    have key := pu_for2 (S := Int32 × qm_M) (R := qm_M) (S' := Int32 × qm_M) (R' := qm_M) (body := fun x => bb_X3_hangChildren_2 x.2 0 (nI p) (nI s) x.1) (body' := fun x => bb_X7_comesTo_3 x.2 (nI s) (nI p) (nI 1) x.1) (A := qm_M) (A' := qm_M) (fun a j => (nI j, a)) (fun a j => (nI j, a))
      (fun j a b => RT (qm_si a (2 + s) 0 v) (b.2 211) ∧ Lc σ a ∧ Lm τ b ∧ a.1 0 = σ.1 0 ∧ (∀ x k, k ≠ 0 → a.1 (2 + x) k = σ.1 (2 + x) k) ∧ (∀ x, 1 ≤ x → x ≤ 12 → x ≠ s → a.1 (2 + x) 0 = pu_nw σ s p 1 j x))
      (fun a b => RT (pu_hc a s p) (b.2 211) ∧ Lc σ a ∧ Lm τ b ∧ a.1 0 = σ.1 0 ∧ (∀ x k, k ≠ 0 → a.1 (2 + x) k = σ.1 (2 + x) k) ∧ (∀ x, 1 ≤ x → x ≤ 12 → x ≠ s → a.1 (2 + x) 0 = pu_nw σ s p 1 13 x))
      (fun a b j j1 j2 hr => ?_) (fun a b hr => ?_) 12 1 σ τ 1000 1000 rfl (by omega) (by omega) (by omega) ⟨h, Lc.rf σ, Lm.rf τ, rfl, fun _ _ _ => rfl, fun x x1 x2 x3 => ?_⟩
    · obtain ⟨σ', τ', k1, k2, k3, k4, k5, k6, k7, k8⟩ := key
      have e1 : fn_X3_hangChildren σ 0 (nI p) (nI s) = some σ' := k1
      refine ⟨pu_hc σ' s p, τ', ?_, k2, k3, k4.tr (pu_hc_L σ' p h2), k5, ?_, fun x k hk => ?_, fun x x1 x2 => ?_⟩
      · unfold fn_X3_attach
        rw [if_neg (by decide), e1, Option.bind_some, pc_hang σ' h2 h12, Option.bind_some]
      · rw [pu_hc_1, qm_si_ne _ _ _ (by omega)]; exact k6
      · rw [← k7 x k hk, pu_hc_1]
        unfold qm_si
        dsimp only
        rw [if_neg (fun q => hk q.2)]
      · rw [pu_hc_1]
        by_cases e : x = s
        · unfold pu_nw
          rw [if_pos e, e, qm_si_at, if_pos rfl]
        · rw [qm_si_ne _ _ _ (by omega)]; exact k8 x x1 x2 e
    · obtain ⟨r1, r2, r3, r4, r5, r6⟩ := hr
      left
      dsimp only
      unfold bb_X3_hangChildren_2 bb_X7_comesTo_3
      rw [if_neg (pu_h12 j2), if_neg (pu_h12 j2), if_neg (show ¬ nI 1 = 0 by decide)]
      have nx : ∀ x, x ≠ j → pu_nw σ s p 1 (j + 1) x = pu_nw σ s p 1 j x := by
        intro x hx
        unfold pu_nw
        by_cases e : x = s
        · rw [if_pos e, if_pos e]
        · rw [if_neg e, if_neg e]
          by_cases q : 1 = 1 ∧ x < j ∧ pu_t σ x = true ∧ σ.1 (2 + x) 0 = nI p
          · rw [if_pos q, if_pos ⟨rfl, by omega, q.2.2⟩]
          · rw [if_neg q, if_neg (fun k => q ⟨rfl, by omega, k.2.2⟩)]
      by_cases e : j = s
      · rw [if_pos (by rw [e]), if_pos (by rw [e]), pu_s1]
        exact ⟨a, b, rfl, rfl, r1, r2, r3, r4, r5, fun x x1 x2 x3 => by rw [nx x (by omega)]; exact r6 x x1 x2 x3⟩
      · have ne : ¬ nI j = nI s := by rw [pu_eq (by omega) (by omega)]; exact e
        have ech : pu_ch (qm_si a (2 + s) 0 v) (nI p) j = pu_ch a (nI p) j := by
          show (bt ((qm_si a (2 + s) 0 v).1 0 1) j && decide ((qm_si a (2 + s) 0 v).1 (2 + j) 0 = nI p)) = _
          rw [qm_si_ne _ _ _ (by omega), qm_si_ne _ _ _ (by omega)]
        rw [if_neg ne, if_neg ne, pc_isChild a _ j2, pm_isChild r1 _ j1 j2, ech]
        simp only [Option.bind_some, pu_s1]
        have ej : a.1 (2 + j) 0 = σ.1 (2 + j) 0 := by
          rw [r6 j j1 j2 e]; unfold pu_nw; rw [if_neg e, if_neg (fun q => by omega)]
        have ech2 : pu_ch a (nI p) j = pu_ch σ (nI p) j := by
          show (bt (a.1 0 1) j && decide (a.1 (2 + j) 0 = nI p)) = _
          rw [r4, ej]
        rw [ech2]
        cases hch : pu_ch σ (nI p) j
        · rw [pu_iff, pu_iff]
          refine ⟨a, b, rfl, rfl, r1, r2, r3, r4, r5, fun x x1 x2 x3 => ?_⟩
          by_cases ex : x = j
          · rw [r6 x x1 x2 x3, ex]
            unfold pu_nw
            rw [if_neg e, if_neg e, if_neg (fun q => by omega), if_neg (fun q => by
              have hch : (bt (σ.1 0 1) j && decide (σ.1 (2 + j) 0 = nI p)) = false := hch
              have q3 : bt (σ.1 0 1) j = true := q.2.2.1
              rw [q3, decide_eq_true q.2.2.2] at hch; cases hch)]
          · rw [nx x ex]; exact r6 x x1 x2 x3
        · have hch : (bt (σ.1 0 1) j && decide (σ.1 (2 + j) 0 = nI p)) = true := hch
          rw [Bool.and_eq_true] at hch
          rw [pu_ift, pu_ift, pc_hang a j2 h2, pm_hang b j2 h2]
          refine ⟨pu_hc a j s, pu_hm b j s, rfl, rfl, ?_, r2.tr (pu_hc_L a s j2), r3.tr (pu_hm_L b j s), ?_, fun x k hk => ?_, fun x x1 x2 x3 => ?_⟩
          · rw [← pu_hc_cm a v (fun q => e q.1)]
            refine r1.hang j2 (Or.inr ?_) h2
            show bt ((qm_si a (2 + s) 0 v).1 0 1) s = true
            rw [qm_si_ne _ _ _ (by omega), r4]; exact ht
          · rw [pu_hc_1, qm_si_ne _ _ _ (by omega)]; exact r4
          · rw [← r5 x k hk, pu_hc_1]
            unfold qm_si
            dsimp only
            rw [if_neg (fun q => hk q.2)]
          · rw [pu_hc_1]
            by_cases ex : x = j
            · rw [ex, qm_si_at, if_pos rfl]
              unfold pu_nw
              rw [if_neg e, if_pos ⟨rfl, by omega, hch.1, of_decide_eq_true hch.2⟩]
            · rw [qm_si_ne _ _ _ (by omega), nx x ex]; exact r6 x x1 x2 x3
    · obtain ⟨r1, r2, r3, r4, r5, r6⟩ := hr
      dsimp only
      unfold bb_X3_hangChildren_2 bb_X7_comesTo_3
      rw [if_pos pu_13, if_pos pu_13, pm_hang b h2 h12]
      exact ⟨a, pu_hm b s p, rfl, rfl, fin a b r1 (by show p = 0 ∨ bt (a.1 0 1) p = true; rw [r4]; exact hp), r2, r3.tr (pu_hm_L b s p), r4, r5, r6⟩
    · unfold pu_nw
      rw [if_neg x3, if_neg (fun q => by omega)]
