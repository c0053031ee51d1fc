-- ===== who is next =====
theorem pu_m1 {n : Nat} (h : n < 2147483648) : ¬ nI n = -1 := by
  intro e
  have := nI_pos (n := n) (by omega)
  rw [e] at this
  exact this (by decide)
theorem pu_tst (v : Int32) {k : Nat} (hk : k < 32) : ((v >>> (nI k &&& 31)) &&& 1 = 1) ↔ bt v k = true := by
  rw [pu_bit1 v hk]
  cases bt v k
  · exact ⟨fun h => absurd h (by decide), fun h => absurd h (by decide)⟩
  · exact ⟨fun _ => rfl, fun _ => by decide⟩
def pu_tl (σ : qm_M) (x : Nat) : Int64 := if bt (σ.1 0 2) x = true then σ.2 (2 + x) 12 else if σ.2 (2 + x) 12 < σ.2 (2 + pu_par σ x) 13 then σ.2 (2 + pu_par σ x) 13 else σ.2 (2 + x) 12
theorem pc_turnOnLook {σ : qm_M} (G : pu_G σ) {x : Nat} (hx : pu_t σ x = true) : fn_X0_turnOnLook σ 0 (nI x) = some (pu_tl σ x) := by
  have hb := G.1 x hx
  have g := G.2.1 x hx
  unfold fn_X0_turnOnLook pu_tl
  rw [if_pos (pu_in (show x < 13 by omega) (by omega)), pu_has _ _ (by omega), Option.bind_some]
  rw [pu_clamp (by omega), show 0 + 1 + 1 + x = 2 + x by omega, g.2.1]
  cases bt (σ.1 0 2) x
  · rw [pu_iff, if_neg (show ¬ (false = true) by decide), if_pos (pu_in (show pu_par σ x < 13 by omega) (by omega)), pu_clamp (by omega), show 0 + 1 + 1 + pu_par σ x = 2 + pu_par σ x by omega]
    unfold fn_Jl_max
    by_cases c : σ.2 (2 + x) 12 < σ.2 (2 + pu_par σ x) 13
    · rw [if_pos ((lg_cmp_lt _ _).mpr c), if_pos c]; rfl
    · rw [if_neg (fun q => c ((lg_cmp_lt _ _).mp q)), if_neg c]; rfl
  · rw [pu_ift, if_pos rfl]
theorem RT.flo {σ : qm_M} {g : Nat → Int64} (h : RT σ g) {p : Nat} (h12 : p ≤ 12) (hp : p = 0 ∨ pu_t σ p = true) : g (16 * p + 10) = σ.2 (2 + p) 13 := by
  rcases Nat.eq_zero_or_pos p with q | q
  · rw [q]; exact h.2.2.2.1
  · exact (h.2.2.1 p q h12 (hp.resolve_left (by omega))).2.1
theorem pm_turnThen {σ τ : qm_M} (h : RT σ (τ.2 211)) (G : pu_G σ) {x : Nat} (hx : pu_t σ x = true) {L : Int32} (hL : bt L x = true) : fn_X7_turnThen τ (nI x) L = some (pu_tl σ x) := by
  have hb := G.1 x hx
  have g := G.2.1 x hx
  obtain ⟨t1, t2, t3⟩ := h.2.2.1 x hb.1 hb.2 hx
  have fl := h.flo g.1 g.2.2
  have bod : ∀ k0, bb_X7_turnThen_26 τ (nI x) k0 = if k0 = 0 then some (σ.2 (2 + x) 12) else if (lg_cmp (σ.2 (2 + pu_par σ x) 13) (σ.2 (2 + x) 12)) ≤ 0 then some (σ.2 (2 + x) 12) else some (σ.2 (2 + pu_par σ x) 13) := by
    intro k0
    unfold bb_X7_turnThen_26
    rw [pm_parent h hb.1 hb.2 hx, Option.bind_some, g.2.1, pu_its_10 τ g.1, Option.bind_some, pu_its_9 τ hb.2, fl, t1]
    rfl
  unfold fn_X7_turnThen pu_tl
  rw [if_pos ((pu_tst L (by omega)).mpr hL), pu_its_15 τ hb.2, Option.bind_some, t3, bod, bod]
  cases bt (σ.1 0 2) x
  · rw [if_neg (show ¬ (false = true) by decide), if_pos (by decide), if_neg (by decide), if_neg (show ¬ (false = true) by decide)]
    by_cases c : σ.2 (2 + x) 12 < σ.2 (2 + pu_par σ x) 13
    · rw [if_neg (fun q => lg_lt_not_le c ((lg_cmp_le _ _).mp q)), if_pos c]
    · have le : σ.2 (2 + pu_par σ x) 13 ≤ σ.2 (2 + x) 12 := by
        rcases lg_tri (σ.2 (2 + x) 12) (σ.2 (2 + pu_par σ x) 13) with q | q | q
        · exact absurd q c
        · rw [q, Int64.le_iff_toInt_le]; omega
        · rw [Int64.le_iff_toInt_le]; rw [Int64.lt_iff_toInt_lt] at q; omega
      rw [if_pos ((lg_cmp_le _ _).mpr le), if_neg c]
  · rw [if_pos rfl, if_neg (by decide), if_pos rfl, if_pos rfl]
theorem pu_setl {P : Nat → Bool} {i : Nat} (h1 : 1 ≤ i) (h2 : i ≤ 12) : bt (pu_set P) i = P i := by
  rw [pu_set_bt P (by omega), decide_eq_true ⟨h1, h2⟩, Bool.true_and]
theorem pu_first {σ τ : qm_M} (h : RT σ (τ.2 211)) (G : pu_G σ) {L : Int32} (hL : ∀ i, 1 ≤ i → i ≤ 12 → bt L i = pu_live σ i) {p : Nat} (hp : p ≤ 12) : ∃ r, fn_X0_leastTurn σ 0 (nI p) L = some r ∧ fn_X7_first τ (nI p) L = some r ∧ ((r = -1 ∧ ∀ x, 1 ≤ x → x < 13 → pu_live σ x = true → ¬ σ.1 (2 + x) 0 = nI p) ∨ ∃ l, 1 ≤ l ∧ l ≤ 12 ∧ pu_live σ l = true ∧ σ.1 (2 + l) 0 = nI p ∧ r = nI l) := by
  have key := pu_for2 (S := Int32 × Int64 × Int32) (R := Int32) (S' := Int32 × Int32) (R' := Int32) (body := fun x => bb_X0_leastTurn_8 σ 0 (nI p) L x.1 x.2.1 x.2.2) (body' := fun x => bb_X7_first_5 τ (nI p) L x.1 x.2) (A := Int32 × Int64) (A' := Int32) (fun a j => (a.1, a.2, nI j)) (fun a j => (a, nI j))
    (fun j a a' => a.1 = a' ∧ ((a' = -1 ∧ ∀ x, 1 ≤ x → x < j → pu_live σ x = true → ¬ σ.1 (2 + x) 0 = nI p) ∨ ∃ l, 1 ≤ l ∧ l ≤ 12 ∧ pu_live σ l = true ∧ σ.1 (2 + l) 0 = nI p ∧ a' = nI l ∧ a.2 = pu_tl σ l))
    (fun r r' => r = r' ∧ ((r' = -1 ∧ ∀ x, 1 ≤ x → x < 13 → pu_live σ x = true → ¬ σ.1 (2 + x) 0 = nI p) ∨ ∃ l, 1 ≤ l ∧ l ≤ 12 ∧ pu_live σ l = true ∧ σ.1 (2 + l) 0 = nI p ∧ r' = nI l))
    (fun a a' j h1 h2 hr => ?_) (fun a a' hr => ?_) 12 1 ((-1 : Int32), (0 : Int64)) (-1) 1000 1000 rfl (by omega) (by omega) (by omega) ⟨rfl, Or.inl ⟨rfl, fun x a b => absurd b (by omega)⟩⟩
  · obtain ⟨r, r', k1, k2, rfl, k4⟩ := key
    exact ⟨r, k1, k2, k4⟩
  · left
    obtain ⟨e, hr⟩ := hr
    obtain ⟨a1, a2⟩ := a
    have e : a1 = a' := e
    subst e
    dsimp only at hr ⊢
    unfold bb_X0_leastTurn_8 bb_X7_first_5
    rw [if_neg (pu_h12 h2), if_neg (pu_h12 h2), pu_has _ _ (by omega), pm_isChild h _ h1 h2, hL j h1 h2, pu_s1]
    simp only [Option.bind_some]
    cases hl : pu_live σ j
    · rw [pu_iff]
      have keep : ∃ b : Int32 × Int64, ∃ b' : Int32, some (Sum.inl (a1, a2, nI (j + 1))) = some (Sum.inl (β := Int32) (b.1, b.2, nI (j + 1))) ∧ some (Sum.inl (a1, nI (j + 1))) = some (Sum.inl (β := Int32) (b', nI (j + 1))) ∧ b.1 = b' ∧ ((b' = -1 ∧ ∀ x, 1 ≤ x → x < j + 1 → pu_live σ x = true → ¬ σ.1 (2 + x) 0 = nI p) ∨ ∃ l, 1 ≤ l ∧ l ≤ 12 ∧ pu_live σ l = true ∧ σ.1 (2 + l) 0 = nI p ∧ b' = nI l ∧ b.2 = pu_tl σ l) := by
        refine ⟨(a1, a2), a1, rfl, rfl, rfl, hr.imp (fun q => ⟨q.1, fun x x1 x2 x3 => ?_⟩) id⟩
        by_cases e : x = j
        · rw [e, hl] at x3; cases x3
        · exact q.2 x x1 (by omega) x3
      cases pu_ch σ (nI p) j
      · rw [pu_iff]; exact keep
      · rw [pu_ift, if_neg (fun q => by have := (pu_tst L (by omega)).mp q; rw [hL j h1 h2, hl] at this; cases this)]; exact keep
    · have tj := pu_live_t G hl
      have tj' : bt (σ.1 0 1) j = true := tj
      have hLj : bt L j = true := by rw [hL j h1 h2, hl]
      rw [pu_ift, if_pos (pu_in (show j < 13 by omega) (by omega)), pu_clamp (by omega), show 0 + 1 + 1 + j = 2 + j by omega]
      have ec : pu_ch σ (nI p) j = decide (σ.1 (2 + j) 0 = nI p) := by
        show (bt (σ.1 0 1) j && decide (σ.1 (2 + j) 0 = nI p)) = _
        rw [tj', Bool.true_and]
      rw [ec]
      by_cases c : σ.1 (2 + j) 0 = nI p
      · rw [if_pos c, decide_eq_true c, pu_ift, if_pos ((pu_tst L (by omega)).mpr hLj), pc_turnOnLook G tj, Option.bind_some]
        rcases hr with ⟨rfl, hn⟩ | ⟨l, l1, l2, l3, l4, rfl, l6⟩
        · rw [if_pos rfl, if_pos rfl]
          exact ⟨(nI j, pu_tl σ j), nI j, rfl, rfl, rfl, Or.inr ⟨j, h1, h2, hl, c, rfl, rfl⟩⟩
        · have tl := pu_live_t G l3
          rw [if_neg (pu_m1 (by omega)), if_neg (pu_m1 (by omega)), pm_turnThen h G tj hLj, pm_turnThen h G tl (by rw [hL l l1 l2, l3]), l6]
          simp only [Option.bind_some]
          by_cases c2 : 0 ≤ lg_cmp (pu_tl σ j) (pu_tl σ l)
          · rw [if_pos c2, if_pos c2]
            exact ⟨(nI l, pu_tl σ l), nI l, rfl, rfl, rfl, Or.inr ⟨l, l1, l2, l3, l4, rfl, rfl⟩⟩
          · rw [if_neg c2, if_neg c2]
            exact ⟨(nI j, pu_tl σ j), nI j, rfl, rfl, rfl, Or.inr ⟨j, h1, h2, hl, c, rfl, rfl⟩⟩
      · rw [if_neg c, decide_eq_false c, pu_iff]
        refine ⟨(a1, a2), a1, rfl, rfl, rfl, hr.imp (fun q => ⟨q.1, fun x x1 x2 x3 => ?_⟩) id⟩
        by_cases e : x = j
        · rw [e]; exact c
        · exact q.2 x x1 (by omega) x3
  · obtain ⟨e, hr⟩ := hr
    dsimp only
    unfold bb_X0_leastTurn_8 bb_X7_first_5
    rw [if_pos pu_13, if_pos pu_13]
    refine ⟨a.1, a', rfl, rfl, e, hr.imp id (fun ⟨l, l1, l2, l3, l4, l5, _⟩ => ⟨l, l1, l2, l3, l4, l5⟩)⟩
-- lines, step by step
theorem pu_it_s (p : Nat → Nat) : ∀ i s, pu_it p (i + 1) s = p (pu_it p i s) := by
  intro i
  induction i with
  | zero => intro s; rfl
  | succ i ih => intro s; exact ih (p s)
theorem pu_up_it {p : Nat → Nat} : ∀ k m j, k < m → (∀ i, i ≤ k → pu_it p i j ≠ 0) → pu_up p m j (pu_it p k j) = true
  | 0, m, j, h, h0 => by
    obtain ⟨m, rfl⟩ : ∃ q, m = q + 1 := ⟨m - 1, by omega⟩
    unfold pu_up
    rw [if_neg (show ¬ j = 0 from h0 0 (by omega))]
    show (decide (j = j) || _) = true
    rw [decide_eq_true rfl, Bool.true_or]
  | k + 1, m, j, h, h0 => by
    obtain ⟨m, rfl⟩ : ∃ q, m = q + 1 := ⟨m - 1, by omega⟩
    unfold pu_up
    rw [if_neg (show ¬ j = 0 from h0 0 (by omega))]
    have := pu_up_it (p := p) k m (p j) (by omega) (fun i hi => h0 (i + 1) (by omega))
    show (decide (j = _) || pu_up p m (p j) (pu_it p k (p j))) = true
    rw [this, Bool.or_true]
theorem pu_up_ix {p : Nat → Nat} : ∀ m j x, pu_up p m j x = true → ∃ k, k < m ∧ pu_it p k j = x ∧ ∀ i, i ≤ k → pu_it p i j ≠ 0
  | 0, _, _, h => by cases h
  | m + 1, j, x, h => by
    unfold pu_up at h
    by_cases h0 : j = 0
    · rw [if_pos h0] at h; cases h
    · rw [if_neg h0] at h
      by_cases e : j = x
      · exact ⟨0, by omega, e, fun i hi => by rw [show i = 0 by omega]; exact h0⟩
      · rw [decide_eq_false e, Bool.false_or] at h
        obtain ⟨k, k1, k2, k3⟩ := pu_up_ix m (p j) x h
        refine ⟨k + 1, by omega, k2, fun i hi => ?_⟩
        cases i with
        | zero => exact h0
        | succ i => exact k3 i (by omega)
/-- a live one that cannot, or the root when one can, has a live child -/
theorem pu_lchild {σ : qm_M} (G : pu_G σ) {j : Nat} (hj : pu_can σ j = true) {a : Nat} (ha : a ≠ j) (hl : a = 0 ∨ pu_ln σ j a = true) : ∃ z, 1 ≤ z ∧ z ≤ 12 ∧ pu_live σ z = true ∧ pu_par σ z = a := by
  have tj : pu_t σ j = true := by
    have hj : (pu_t σ j && pu_c σ j) = true := hj
    rw [Bool.and_eq_true] at hj; exact hj.1
  have bj := G.1 j tj
  obtain ⟨n, n1, n2, n3, n4⟩ := pu_chain G tj
  have nz : ∀ i, i < n → pu_it (pu_par σ) i j ≠ 0 := fun i hi => by have := (G.1 _ (n4 i hi)).1; omega
  have ex : ∃ k, k < n ∧ pu_it (pu_par σ) (k + 1) j = a := by
    rcases hl with h0 | h0
    · exact ⟨n - 1, by omega, by rw [show n - 1 + 1 = n by omega, n3, h0]⟩
    · obtain ⟨k, k1, k2, k3⟩ := pu_up_ix 12 j a h0
      have hk : k < n := by
        rcases Nat.lt_or_ge k n with q | q
        · exact q
        · exact absurd n3 (k3 n q)
      cases k with
      | zero => exact absurd k2.symm ha
      | succ k => exact ⟨k, by omega, k2⟩
  obtain ⟨k, k1, k2⟩ := ex
  have tz := n4 k k1
  have bz := G.1 _ tz
  refine ⟨pu_it (pu_par σ) k j, bz.1, bz.2, ?_, by rw [pu_it_s] at k2; exact k2⟩
  rw [show pu_live σ (pu_it (pu_par σ) k j) = pu_any (fun s => pu_can σ s && pu_ln σ s (pu_it (pu_par σ) k j)) 13 from rfl, pu_any_iff]
  refine ⟨j, by omega, ?_⟩
  show (pu_can σ j && pu_up (pu_par σ) 12 j (pu_it (pu_par σ) k j)) = true
  rw [hj, pu_up_it k 12 j (by omega) (fun i hi => nz i (by omega))]; rfl
theorem pu_live_ex {σ : qm_M} {i : Nat} (h : pu_live σ i = true) : ∃ j, j ≤ 12 ∧ pu_can σ j = true ∧ pu_ln σ j i = true := by
  rw [show pu_live σ i = pu_any (fun s => pu_can σ s && pu_ln σ s i) 13 from rfl, pu_any_iff] at h
  obtain ⟨j, j1, j2⟩ := h
  have j2 : (pu_can σ j && pu_ln σ j i) = true := j2
  rw [Bool.and_eq_true] at j2
  exact ⟨j, by omega, j2⟩
theorem pu_byTree {B : Nat} {σ τ : qm_M} (h : RT σ (τ.2 211)) (w : WF B σ) (G : pu_G σ) {C L : Int32} (hC : ∀ i, 1 ≤ i → i ≤ 12 → bt C i = pu_can σ i) (hL : ∀ i, 1 ≤ i → i ≤ 12 → bt L i = pu_live σ i) {j : Nat} (hj : pu_can σ j = true) : ∃ s, fn_X0_byTree σ 0 C L = some (nI s) ∧ (∃ r2, fn_X7_first τ (nI 0) L = some r2 ∧ lp_X7_byTree_12 τ L r2 = some (nI s)) ∧ 1 ≤ s ∧ s ≤ 12 ∧ pu_can σ s = true := by
  have key : ∀ m k a, k + m = 12 → (a = 0 ∨ pu_t σ a = true) → (∀ i, i < k → pu_it (pu_par σ) i a ≠ 0) → (∃ j, pu_can σ j = true ∧ a ≠ j ∧ (a = 0 ∨ pu_ln σ j a = true)) → ∃ s, qm_loop (fun x : Int32 × Int32 => bb_X0_byTree_5 σ 0 C L x.1 x.2) (m + 1 + 987) (nI a, nI k) = some (nI s) ∧ (∃ r2, fn_X7_first τ (nI a) L = some r2 ∧ ∀ n, m < n → qm_loop (fun x : Int32 => bb_X7_byTree_12 τ L x) n r2 = some (nI s)) ∧ 1 ≤ s ∧ s ≤ 12 ∧ pu_can σ s = true := by
    intro m
    induction m with
    | zero =>
      intro k a hk ha hi ⟨j, j1, j2, j3⟩
      exfalso
      obtain ⟨z, z1, z2, z3, z4⟩ := pu_lchild G j1 j2 j3
      obtain ⟨n, n1, n2, n3, n4⟩ := pu_chain G (pu_live_t G z3)
      obtain ⟨n, rfl⟩ : ∃ q, n = q + 1 := ⟨n - 1, by omega⟩
      have n3 : pu_it (pu_par σ) n (pu_par σ z) = 0 := n3
      rw [z4] at n3
      exact hi n (by omega) n3
    | succ m ih =>
      intro k a hk ha hi ⟨j, j1, j2, j3⟩
      have a12 : a ≤ 12 := by
        rcases ha with q | q
        · omega
        · exact (G.1 a q).2
      obtain ⟨r, f1, f2, f3⟩ := pu_first h G hL a12
      obtain ⟨z, z1, z2, z3, z4⟩ := pu_lchild G j1 j2 j3
      rcases f3 with ⟨-, f3⟩ | ⟨l, l1, l2, l3, l4, rfl⟩
      · exact absurd (by rw [(G.2.1 z (pu_live_t G z3)).2.1, z4]) (f3 z z1 (by omega) z3)
      · have tl := pu_live_t G l3
        have gl := G.2.1 l tl
        have pl : pu_par σ l = a := by rw [gl.2.1, pu_eq (by omega) (by omega)] at l4; exact l4
        have n12 : ¬ ((12 : Int32) ≤ nI k) := by show ¬ nI 12 ≤ nI k; rw [pu_le (by omega) (by omega)]; omega
        by_cases c : pu_can σ l = true
        · refine ⟨l, ?_, ⟨nI l, f2, fun n hn => ?_⟩, l1, l2, c⟩
          · rw [show m + 1 + 1 + 987 = (m + 1 + 987) + 1 by omega]
            refine pu_inr ?_
            show bb_X0_byTree_5 σ 0 C L (nI a) (nI k) = _
            unfold bb_X0_byTree_5
            rw [if_neg n12, f1, Option.bind_some, if_neg (pu_m1 (by omega)), pu_has _ _ (by omega), hC l l1 l2, c, Option.bind_some, pu_ift]; rfl
          · obtain ⟨n, rfl⟩ : ∃ q, n = q + 1 := ⟨n - 1, by omega⟩
            refine pu_inr ?_
            show bb_X7_byTree_12 τ L (nI l) = _
            unfold bb_X7_byTree_12
            rw [if_neg (pu_m1 (by omega)), pm_can h w l1 l2, c, Option.bind_some, pu_ift]; rfl
        · obtain ⟨j', -, j1', j2'⟩ := pu_live_ex l3
          obtain ⟨s, s1, ⟨r2, s2, s3⟩, s4⟩ := ih (k + 1) l (by omega) (Or.inr tl) (fun i hi' => by
            cases i with
            | zero => show l ≠ 0; omega
            | succ i => show pu_it (pu_par σ) i (pu_par σ l) ≠ 0; rw [pl]; exact hi i (by omega)) ⟨j', j1', fun e => c (by rw [e]; exact j1'), Or.inr j2'⟩
          have c' : pu_can σ l = false := by cases hh : pu_can σ l with
            | false => rfl
            | true => exact absurd hh c
          refine ⟨s, ?_, ⟨nI l, f2, fun n hn => ?_⟩, s4⟩
          · rw [show m + 1 + 1 + 987 = (m + 1 + 987) + 1 by omega, ← s1]
            refine pu_inl ?_
            show bb_X0_byTree_5 σ 0 C L (nI a) (nI k) = _
            unfold bb_X0_byTree_5
            rw [if_neg n12, f1, Option.bind_some, if_neg (pu_m1 (by omega)), pu_has _ _ (by omega), hC l l1 l2, c', Option.bind_some, pu_iff, pu_s1]; rfl
          · obtain ⟨n, rfl⟩ : ∃ q, n = q + 1 := ⟨n - 1, by omega⟩
            rw [← s3 n (by omega)]
            refine pu_inl ?_
            show bb_X7_byTree_12 τ L (nI l) = _
            unfold bb_X7_byTree_12
            rw [if_neg (pu_m1 (by omega)), pm_can h w l1 l2, c', Option.bind_some, pu_iff, s2]; rfl
  have tj : pu_t σ j = true := by
    have hj : (pu_t σ j && pu_c σ j) = true := hj
    rw [Bool.and_eq_true] at hj; exact hj.1
  obtain ⟨s, s1, ⟨r2, s2, s3⟩, s4⟩ := key 12 0 0 rfl (Or.inl rfl) (fun i hi => absurd hi (by omega)) ⟨j, hj, by have := (G.1 j tj).1; omega, Or.inl rfl⟩
  exact ⟨s, s1, ⟨r2, s2, s3 1000 (by omega)⟩, s4⟩
theorem pu_isAhead {B : Nat} {σ τ : qm_M} (h : RT σ (τ.2 211)) (w : WF B σ) {x y : Nat} (x1 : 1 ≤ x) (x2 : x ≤ 12) (y1 : 1 ≤ y) (y2 : y ≤ 12) (tx : pu_t σ x = true) (ty : pu_t σ y = true) : ∃ b, fn_X0_isAhead σ (2 + x) (2 + y) = some b ∧ fn_X7_isAhead τ (nI x) (nI y) = some b := by
  have ux : τ.2 211 (16 * x + 5) = (σ.1 (2 + x) 4).toInt64 := h.2.1 x 4 x1 x2 (by omega) tx
  have uy : τ.2 211 (16 * y + 5) = (σ.1 (2 + y) 4).toInt64 := h.2.1 y 4 y1 y2 (by omega) ty
  have sx : τ.2 211 (16 * x + 6) = (σ.1 (2 + x) 5).toInt64 := h.2.1 x 5 x1 x2 (by omega) tx
  have sy : τ.2 211 (16 * y + 6) = (σ.1 (2 + y) 5).toInt64 := h.2.1 y 5 y1 y2 (by omega) ty
  have lx : τ.2 211 (16 * x + 14) = (σ.1 (2 + x) 11).toInt64 := h.2.1 x 11 x1 x2 (by omega) tx
  have ly : τ.2 211 (16 * y + 14) = (σ.1 (2 + y) 11).toInt64 := h.2.1 y 11 y1 y2 (by omega) ty
  obtain ⟨-, -, -, -, -, ⟨a, a1, a2⟩, -⟩ := w.1 x x1 x2 tx
  obtain ⟨-, -, -, -, -, ⟨b, b1, b2⟩, -⟩ := w.1 y y1 y2 ty
  unfold fn_X0_isAhead fn_X7_isAhead
  rw [pu_its_5 τ x2, pu_its_5 τ y2, pu_its_6 τ x2, pu_its_6 τ y2, pu_its_14 τ x2, pu_its_14 τ y2, ux, uy, sx, sy, lx, ly]
  simp only [Option.bind_some]
  have c1 : ∀ u v : Int32, (lg_cmp u.toInt64 v.toInt64 = 0) ↔ u = v := fun u v => by rw [lg_cmp_eq, pu_64inj]
  have c2 : ∀ u v : Int32, (0 ≤ lg_cmp u.toInt64 v.toInt64) ↔ v ≤ u := fun u v => by rw [lg_cmp_ge, pu_64le]
  rw [show (0 : Int64) = (0 : Int32).toInt64 from rfl, show (1 : Int64) = (1 : Int32).toInt64 from rfl]
  by_cases e1 : σ.1 (2 + x) 4 = σ.1 (2 + y) 4
  · rw [if_pos e1, if_pos ((c1 _ _).mpr e1)]
    by_cases e2 : σ.1 (2 + x) 5 = σ.1 (2 + y) 5
    · rw [if_pos e2, if_pos ((c1 _ _).mpr e2)]
      by_cases e3 : σ.1 (2 + x) 5 = 1
      · rw [if_pos e3, if_pos ((c1 _ _).mpr e3)]
        by_cases e4 : σ.1 (2 + y) 11 ≤ σ.1 (2 + x) 11
        · rw [if_pos e4, if_pos ((c2 _ _).mpr e4)]; exact ⟨_, rfl, rfl⟩
        · rw [if_neg e4, if_neg (fun q => e4 ((c2 _ _).mp q))]; exact ⟨_, rfl, rfl⟩
      · rw [if_neg e3, if_neg (fun q => e3 ((c1 _ _).mp q))]; exact ⟨_, rfl, rfl⟩
    · rw [if_neg e2, if_neg (fun q => e2 ((c1 _ _).mp q))]
      have e3 : (σ.1 (2 + y) 5 ≤ σ.1 (2 + x) 5) ↔ ¬ σ.1 (2 + x) 5 = 0 := by
        rw [a2, b2] at e2 ⊢
        rw [pu_eq (by omega) (by omega)] at e2
        rw [pu_le (by omega) (by omega), show (0 : Int32) = nI 0 from rfl, pu_eq (by omega) (by omega)]; omega
      by_cases e4 : σ.1 (2 + x) 5 = 0
      · rw [if_neg (fun q => e3.mp q e4), if_pos ((c1 _ _).mpr e4)]; exact ⟨_, rfl, rfl⟩
      · rw [if_pos (e3.mpr e4), if_neg (fun q => e4 ((c1 _ _).mp q))]; exact ⟨_, rfl, rfl⟩
  · rw [if_neg e1, if_neg (fun q => e1 ((c1 _ _).mp q))]
    by_cases e4 : σ.1 (2 + y) 4 ≤ σ.1 (2 + x) 4
    · rw [if_pos e4, if_pos ((c2 _ _).mpr e4)]; exact ⟨_, rfl, rfl⟩
    · rw [if_neg e4, if_neg (fun q => e4 ((c2 _ _).mp q))]; exact ⟨_, rfl, rfl⟩
theorem pu_can_t {σ : qm_M} {j : Nat} (h : pu_can σ j = true) : pu_t σ j = true := by
  have h : (pu_t σ j && pu_c σ j) = true := h
  rw [Bool.and_eq_true] at h; exact h.1
theorem pu_byUrgency {B : Nat} {σ τ : qm_M} (h : RT σ (τ.2 211)) (w : WF B σ) {C : Int32} (hC : ∀ i, 1 ≤ i → i ≤ 12 → bt C i = pu_can σ i) : ∃ r, fn_X0_byUrgency σ 0 C = some r ∧ fn_X7_byUrgency τ = some r ∧ ((r = -1 ∧ ∀ i, 1 ≤ i → i < 13 → pu_can σ i = false) ∨ ∃ s, 1 ≤ s ∧ s ≤ 12 ∧ pu_can σ s = true ∧ r = nI s) := by
  have key := pu_for2 (S := Int32 × Int32) (R := Int32) (S' := Int32 × Int32) (R' := Int32) (body := fun x => bb_X0_byUrgency_4 σ 0 C x.1 x.2) (body' := fun x => bb_X7_byUrgency_4 τ x.1 x.2) (A := Int32) (A' := Int32) (fun a j => (a, nI j)) (fun a j => (a, nI j)) (fun j a a' => a = a' ∧ ((a' = -1 ∧ ∀ i, 1 ≤ i → i < j → pu_can σ i = false) ∨ ∃ s, 1 ≤ s ∧ s ≤ 12 ∧ pu_can σ s = true ∧ a' = nI s)) (fun a a' => a = a' ∧ ((a' = -1 ∧ ∀ i, 1 ≤ i → i < 13 → pu_can σ i = false) ∨ ∃ s, 1 ≤ s ∧ s ≤ 12 ∧ pu_can σ s = true ∧ a' = nI s)) (fun a a' j h1 h2 hr => ?_) (fun a a' hr => ?_) 12 1 (-1) (-1) 1000 1000 rfl (by omega) (by omega) (by omega) ⟨rfl, Or.inl ⟨rfl, fun i a b => absurd b (by omega)⟩⟩
  · obtain ⟨r, r', k1, k2, rfl, k4⟩ := key
    exact ⟨r, k1, k2, k4⟩
  · left
    obtain ⟨rfl, hr⟩ := hr
    dsimp only
    unfold bb_X0_byUrgency_4 bb_X7_byUrgency_4
    rw [if_neg (pu_h12 h2), if_neg (pu_h12 h2), pu_has _ _ (by omega), hC j h1 h2, pm_can h w h1 h2, pu_s1]
    simp only [Option.bind_some]
    cases hc : pu_can σ j
    · rw [pu_iff, pu_iff]
      refine ⟨a, a, rfl, rfl, rfl, hr.imp (fun q => ⟨q.1, fun i i1 i2 => ?_⟩) id⟩
      by_cases e : i = j
      · rw [e]; exact hc
      · exact q.2 i i1 (by omega)
    · rw [pu_ift, pu_ift]
      rcases hr with ⟨rfl, -⟩ | ⟨s, s1, s2, s3, rfl⟩
      · rw [if_pos rfl, if_pos rfl]
        exact ⟨nI j, nI j, rfl, rfl, rfl, Or.inr ⟨j, h1, h2, hc, rfl⟩⟩
      · obtain ⟨b, b1, b2⟩ := pu_isAhead h w h1 h2 s1 s2 (pu_can_t hc) (pu_can_t s3)
        rw [if_neg (pu_m1 (by omega)), if_neg (pu_m1 (by omega)), if_pos (pu_in (show j < 13 by omega) (by omega)), if_pos (pu_in (show s < 13 by omega) (by omega)), pu_clamp (by omega), pu_clamp (by omega), show 0 + 1 + 1 + j = 2 + j by omega, show 0 + 1 + 1 + s = 2 + s by omega, b1, b2]
        simp only [Option.bind_some]
        cases b
        · rw [pu_iff]; exact ⟨nI s, nI s, rfl, rfl, rfl, Or.inr ⟨s, s1, s2, s3, rfl⟩⟩
        · rw [pu_ift]; exact ⟨nI j, nI j, rfl, rfl, rfl, Or.inr ⟨j, h1, h2, hc, rfl⟩⟩
  · obtain ⟨rfl, hr⟩ := hr
    dsimp only
    unfold bb_X0_byUrgency_4 bb_X7_byUrgency_4
    rw [if_pos pu_13, if_pos pu_13]
    exact ⟨a, a, rfl, rfl, rfl, hr⟩
theorem pu_sender {B : Nat} {σ τ : qm_M} (h : RT σ (τ.2 211)) (w : WF B σ) : ∃ r, fn_X0_sender σ 0 (pu_set (pu_can σ)) (pu_set (pu_live σ)) = some r ∧ fn_X7_nextNow τ = some r ∧ (r = -1 ∨ ∃ s, 1 ≤ s ∧ s ≤ 12 ∧ pu_can σ s = true ∧ r = nI s) := by
  have G := pu_G.of h w
  have hC : ∀ i, 1 ≤ i → i ≤ 12 → bt (pu_set (pu_can σ)) i = pu_can σ i := fun i a b => pu_setl a b
  have hL : ∀ i, 1 ≤ i → i ≤ 12 → bt (pu_set (pu_live σ)) i = pu_live σ i := fun i a b => pu_setl a b
  have e0 : τ.2 211 (208 : Int32).toNatClampNeg = (σ.1 0 3).toInt64 := h.2.2.2.2.1 0 (by omega)
  have e3 : τ.2 211 (211 : Int32).toNatClampNeg = (σ.1 0 6).toInt64 := h.2.2.2.2.1 3 (by omega)
  have c1 : ∀ u : Int32, (lg_cmp u.toInt64 0 = 0) ↔ u = 0 := fun u => by rw [lg_cmp_eq, show (0 : Int64) = (0 : Int32).toInt64 from rfl, pu_64inj]
  unfold fn_X0_sender fn_X7_nextNow
  rw [e0, e3]
  by_cases p0 : σ.1 0 3 = 0
  · rw [if_pos p0, if_pos ((c1 _).mpr p0)]; exact ⟨-1, rfl, rfl, Or.inl rfl⟩
  · rw [if_neg p0, if_neg (fun q => p0 ((c1 _).mp q))]
    by_cases hz : ∃ j, pu_can σ j = true
    · obtain ⟨j, hj⟩ := hz
      have bj := G.1 j (pu_can_t hj)
      have nz : ¬ pu_set (pu_can σ) = 0 := fun q => by
        have := hC j bj.1 bj.2
        rw [q, b_0, hj] at this; cases this
      rw [if_neg nz]
      by_cases s0 : σ.1 0 6 = 0
      · rw [if_pos s0, if_pos ((c1 _).mpr s0)]
        obtain ⟨s, s1, ⟨r2, s2, s3⟩, s4, s5, s6⟩ := pu_byTree h w G hC hL hj
        refine ⟨nI s, by rw [s1]; rfl, ?_, Or.inr ⟨s, s4, s5, s6, rfl⟩⟩
        unfold fn_X7_byTree
        have s2 : fn_X7_first τ 0 (pu_set (pu_live σ)) = some r2 := s2
        rw [pm_liveSet h w, Option.bind_some, s2, Option.bind_some, s3]; rfl
      · rw [if_neg s0, if_neg (fun q => s0 ((c1 _).mp q))]
        obtain ⟨r, r1, r2, r3⟩ := pu_byUrgency h w hC
        exact ⟨r, by rw [r1]; rfl, by rw [r2]; rfl, r3.imp (fun q => q.1) id⟩
    · have hz' : ∀ j, pu_can σ j = false := fun j => by
        cases hh : pu_can σ j with
        | false => rfl
        | true => exact absurd ⟨j, hh⟩ hz
      have z : pu_set (pu_can σ) = 0 := by
        apply b_ext
        intro i hi
        rw [pu_set_bt _ hi, hz' i, Bool.and_false, b_0]
      refine ⟨-1, by rw [if_pos z], ?_, Or.inl rfl⟩
      by_cases s0 : σ.1 0 6 = 0
      · rw [if_pos ((c1 _).mpr s0)]
        unfold fn_X7_byTree
        obtain ⟨r, f1, f2, f3⟩ := pu_first h G hL (p := 0) (by omega)
        have f2 : fn_X7_first τ 0 (pu_set (pu_live σ)) = some r := f2
        rw [pm_liveSet h w, Option.bind_some, f2, Option.bind_some]
        rcases f3 with ⟨rfl, -⟩ | ⟨l, l1, l2, l3, -⟩
        · have : lp_X7_byTree_12 τ (pu_set (pu_live σ)) (-1) = some (-1) := by
            unfold lp_X7_byTree_12
            refine pu_inr (n := 999) ?_
            unfold bb_X7_byTree_12
            rw [if_pos rfl]; rfl
          rw [this]; rfl
        · obtain ⟨j, -, hj, -⟩ := pu_live_ex l3
          rw [hz' j] at hj; cases hj
      · rw [if_neg (fun q => s0 ((c1 _).mp q))]
        obtain ⟨r, r1, r2, r3⟩ := pu_byUrgency h w hC
        rcases r3 with ⟨rfl, -⟩ | ⟨s, -, -, hs, -⟩
        · rw [r2]; rfl
        · rw [hz' s] at hs; cases hs
theorem pu_next {B : Nat} {σ τ : qm_M} (h : Inv B σ τ) : ∃ r, fn_X6_next σ = some r ∧ fn_X7_next τ = some r := by
  obtain ⟨r, r1, r2, -⟩ := pu_sender h.1 h.2.1
  refine ⟨r, ?_, ?_⟩
  · unfold fn_X6_next
    rw [pc_canBits, Option.bind_some, pc_liveBits (pu_G.of h.1 h.2.1), Option.bind_some, r1]; rfl
  · unfold fn_X7_next
    rw [r2]; rfl
