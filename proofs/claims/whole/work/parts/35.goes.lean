-- ===== leave, letGo =====
/-- a loop against a fold -/
theorem pu_forR {S A A' R : Type} {body : S → Option (S ⊕ R)} (mk : A' → Nat → S) (f : Nat → A → A) (Rel : Nat → A → A' → Prop) (Q : A → R → Prop) (hb : ∀ a a' j, 1 ≤ j → j ≤ 12 → Rel j a a' → ∃ b', body (mk a' j) = some (.inl (mk b' (j + 1))) ∧ Rel (j + 1) (f j a) b') (he : ∀ a a', Rel 13 a a' → ∃ r, body (mk a' 13) = some (.inr r) ∧ Q a r) : ∀ (m j : Nat) (a : A) (a' : A') (n : Nat), j + m = 13 → 1 ≤ j → m < n → Rel j a a' → ∃ r, qm_loop body n (mk a' j) = some r ∧ Q (pu_fold f m j a) r
  | m, j, a, a', 0, _, _, h, _ => absurd h (by omega)
  | 0, j, a, a', n + 1, hj, _, _, hI => by
    have hj : j = 13 := by omega
    subst hj
    obtain ⟨r, e1, e2⟩ := he a a' hI
    exact ⟨r, pu_inr e1, e2⟩
  | m + 1, j, a, a', n + 1, hj, h1, hn, hI => by
    obtain ⟨b', e1, e2⟩ := hb a a' j h1 (by omega) hI
    obtain ⟨r, x1, x2⟩ := pu_forR mk f Rel Q hb he m (j + 1) (f j a) b' n (by omega) (by omega) (by omega) e2
    exact ⟨r, by rw [pu_inl e1]; exact x1, x2⟩
theorem pu_inb {S R : Type} {body : S → Option (S ⊕ R)} {n : Nat} {s : S} {x : Option R} (h : body s = x.bind (fun y => some (.inr y))) : qm_loop body (n + 1) s = x := by
  unfold qm_loop
  rw [h]
  cases x <;> rfl
theorem pu_fold_in {A : Type} {f g : Nat → A → A} (hc : ∀ c d a, f c (g d a) = g d (f c a)) : ∀ (m j c : Nat) (a : A), pu_fold g m j (f c a) = f c (pu_fold g m j a)
  | 0, _, _, _ => rfl
  | m + 1, j, c, a => by
    unfold pu_fold
    rw [← hc, pu_fold_in hc m (j + 1) c]
theorem pu_fold_mix {A : Type} {f g : Nat → A → A} (hc : ∀ c d a, f c (g d a) = g d (f c a)) : ∀ (m j : Nat) (a : A), pu_fold (fun c a => f c (g c a)) m j a = pu_fold f m j (pu_fold g m j a)
  | 0, _, _ => rfl
  | m + 1, j, a => by
    show pu_fold (fun c a => f c (g c a)) m (j + 1) (f j (g j a)) = pu_fold f m (j + 1) (f j (pu_fold g m (j + 1) (g j a)))
    rw [pu_fold_mix hc m (j + 1), pu_fold_in hc]
-- weights
def pu_w (σ : qm_M) (j : Nat) : Nat := (σ.1 (2 + j) 1).toNatClampNeg
def pu_ws (P : Nat → Bool) (w : Nat → Nat) : Nat := pu_fold (fun j a => if P j = true then a + w j else a) 12 1 0
theorem pu_wI {B : Nat} {σ : qm_M} (w : WF B σ) {j : Nat} (h1 : 1 ≤ j) (h2 : j ≤ 12) (ht : bt (σ.1 0 1) j = true) : 1 ≤ pu_w σ j ∧ pu_w σ j ≤ 16 ∧ σ.1 (2 + j) 1 = nI (pu_w σ j) := by
  obtain ⟨-, ⟨n, n1, n2, n3⟩, -⟩ := w.1 j h1 h2 ht
  have e : pu_w σ j = n := by unfold pu_w; rw [n3, pu_clamp (by omega)]
  rw [e]; exact ⟨n1, n2, n3⟩
theorem pu_wf_le {P : Nat → Bool} {w : Nat → Nat} : ∀ (m j a : Nat), (∀ i, j ≤ i → i < j + m → P i = true → w i ≤ 16) → a ≤ pu_fold (fun j a => if P j = true then a + w j else a) m j a ∧ pu_fold (fun j a => if P j = true then a + w j else a) m j a ≤ a + 16 * m
  | 0, _, a, _ => ⟨Nat.le_refl _, Nat.le_refl _⟩
  | m + 1, j, a, h => by
    have ih := pu_wf_le (P := P) (w := w) m (j + 1) (if P j = true then a + w j else a) (fun i h1 h2 => h i (by omega) (by omega))
    unfold pu_fold
    cases hp : P j
    · rw [hp, if_neg (by decide)] at ih; rw [if_neg (by decide)]; omega
    · have := h j (Nat.le_refl _) (by omega) hp
      rw [hp, if_pos rfl] at ih; rw [if_pos rfl]; omega
theorem pu_wf_ge {P : Nat → Bool} {w : Nat → Nat} : ∀ (m j a i : Nat), (∀ i, j ≤ i → i < j + m → P i = true → w i ≤ 16) → j ≤ i → i < j + m → P i = true → a + w i ≤ pu_fold (fun j a => if P j = true then a + w j else a) m j a
  | 0, _, a, _, _, h1, h2, _ => absurd h2 (by omega)
  | m + 1, j, a, i, h, h1, h2, hp => by
    unfold pu_fold
    by_cases e : i = j
    · subst e
      rw [if_pos hp]
      exact (pu_wf_le (P := P) (w := w) m (i + 1) (a + w i) (fun k k1 k2 => h k (by omega) (by omega))).1
    · have ih := pu_wf_ge (P := P) (w := w) m (j + 1) (if P j = true then a + w j else a) i (fun k k1 k2 => h k (by omega) (by omega)) (by omega) (by omega) hp
      have : a ≤ if P j = true then a + w j else a := by split <;> omega
      omega
theorem pu_ws_le {P : Nat → Bool} {w : Nat → Nat} (h : ∀ i, 1 ≤ i → i ≤ 12 → P i = true → w i ≤ 16) : pu_ws P w ≤ 192 := by
  have := (pu_wf_le (P := P) (w := w) 12 1 0 (fun i a b => h i a (by omega))).2
  unfold pu_ws; omega
theorem pu_ws_ge {P : Nat → Bool} {w : Nat → Nat} (h : ∀ i, 1 ≤ i → i ≤ 12 → P i = true → w i ≤ 16) {i : Nat} (h1 : 1 ≤ i) (h2 : i ≤ 12) (hp : P i = true) : w i ≤ pu_ws P w := by
  have := pu_wf_ge (P := P) (w := w) 12 1 0 i (fun i a b => h i a (by omega)) h1 (by omega) hp
  unfold pu_ws; omega
theorem pc_childWeights {B : Nat} {σ : qm_M} (w : WF B σ) (p L : Int32) {P : Nat → Bool} (hP : ∀ j, 1 ≤ j → j ≤ 12 → (bt L j && pu_ch σ p j) = P j) : fn_X3_childWeights σ 0 p L = some (nI (pu_ws P (pu_w σ))) := by
  unfold fn_X3_childWeights lp_X3_childWeights_5 pu_ws
  refine pu_for (A := Nat) (fun a j => (nI a, nI j)) _ nI (fun a j h1 h2 => ?_) (fun a => ?_) 0
  · dsimp only
    unfold bb_X3_childWeights_5
    have hp := hP j h1 h2
    rw [if_neg (pu_h12 h2), pu_has _ _ (by omega), Option.bind_some, pu_s1]
    cases hL : bt L j
    · rw [hL, Bool.false_and] at hp
      rw [pu_iff, ← hp]; rfl
    · rw [hL, Bool.true_and] at hp
      rw [pu_ift, pc_isChild σ p h2, Option.bind_some, hp]
      cases hc : P j
      · rw [pu_iff]; rfl
      · have hc : (bt (σ.1 0 1) j && decide (σ.1 (2 + j) 0 = p)) = true := hp.trans hc
        rw [Bool.and_eq_true] at hc
        rw [pu_ift, if_pos (pu_in (show j < 13 by omega) (by omega)), pu_clamp (by omega), show 0 + 1 + 1 + j = 2 + j by omega, (pu_wI w h1 h2 hc.1).2.2, nI_add]; rfl
  · dsimp only
    unfold bb_X3_childWeights_5
    rw [if_pos pu_13]; rfl
/-- the children of one hang elsewhere -/
theorem pc_hangChildren (a : qm_M) {s q : Nat} (hq : q ≤ 12) {P : Nat → Bool} (hP : ∀ x, 1 ≤ x → x ≤ 12 → pu_ch a (nI s) x = P x) (hPq : 1 ≤ q → P q = false) : fn_X3_hangChildren a 0 (nI s) (nI q) = some (pu_fold (fun c b => if P c = true then pu_hc b c q else b) 12 1 a) ∧ (pu_fold (fun c b => if P c = true then pu_hc b c q else b) 12 1 a).1 0 = a.1 0 := by
  have key := pu_forI (S := Int32 × qm_M) (A := qm_M) (R := qm_M) (body := fun x => bb_X3_hangChildren_2 x.2 0 (nI s) (nI q) x.1) (fun b j => (nI j, b)) (fun c b => if P c = true then pu_hc b c q else b) id (fun j b => b.1 0 = a.1 0 ∧ ∀ x, j ≤ x → b.1 (2 + x) 0 = a.1 (2 + x) 0) (fun b j h1 h2 hI => ?_) (fun b hI => ?_) 12 1 a 1000 rfl (by omega) (by omega) ⟨rfl, fun _ _ => rfl⟩
  · exact ⟨key.1, key.2.1⟩
  · dsimp only
    unfold bb_X3_hangChildren_2
    rw [if_neg (pu_h12 h2), pu_s1]
    by_cases e : j = q
    · have := hPq (by omega)
      rw [← e] at this
      rw [if_pos (by rw [e]), this]
      exact ⟨rfl, hI.1, fun x hx => hI.2 x (by omega)⟩
    · have ec : pu_ch b (nI s) j = P j := by
        rw [← hP j h1 h2]
        show (bt (b.1 0 1) j && decide (b.1 (2 + j) 0 = nI s)) = _
        rw [hI.1, hI.2 j (Nat.le_refl _)]
      rw [if_neg (by rw [pu_eq (by omega) (by omega)]; exact e), pc_isChild b _ h2, ec, Option.bind_some]
      cases P j
      · rw [pu_iff]
        exact ⟨rfl, hI.1, fun x hx => hI.2 x (by omega)⟩
      · rw [pu_ift, pc_hang b h2 hq]
        refine ⟨rfl, ?_, fun x hx => ?_⟩
        · rw [if_pos rfl, pu_hc_1, qm_si_ne _ _ _ (by omega)]; exact hI.1
        · rw [if_pos rfl, pu_hc_1, qm_si_ne _ _ _ (by omega)]; exact hI.2 x (by omega)
  · dsimp only
    unfold bb_X3_hangChildren_2
    rw [if_pos pu_13]; rfl
def pu_nwt (σ : qm_M) (s j : Nat) : Nat := Nat.max 1 (pu_w σ j * pu_w σ s / pu_ws (pu_ch σ (nI s)) (pu_w σ))
theorem pu_max64 {n : Nat} (hn : n < 2 ^ 31) (σ : qm_M) : fn_Jl_max σ 1 (lN n) = some (lN (Nat.max 1 n)) := by
  unfold fn_Jl_max
  rw [show (1 : Int64) = lN 1 from rfl]
  by_cases c : 1 < n
  · rw [if_pos (by rw [lg_cmp_lt, pk_lLT (by omega) (by omega)]; exact c), show Nat.max 1 n = n from Nat.max_eq_right (by omega)]
  · rw [if_neg (by rw [lg_cmp_lt, pk_lLT (by omega) (by omega)]; exact c), show Nat.max 1 n = 1 from Nat.max_eq_left (by omega)]
theorem RT.gone {σ : qm_M} {g : Nat → Int64} (h : RT σ g) {s : Nat} (h1 : 1 ≤ s) (h2 : s ≤ 12) : RT (qm_si σ 0 1 (σ.1 0 1 &&& ((1 <<< (nI s &&& 31)) ^^^ (-1)))) (vp_updL g (16 * s + 0) 0) := by
  obtain ⟨r1, r2, r3, r4, r5, r6⟩ := h
  have e01 : (qm_si σ 0 1 (σ.1 0 1 &&& ((1 <<< (nI s &&& 31)) ^^^ (-1)))).1 0 1 = σ.1 0 1 &&& ((1 <<< (nI s &&& 31)) ^^^ (-1)) := by rw [qm_si_at, if_pos rfl]
  have e0 : ∀ k, k ≠ 1 → (qm_si σ 0 1 (σ.1 0 1 &&& ((1 <<< (nI s &&& 31)) ^^^ (-1)))).1 0 k = σ.1 0 k := fun k hk => by rw [qm_si_at, if_neg hk]
  have eb : ∀ x, x < 32 → bt ((qm_si σ 0 1 (σ.1 0 1 &&& ((1 <<< (nI s &&& 31)) ^^^ (-1)))).1 0 1) x = (bt (σ.1 0 1) x && !decide (x = s)) := fun x hx => by rw [e01, b_and, pu_nbit (by omega) hx]
  have ex : ∀ x, (qm_si σ 0 1 (σ.1 0 1 &&& ((1 <<< (nI s &&& 31)) ^^^ (-1)))).1 (2 + x) = σ.1 (2 + x) := fun x => qm_si_ne _ _ _ (by omega)
  refine ⟨fun x x1 x2 => ?_, fun x k x1 x2 k2 ht => ?_, fun x x1 x2 ht => ?_, ?_, fun k hk => ?_, fun i hi hj => ?_⟩
  · rw [eb x (by omega)]
    unfold vp_updL
    by_cases e : x = s
    · rw [if_pos (by omega), decide_eq_true e, Bool.not_true, Bool.and_false, if_neg (by decide)]
    · rw [if_neg (by omega), decide_eq_false e, Bool.not_false, Bool.and_true]; exact r1 x x1 x2
  · rw [eb x (by omega), Bool.and_eq_true] at ht
    have hb := pu_km_b k2
    unfold vp_updL
    rw [if_neg (by omega), ex]; exact r2 x k x1 x2 k2 ht.1
  · rw [eb x (by omega), Bool.and_eq_true] at ht
    unfold vp_updL
    rw [if_neg (by omega), if_neg (by omega), if_neg (by omega), e0 2 (by omega)]; exact r3 x x1 x2 ht.1
  · unfold vp_updL; rw [if_neg (by omega)]; exact r4
  · unfold vp_updL; rw [if_neg (by omega), e0 _ (by omega)]; exact r5 k hk
  · rw [eb i hi, r6 i hi hj, Bool.false_and]
def pu_lv (σ : qm_M) (s q n x k : Nat) : Int32 := if 1 ≤ x ∧ x < n ∧ pu_ch σ (nI s) x = true ∧ k < 2 then (if k = 0 then nI q else nI (pu_nwt σ s x)) else σ.1 (2 + x) k
def pu_hw (σ : qm_M) (s q c : Nat) (b : qm_M) : qm_M := if pu_ch σ (nI s) c = true then pu_hc (qm_si b (2 + c) 1 (nI (pu_nwt σ s c))) c q else b
theorem pu_leave {B : Nat} {σ τ : qm_M} (h : RT σ (τ.2 211)) (w : WF B σ) {s : Nat} (ht : pu_t σ s = true) : ∃ σ' τ', fn_X3_leave σ 0 (nI s) = some σ' ∧ fn_X7_goes τ (nI s) = some τ' ∧ RT σ' (τ'.2 211) ∧ WF B σ' ∧ Lc σ σ' ∧ Lm τ τ' := by
  have G := pu_G.of h w
  have hs := G.1 s ht
  have gs := G.2.1 s ht
  obtain ⟨rk, hrk⟩ := G.2.2
  have ws := pu_wI w hs.1 hs.2 ht
  have cht : ∀ x, pu_ch σ (nI s) x = true → pu_t σ x = true ∧ pu_par σ x = s := by
    intro x hx
    have hx : (bt (σ.1 0 1) x && decide (σ.1 (2 + x) 0 = nI s)) = true := hx
    rw [Bool.and_eq_true] at hx
    have g := G.2.1 x hx.1
    have e := of_decide_eq_true hx.2
    rw [g.2.1, pu_eq (by omega) (by omega)] at e
    exact ⟨hx.1, e⟩
  have hw16 : ∀ i, 1 ≤ i → i ≤ 12 → pu_ch σ (nI s) i = true → pu_w σ i ≤ 16 := fun i i1 i2 hi => (pu_wI w i1 i2 (cht i hi).1).2.1
  have hS := pu_ws_le hw16
  have hS1 : ∀ i, 1 ≤ i → i ≤ 12 → pu_ch σ (nI s) i = true → pu_w σ i ≤ pu_ws (pu_ch σ (nI s)) (pu_w σ) := fun i i1 i2 hi => pu_ws_ge hw16 i1 i2 hi
  have noself : pu_ch σ (nI s) s = false := by
    cases hc : pu_ch σ (nI s) s
    · rfl
    · have := (cht s hc).2
      have := hrk s ht (by omega)
      rw [(cht s hc).2] at this; omega
  have noq : 1 ≤ pu_par σ s → pu_ch σ (nI s) (pu_par σ s) = false := by
    intro hq
    cases hc : pu_ch σ (nI s) (pu_par σ s)
    · rfl
    · have c := cht _ hc
      have k1 := hrk s ht (by omega)
      have k2 := hrk _ c.1 (by omega)
      rw [c.2] at k2; omega
  have nwb : ∀ i, 1 ≤ i → i ≤ 12 → pu_ch σ (nI s) i = true → 1 ≤ pu_nwt σ s i ∧ pu_nwt σ s i ≤ 16 := by
    intro i i1 i2 hi
    have k := hS1 i i1 i2 hi
    have k1 : pu_w σ i * pu_w σ s / pu_ws (pu_ch σ (nI s)) (pu_w σ) ≤ pu_w σ s := Nat.div_le_of_le_mul (Nat.mul_le_mul_right _ k)
    unfold pu_nwt
    exact ⟨Nat.le_max_left _ _, Nat.max_le.mpr ⟨by omega, by omega⟩⟩
  have prodlt : ∀ i, 1 ≤ i → i ≤ 12 → pu_ch σ (nI s) i = true → pu_w σ i * pu_w σ s ≤ 256 := by
    intro i i1 i2 hi
    exact Nat.mul_le_mul (hw16 i i1 i2 hi) ws.2.1
  -- the program's way
  have hcw : ∀ i, 1 ≤ i → i ≤ 12 → (bt (σ.1 0 1) i && pu_ch σ (nI s) i) = pu_ch σ (nI s) i := by
    intro i _ _
    show (bt (σ.1 0 1) i && (bt (σ.1 0 1) i && _)) = (bt (σ.1 0 1) i && _)
    rw [← Bool.and_assoc, Bool.and_self]
  have prog : fn_X3_leave σ 0 (nI s) = some (qm_si (pu_fold (fun c b => if pu_ch σ (nI s) c = true then pu_hc b c (pu_par σ s) else b) 12 1 (pu_fold (fun c b => if pu_ch σ (nI s) c = true then qm_si b (2 + c) 1 (nI (pu_nwt σ s c)) else b) 12 1 σ)) 0 1 (σ.1 0 1 &&& ((1 <<< (nI s &&& 31)) ^^^ (-1)))) := by
    unfold fn_X3_leave lp_X3_leave_23
    rw [if_pos (pu_in (show s < 13 by omega) (by omega)), pu_clamp (by omega), show 0 + 1 + 1 + s = 2 + s by omega, pc_childWeights w _ _ hcw]
    simp only [Option.bind_some]
    have key := pu_forI (S := Int32 × qm_M) (A := qm_M) (R := qm_M) (body := fun x => bb_X3_leave_23 x.2 0 (nI s) (σ.1 (2 + s) 1) (nI (pu_ws (pu_ch σ (nI s)) (pu_w σ))) x.1) (fun b j => (nI j, b)) (fun c b => if pu_ch σ (nI s) c = true then qm_si b (2 + c) 1 (nI (pu_nwt σ s c)) else b) (fun a => qm_si (pu_fold (fun c b => if pu_ch σ (nI s) c = true then pu_hc b c (pu_par σ s) else b) 12 1 a) 0 1 (σ.1 0 1 &&& ((1 <<< (nI s &&& 31)) ^^^ (-1)))) (fun j b => b.1 0 = σ.1 0 ∧ (∀ x, b.1 (2 + x) 0 = σ.1 (2 + x) 0) ∧ ∀ x, j ≤ x → b.1 (2 + x) 1 = σ.1 (2 + x) 1) (fun b j h1 h2 hI => ?_) (fun b hI => ?_) 12 1 σ 1000 rfl (by omega) (by omega) ⟨rfl, fun _ => rfl, fun _ _ => rfl⟩
    · exact key.1
    · dsimp only
      unfold bb_X3_leave_23
      have ec : pu_ch b (nI s) j = pu_ch σ (nI s) j := by
        show (bt (b.1 0 1) j && decide (b.1 (2 + j) 0 = nI s)) = _
        rw [hI.1, hI.2.1 j]
      rw [if_neg (pu_h12 h2), pc_isChild b _ h2, ec, Option.bind_some, pu_s1]
      cases hc : pu_ch σ (nI s) j
      · rw [pu_iff]
        exact ⟨rfl, hI.1, hI.2.1, fun x hx => hI.2.2 x (by omega)⟩
      · have wj := pu_wI w h1 h2 (cht j hc).1
        have pl := prodlt j h1 h2 hc
        have s1 := hS1 j h1 h2 hc
        rw [pu_ift, if_pos (pu_in (show j < 13 by omega) (by omega)), if_pos (pu_in (show j < 13 by omega) (by omega)), pu_clamp (by omega), show 0 + 1 + 1 + j = 2 + j by omega, hI.2.2 j (Nat.le_refl _), wj.2.2, ws.2.2, pk_mul, pu_nI64 (by omega), pu_nI64 (by omega)]
        unfold fn_X6_cut
        rw [if_pos (by rw [lg_cmp_ge, show (1 : Int64) = lN 1 from rfl, pk_lLE (by omega) (by omega)]; omega), if_pos (by rw [show (0 : Int64) = lN 0 from rfl, pk_lEQ (by omega) (by omega)]; omega), pk_lDiv (by omega) (by omega) (by omega)]
        simp only [Option.bind_some]
        have dl : pu_w σ j * pu_w σ s / pu_ws (pu_ch σ (nI s)) (pu_w σ) ≤ 256 := Nat.le_trans (Nat.div_le_self _ _) pl
        rw [pu_max64 (by omega)]
        simp only [Option.bind_some]
        rw [lN_i, if_pos trivial]
        refine ⟨rfl, ?_, fun x => ?_, fun x hx => ?_⟩
        · rw [qm_si_ne _ _ _ (by omega)]; exact hI.1
        · unfold qm_si; dsimp only; rw [if_neg (by omega)]; exact hI.2.1 x
        · rw [qm_si_ne _ _ _ (by omega)]; exact hI.2.2 x (by omega)
    · show bb_X3_leave_23 b 0 (nI s) (σ.1 (2 + s) 1) (nI (pu_ws (pu_ch σ (nI s)) (pu_w σ))) (nI 13) = _
      unfold bb_X3_leave_23
      have ep : b.1 (2 + s) 0 = nI (pu_par σ s) := by rw [hI.2.1 s, gs.2.1]
      obtain ⟨k1, k2⟩ := pc_hangChildren b (s := s) (q := pu_par σ s) gs.1 (P := pu_ch σ (nI s)) (fun x _ _ => by
        show (bt (b.1 0 1) x && decide (b.1 (2 + x) 0 = nI s)) = _
        rw [hI.1, hI.2.1 x]) noq
      rw [if_pos pu_13, if_pos (pu_in (show s < 13 by omega) (by omega)), pu_clamp (by omega), show 0 + 1 + 1 + s = 2 + s by omega, ep, k1]
      simp only [Option.bind_some]
      rw [k2, hI.1]
  have mix : pu_fold (fun c b => if pu_ch σ (nI s) c = true then pu_hc b c (pu_par σ s) else b) 12 1 (pu_fold (fun c b => if pu_ch σ (nI s) c = true then qm_si b (2 + c) 1 (nI (pu_nwt σ s c)) else b) 12 1 σ) = pu_fold (pu_hw σ s (pu_par σ s)) 12 1 σ := by
    refine (pu_fold_mix (f := fun c b => if pu_ch σ (nI s) c = true then pu_hc b c (pu_par σ s) else b) (g := fun c b => if pu_ch σ (nI s) c = true then qm_si b (2 + c) 1 (nI (pu_nwt σ s c)) else b) (fun c d a => ?_) 12 1 σ).symm.trans (pu_fold_cong 12 1 σ (fun i _ _ a => ?_))
    · by_cases k1 : pu_ch σ (nI s) c = true
      · by_cases k2 : pu_ch σ (nI s) d = true
        · rw [if_pos k1, if_pos k2, if_pos k2, if_pos k1]; exact pu_hc_cm a _ (fun q => absurd q.2 (by omega))
        · rw [if_pos k1, if_neg k2, if_neg k2, if_pos k1]
      · rw [if_neg k1, if_neg k1]
    · unfold pu_hw
      by_cases k1 : pu_ch σ (nI s) i = true
      · rw [if_pos k1, if_pos k1, if_pos k1]
      · rw [if_neg k1, if_neg k1, if_neg k1]
  rw [mix] at prog
  -- the model's sum
  have msum : fn_X7_goes τ (nI s) = lp_X7_goes_45 τ (nI s) (lN (pu_ws (pu_ch σ (nI s)) (pu_w σ))) 1 := by
    have lp : ∀ m j a n, j + m = 13 → 1 ≤ j → m < n → qm_loop (fun x : Int64 × Int32 => bb_X7_goes_5 τ (nI s) x.1 x.2) n (lN a, nI j) = lp_X7_goes_45 τ (nI s) (lN (pu_fold (fun j a => if pu_ch σ (nI s) j = true then a + pu_w σ j else a) m j a)) 1 := by
      intro m
      induction m with
      | zero =>
        intro j a n hj h1 hn
        obtain ⟨n, rfl⟩ : ∃ k, n = k + 1 := ⟨n - 1, by omega⟩
        have hj : j = 13 := by omega
        subst hj
        refine pu_inb ?_
        show bb_X7_goes_5 τ (nI s) (lN a) (nI 13) = _
        unfold bb_X7_goes_5
        rw [if_pos pu_13]; rfl
      | succ m ih =>
        intro j a n hj h1 hn
        obtain ⟨n, rfl⟩ : ∃ k, n = k + 1 := ⟨n - 1, by omega⟩
        have h2 : j ≤ 12 := by omega
        unfold pu_fold
        rw [← ih (j + 1) (if pu_ch σ (nI s) j = true then a + pu_w σ j else a) n (by omega) (by omega) (by omega)]
        refine pu_inl ?_
        show bb_X7_goes_5 τ (nI s) (lN a) (nI j) = _
        unfold bb_X7_goes_5
        rw [if_neg (pu_h12 h2), pm_isChild h _ h1 h2, Option.bind_some]
        by_cases hc : pu_ch σ (nI s) j = true
        · have wj := pu_wI w h1 h2 (cht j hc).1
          have e2 : τ.2 211 (16 * j + 2) = (σ.1 (2 + j) 1).toInt64 := h.2.1 j 1 h1 h2 (by omega) (cht j hc).1
          rw [if_pos hc, hc, pu_ift, pu_its_2 τ h2, Option.bind_some, e2, wj.2.2, pu_nI64 (by omega), lN_add, pu_s1]; rfl
        · rw [if_neg hc]
          rw [Bool.not_eq_true] at hc
          rw [hc, pu_iff, pu_s1, show (0 : Int64) = lN 0 from rfl, lN_add]; rfl
    exact lp 12 1 0 1000 rfl (by omega) (by omega)
  have lv0 : ∀ x k, pu_lv σ s (pu_par σ s) 1 x k = σ.1 (2 + x) k := fun x k => by unfold pu_lv; rw [if_neg (fun q => by omega)]
  have lvn : ∀ n x k, x ≠ n → pu_lv σ s (pu_par σ s) (n + 1) x k = pu_lv σ s (pu_par σ s) n x k := by
    intro n x k hx
    unfold pu_lv
    by_cases q : 1 ≤ x ∧ x < n ∧ pu_ch σ (nI s) x = true ∧ k < 2
    · rw [if_pos q, if_pos ⟨q.1, by omega, q.2.2⟩]
    · rw [if_neg q, if_neg (fun c => q ⟨c.1, by omega, c.2.2⟩)]
  have key := pu_forR (S := Int32 × qm_M) (A := qm_M) (A' := qm_M) (R := qm_M) (body := fun x => bb_X7_goes_45 x.2 (nI s) (lN (pu_ws (pu_ch σ (nI s)) (pu_w σ))) x.1) (fun b j => (nI j, b)) (pu_hw σ s (pu_par σ s)) (fun j a b => RT a (b.2 211) ∧ Lm τ b ∧ Lc σ a ∧ a.1 0 = σ.1 0 ∧ ∀ x k, a.1 (2 + x) k = pu_lv σ s (pu_par σ s) j x k) (fun a r => RT (qm_si a 0 1 (a.1 0 1 &&& ((1 <<< (nI s &&& 31)) ^^^ (-1)))) (r.2 211) ∧ Lm τ r ∧ Lc σ a ∧ a.1 0 = σ.1 0 ∧ ∀ x k, a.1 (2 + x) k = pu_lv σ s (pu_par σ s) 13 x k) (fun a b j h1 h2 hR => ?_) (fun a b hR => ?_) 12 1 σ τ 1000 rfl (by omega) (by omega) ⟨h, Lm.rf τ, Lc.rf σ, rfl, fun x k => (lv0 x k).symm⟩
  · obtain ⟨r, k1, k2, k3, k4, k5, k6⟩ := key
    have e1 : fn_X7_goes τ (nI s) = some r := by rw [msum]; exact k1
    rw [k5] at k2
    refine ⟨_, r, prog, e1, k2, ?_, k4.tr (Lc.si _ _ _ (by omega)), k3⟩
    -- it is well formed
    obtain ⟨w1, -, w3, w4, w5, w6, w7, w8⟩ := w
    have e01 : (qm_si (pu_fold (pu_hw σ s (pu_par σ s)) 12 1 σ) 0 1 (σ.1 0 1 &&& ((1 <<< (nI s &&& 31)) ^^^ (-1)))).1 0 1 = σ.1 0 1 &&& ((1 <<< (nI s &&& 31)) ^^^ (-1)) := by rw [qm_si_at, if_pos rfl]
    have e0 : ∀ k, k ≠ 1 → (qm_si (pu_fold (pu_hw σ s (pu_par σ s)) 12 1 σ) 0 1 (σ.1 0 1 &&& ((1 <<< (nI s &&& 31)) ^^^ (-1)))).1 0 k = σ.1 0 k := fun k hk => by rw [qm_si_at, if_neg hk, k5]
    have eb : ∀ x, x < 32 → bt ((qm_si (pu_fold (pu_hw σ s (pu_par σ s)) 12 1 σ) 0 1 (σ.1 0 1 &&& ((1 <<< (nI s &&& 31)) ^^^ (-1)))).1 0 1) x = (bt (σ.1 0 1) x && !decide (x = s)) := fun x hx => by rw [e01, b_and, pu_nbit (by omega) hx]
    have ex : ∀ x k, (qm_si (pu_fold (pu_hw σ s (pu_par σ s)) 12 1 σ) 0 1 (σ.1 0 1 &&& ((1 <<< (nI s &&& 31)) ^^^ (-1)))).1 (2 + x) k = pu_lv σ s (pu_par σ s) 13 x k := fun x k => by rw [qm_si_ne _ _ _ (by omega)]; exact k6 x k
    generalize qm_si (pu_fold (pu_hw σ s (pu_par σ s)) 12 1 σ) 0 1 (σ.1 0 1 &&& ((1 <<< (nI s &&& 31)) ^^^ (-1))) = σ' at e01 e0 eb ex ⊢
    have tx : ∀ x, x ≤ 12 → bt (σ'.1 0 1) x = true → pu_t σ x = true ∧ x ≠ s := by
      intro x hx hb
      rw [eb x (by omega), Bool.and_eq_true] at hb
      refine ⟨hb.1, fun e => ?_⟩
      rw [decide_eq_true e] at hb; cases hb.2
    have xt : ∀ x, x ≤ 12 → pu_t σ x = true → x ≠ s → bt (σ'.1 0 1) x = true := by
      intro x hx hb hne
      have hb : bt (σ.1 0 1) x = true := hb
      rw [eb x (by omega), hb, decide_eq_false hne]; rfl
    have qs : pu_par σ s ≠ s := fun e => by
      have := hrk s ht (by omega)
      rw [e] at this; omega
    have par' : ∀ x, 1 ≤ x → x ≤ 12 → pu_t σ x = true → pu_par σ' x = if pu_ch σ (nI s) x = true then pu_par σ s else pu_par σ x := by
      intro x x1 x2 hx
      unfold pu_par
      rw [ex x 0]
      unfold pu_lv
      by_cases hc : pu_ch σ (nI s) x = true
      · rw [if_pos ⟨x1, by omega, hc, by omega⟩, if_pos rfl, if_pos hc, gs.2.1, pu_clamp (by omega)]
      · rw [if_neg (fun q => hc q.2.2.1), if_neg hc]
    refine ⟨fun x x1 x2 hb => ?_, ⟨rk, fun x x1 x2 hb hp => ?_⟩, by rw [e0 3 (by omega)]; exact w3, by rw [e0 4 (by omega)]; exact w4, by rw [e0 5 (by omega)]; exact w5, by rw [e0 6 (by omega)]; exact w6, by rw [e0 7 (by omega)]; exact w7, fun x hx => ?_⟩
    · obtain ⟨hx, hne⟩ := tx x x2 hb
      have W := w1 x x1 x2 hx
      have gx := G.2.1 x hx
      by_cases hc : pu_ch σ (nI s) x = true
      · have nb := nwb x x1 x2 hc
        have W2 := WS.k1 (B := B) nb.1 nb.2 _ _ _ W
        refine W2.chg (f' := σ'.1 (2 + x)) (fun k hk => ?_) ⟨pu_par σ s, gs.1, ?_, ?_⟩
        · rw [ex x k]
          unfold pu_lv
          by_cases k1 : k = 1
          · rw [k1, if_pos ⟨x1, by omega, hc, by omega⟩, if_neg (by omega)]; exact pk_us.symm
          · rw [if_neg (fun q => by omega), pk_un k1]
        · rw [ex x 0]
          unfold pu_lv
          rw [if_pos ⟨x1, by omega, hc, by omega⟩, if_pos rfl]
        · exact gs.2.2.imp id (fun q => xt _ gs.1 q qs)
      · refine W.chg (f' := σ'.1 (2 + x)) (fun k hk => ?_) ⟨pu_par σ x, gx.1, ?_, ?_⟩
        · rw [ex x k]; unfold pu_lv; rw [if_neg (fun q => hc q.2.2.1)]
        · rw [ex x 0]; unfold pu_lv; rw [if_neg (fun q => hc q.2.2.1)]; exact gx.2.1
        · refine gx.2.2.imp id (fun q => xt _ gx.1 q (fun e => hc ?_))
          have hx : bt (σ.1 0 1) x = true := hx
          show (bt (σ.1 0 1) x && decide (σ.1 (2 + x) 0 = nI s)) = true
          rw [hx, gx.2.1, e, decide_eq_true rfl]; rfl
    · obtain ⟨hx, hne⟩ := tx x x2 hb
      rw [par' x x1 x2 hx] at hp ⊢
      by_cases hc : pu_ch σ (nI s) x = true
      · rw [if_pos hc] at hp ⊢
        have c := cht x hc
        have k1 := hrk s ht hp
        have k2 := hrk x hx (by omega)
        rw [c.2] at k2; omega
      · rw [if_neg hc] at hp ⊢
        exact hrk x hx hp
    · rw [ex x 6]; unfold pu_lv; rw [if_neg (fun q => by omega)]; exact w8 x hx
  · obtain ⟨r1, r2, r3, r4, r5⟩ := hR
    show ∃ b', bb_X7_goes_45 b (nI s) (lN (pu_ws (pu_ch σ (nI s)) (pu_w σ))) (nI j) = some (.inl (nI (j + 1), b')) ∧ _
    unfold bb_X7_goes_45
    have lvj : ∀ k, a.1 (2 + j) k = σ.1 (2 + j) k := fun k => by rw [r5 j k]; unfold pu_lv; rw [if_neg (fun q => by omega)]
    have lvs : ∀ k, a.1 (2 + s) k = σ.1 (2 + s) k := fun k => by
      rw [r5 s k]; unfold pu_lv; rw [if_neg (fun q => by have := q.2.2.1; rw [noself] at this; cases this)]
    have ec : pu_ch a (nI s) j = pu_ch σ (nI s) j := by
      show (bt (a.1 0 1) j && decide (a.1 (2 + j) 0 = nI s)) = _
      rw [r4, lvj]
    rw [if_neg (pu_h12 h2), pm_isChild r1 _ h1 h2, ec, Option.bind_some, pu_s1]
    unfold pu_hw
    by_cases hc : pu_ch σ (nI s) j = true
    · have wj := pu_wI w h1 h2 (cht j hc).1
      have pl := prodlt j h1 h2 hc
      have s1 := hS1 j h1 h2 hc
      have tj : bt (a.1 0 1) j = true := by rw [r4]; exact (cht j hc).1
      have ts : bt (a.1 0 1) s = true := by rw [r4]; exact ht
      have e2 : b.2 211 (16 * j + 2) = (a.1 (2 + j) 1).toInt64 := r1.2.1 j 1 h1 h2 (by omega) tj
      have e3 : b.2 211 (16 * s + 2) = (a.1 (2 + s) 1).toInt64 := r1.2.1 s 1 hs.1 hs.2 (by omega) ts
      have dl : pu_w σ j * pu_w σ s / pu_ws (pu_ch σ (nI s)) (pu_w σ) ≤ 256 := Nat.le_trans (Nat.div_le_self _ _) pl
      have nb := nwb j h1 h2 hc
      rw [if_pos hc, hc, pu_ift, pu_its_2 b h2, Option.bind_some, pu_its_2 b hs.2, Option.bind_some, e2, e3, lvj, lvs, wj.2.2, ws.2.2, pu_nI64 (by omega), pu_nI64 (by omega), lN_mul, if_pos (by rw [show (0 : Int64) = lN 0 from rfl, pk_lEQ (by omega) (by omega)]; omega), pk_lDiv (by omega) (by omega) (by omega), Option.bind_some]
      have e97 : bb_X7_goes_97 b (nI s) (lN (pu_ws (pu_ch σ (nI s)) (pu_w σ))) (nI j) (nI (pu_nwt σ s j)).toInt64 2 (nI j) = some (.inl (nI (j + 1), pu_hm (qm_sl b 211 (16 * j + 2) (nI (pu_nwt σ s j)).toInt64) j (pu_par σ s))) := by
        unfold bb_X7_goes_97
        rw [pu_puts_2 b h2, Option.bind_some]
        have rw1 : RT (qm_si a (2 + j) 1 (nI (pu_nwt σ s j))) ((qm_sl b 211 (16 * j + 2) (nI (pu_nwt σ s j)).toInt64).2 211) := by
          rw [qm_sl_row]; exact r1.wr h2 (show 1 < 12 by omega) _
        have js : s ≠ j := fun e => by rw [← e, noself] at hc; cases hc
        rw [pm_parent rw1 hs.1 hs.2 (by rw [qm_si_ne _ _ _ (by omega)]; exact ts), qm_si_ne _ _ _ (by omega), lvs, gs.2.1, Option.bind_some, pm_hang _ h2 gs.1, Option.bind_some, pu_s1]; rfl
      refine ⟨pu_hm (qm_sl b 211 (16 * j + 2) (nI (pu_nwt σ s j)).toInt64) j (pu_par σ s), ?_, ?_, r2.tr ((Lm.sl _ _ _).tr (pu_hm_L _ _ _)), r3.tr ((Lc.si _ _ _ (by omega)).tr (pu_hc_L _ _ h2)), ?_, fun x k => ?_⟩
      · rw [← e97, pu_nI64 (show pu_nwt σ s j < 2147483648 by omega)]
        unfold pu_nwt
        rw [show (1 : Int64) = lN 1 from rfl]
        by_cases c : 1 ≤ pu_w σ j * pu_w σ s / pu_ws (pu_ch σ (nI s)) (pu_w σ)
        · rw [if_pos (by rw [lg_cmp_ge, pk_lLE (by omega) (by omega)]; exact c), show Nat.max 1 (pu_w σ j * pu_w σ s / pu_ws (pu_ch σ (nI s)) (pu_w σ)) = _ from Nat.max_eq_right c]
        · rw [if_neg (by rw [lg_cmp_ge, pk_lLE (by omega) (by omega)]; exact c), show Nat.max 1 (pu_w σ j * pu_w σ s / pu_ws (pu_ch σ (nI s)) (pu_w σ)) = 1 from Nat.max_eq_left (by omega)]
      · have rw1 : RT (qm_si a (2 + j) 1 (nI (pu_nwt σ s j))) ((qm_sl b 211 (16 * j + 2) (nI (pu_nwt σ s j)).toInt64).2 211) := by
          rw [qm_sl_row]; exact r1.wr h2 (show 1 < 12 by omega) _
        refine rw1.hang h2 (gs.2.2.imp id (fun q => ?_)) gs.1
        show bt _ _ = true
        rw [qm_si_ne _ _ _ (by omega), r4]; exact q
      · rw [pu_hc_1, qm_si_ne _ _ _ (by omega), qm_si_ne _ _ _ (by omega)]; exact r4
      · rw [pu_hc_1]
        by_cases e : x = j
        · rw [e, qm_si_at]
          unfold pu_lv
          by_cases k0 : k = 0
          · rw [if_pos k0, if_pos ⟨h1, by omega, hc, by omega⟩, if_pos k0]
          · rw [if_neg k0, qm_si_at]
            by_cases k1 : k = 1
            · rw [if_pos k1, if_pos ⟨h1, by omega, hc, by omega⟩, if_neg k0]
            · rw [if_neg k1, if_neg (fun q => by omega)]; exact lvj k
        · rw [qm_si_ne _ _ _ (by omega), qm_si_ne _ _ _ (by omega), lvn j x k e]; exact r5 x k
    · rw [if_neg hc]
      have hc' := hc
      rw [Bool.not_eq_true] at hc
      rw [hc, pu_iff]
      refine ⟨b, rfl, r1, r2, r3, r4, fun x k => ?_⟩
      by_cases e : x = j
      · rw [r5 x k, e]
        unfold pu_lv
        rw [if_neg (fun q => by omega), if_neg (fun q => hc' q.2.2.1)]
      · rw [lvn j x k e]; exact r5 x k
  · obtain ⟨r1, r2, r3, r4, r5⟩ := hR
    show ∃ r, bb_X7_goes_45 b (nI s) (lN (pu_ws (pu_ch σ (nI s)) (pu_w σ))) (nI 13) = some (.inr r) ∧ _
    unfold bb_X7_goes_45
    rw [if_pos pu_13, pu_puts_0 b hs.2]
    refine ⟨_, rfl, ?_, r2.tr (Lm.sl _ _ _), r3, r4, r5⟩
    rw [qm_sl_row]
    exact r1.gone hs.1 hs.2
theorem pu_letGo {B : Nat} {σ τ : qm_M} (h : RT σ (τ.2 211)) (w : WF B σ) : ∃ σ' τ', fn_X3_letGo σ 0 = some σ' ∧ fn_X7_goesAll τ = some τ' ∧ RT σ' (τ'.2 211) ∧ WF B σ' ∧ Lc σ σ' ∧ Lm τ τ' := by
  have key := pu_for2 (S := Int32 × qm_M) (R := qm_M) (S' := Int32 × qm_M) (R' := qm_M) (body := fun x => bb_X3_letGo_2 x.2 0 x.1) (body' := fun x => bb_X7_goesAll_2 x.2 x.1) (A := qm_M) (A' := qm_M) (fun a j => (nI j, a)) (fun a j => (nI j, a)) (fun _ a b => RT a (b.2 211) ∧ WF B a ∧ Lc σ a ∧ Lm τ b) (fun a b => RT a (b.2 211) ∧ WF B a ∧ Lc σ a ∧ Lm τ b) (fun a b j h1 h2 hr => ?_) (fun a b hr => ?_) 12 1 σ τ 1000 1000 rfl (by omega) (by omega) (by omega) ⟨h, w, Lc.rf σ, Lm.rf τ⟩
  · obtain ⟨r, r', k1, k2, k3⟩ := key
    exact ⟨r, r', k1, k2, k3⟩
  · left
    obtain ⟨r1, r2, r3, r4⟩ := hr
    dsimp only
    unfold bb_X3_letGo_2 bb_X7_goesAll_2
    rw [if_neg (pu_h12 h2), if_neg (pu_h12 h2), pu_has _ _ (by omega), pm_isStream r1, pu_th_nI a h1 h2]
    simp only [Option.bind_some, pu_s1]
    cases ht : bt (a.1 0 1) j
    · rw [pu_iff, pu_iff]; exact ⟨a, b, rfl, rfl, r1, r2, r3, r4⟩
    · rw [pu_ift, pu_ift, if_pos (pu_in (show j < 13 by omega) (by omega)), pu_clamp (by omega), show 0 + 1 + 1 + j = 2 + j by omega, pu_its_7 b h2, Option.bind_some]
      have e7 : b.2 211 (16 * j + 7) = (a.1 (2 + j) 6).toInt64 := r1.2.1 j 6 h1 h2 (by omega) ht
      have e8 : b.2 211 (16 * j + 8) = (a.1 (2 + j) 7).toInt64 := r1.2.1 j 7 h1 h2 (by omega) ht
      have ek : b.2 211 (210 : Int32).toNatClampNeg = (a.1 0 5).toInt64 := r1.2.2.2.2.1 2 (by omega)
      have co : (lg_cmp (b.2 211 (16 * j + 7)) 0 = 0) ↔ a.1 (2 + j) 6 = 0 := by
        rw [lg_cmp_eq, e7, show (0 : Int64) = (0 : Int32).toInt64 from rfl, pu_64inj]
      by_cases o : a.1 (2 + j) 6 = 0
      · rw [if_pos o, if_pos (co.mpr o), if_pos (show ¬ (nI j < 0 ∨ 13 ≤ j) by have := pu_in (show j < 13 by omega) (by omega : 13 < 2147483648); rw [pu_clamp (by omega)] at this; exact this), pu_its_8 b h2, Option.bind_some]
        have ca : (lg_cmp (b.2 211 (16 * j + 8)) (b.2 211 (210 : Int32).toNatClampNeg) < 0) ↔ a.1 (2 + j) 7 < a.1 0 5 := by
          rw [lg_cmp_lt, e8, ek, pu_64lt]
        by_cases c : a.1 (2 + j) 7 < a.1 0 5
        · rw [if_pos c, if_pos (ca.mpr c)]; exact ⟨a, b, rfl, rfl, r1, r2, r3, r4⟩
        · rw [if_neg c, if_neg (fun q => c (ca.mp q))]
          obtain ⟨a', b', l1, l2, l3, l4, l5, l6⟩ := pu_leave r1 r2 (s := j) ht
          rw [l1, l2]
          exact ⟨a', b', rfl, rfl, l3, l4, r3.tr l5, r4.tr l6⟩
      · rw [if_neg o, if_neg (fun q => o (co.mp q))]; exact ⟨a, b, rfl, rfl, r1, r2, r3, r4⟩
  · dsimp only
    unfold bb_X3_letGo_2 bb_X7_goesAll_2
    rw [if_pos pu_13, if_pos pu_13]
    exact ⟨a, b, rfl, rfl, hr⟩
