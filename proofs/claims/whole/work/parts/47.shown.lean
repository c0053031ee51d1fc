-- ===== shown =====
def pu_eP (σ : qm_M) (l : List Nat) : qm_M := (fun id k => if id = 208 ∧ k = 1 then nI l.length else if id = 209 ∧ k < l.length then nI (l.getD k 0) else σ.1 id k, σ.2)
def pu_eM (τ : qm_M) (w : Nat) (l : List Nat) : qm_M := (fun id k => if id = 210 ∧ k = 14 then nI l.length else if id = 210 ∧ k = 15 then (if w < l.length then nI (l.getD w 0) else -1) else if id = 210 ∧ k = 16 then nI w else τ.1 id k, τ.2)
theorem pu_gd1 (l : List Nat) (c k : Nat) (h : k < l.length) : (l ++ [c]).getD k 0 = l.getD k 0 := by
  simp [List.getD, List.getElem?_append_left h]
theorem pu_gd2 (l : List Nat) (c : Nat) : (l ++ [c]).getD l.length 0 = c := by
  simp [List.getD]
theorem pu_ln1 (l : List Nat) (c : Nat) : (l ++ [c]).length = l.length + 1 := by simp
theorem pc_put (σ : qm_M) {l : List Nat} (h : l.length < 120) (c : Nat) : fn_X4_put (pu_eP σ l) (nI c) = some (pu_eP σ (l ++ [c])) := by
  unfold fn_X4_put
  have e1 : (pu_eP σ l).1 208 1 = nI l.length := by unfold pu_eP; dsimp only; rw [if_pos ⟨rfl, rfl⟩]
  rw [e1, if_neg (show ¬ (120 : Int32) ≤ nI l.length by show ¬ nI 120 ≤ nI l.length; rw [pu_le (by omega) (by omega)]; omega), if_pos (pu_in (show l.length < 120 by omega) (by omega)), pu_clamp (by omega)]
  simp only [Option.bind_some]
  have e2 : (qm_si (pu_eP σ l) 209 l.length (nI c)).1 208 1 = nI l.length := by rw [qm_si_ne _ _ _ (by omega)]; exact e1
  rw [e2, pu_s1]
  refine congrArg some (Prod.ext ?_ rfl)
  funext id k
  unfold pu_eP qm_si
  dsimp only
  rw [pu_ln1]
  by_cases a : id = 208 ∧ k = 1
  · rw [if_pos a, if_pos a]
  · rw [if_neg a, if_neg a, if_neg a]
    by_cases b : id = 209 ∧ k = l.length
    · rw [if_pos b, if_pos ⟨b.1, by omega⟩, b.2, pu_gd2]
    · rw [if_neg b]
      by_cases d : id = 209 ∧ k < l.length
      · rw [if_pos d, if_pos ⟨d.1, by omega⟩, pu_gd1 l c k d.2]
      · rw [if_neg d, if_neg (fun q => by omega)]
theorem pm_shows (τ : qm_M) {w : Nat} (hw : w < 2147483648) {l : List Nat} (h : l.length < 2147483647) (c : Nat) : fn_X7_shows (pu_eM τ w l) (nI c) = some (pu_eM τ w (l ++ [c])) := by
  unfold fn_X7_shows
  have e14 : (pu_eM τ w l).1 210 14 = nI l.length := by unfold pu_eM; dsimp only; rw [if_pos ⟨rfl, rfl⟩]
  have e15 : (pu_eM τ w l).1 210 15 = if w < l.length then nI (l.getD w 0) else -1 := by unfold pu_eM; dsimp only; rw [if_neg (by omega), if_pos ⟨rfl, rfl⟩]
  have e16 : (pu_eM τ w l).1 210 16 = nI w := by unfold pu_eM; dsimp only; rw [if_neg (by omega), if_neg (by omega), if_pos ⟨rfl, rfl⟩]
  have fin : ∀ x, x = (if w < l.length + 1 then nI ((l ++ [c]).getD w 0) else -1) → ((some (qm_si (pu_eM τ w l) 210 15 x)).bind fun σ3 => (some (qm_si σ3 210 14 (σ3.1 210 14 + 1))).bind fun σ4 => some σ4) = some (pu_eM τ w (l ++ [c])) := by
    intro x hx
    simp only [Option.bind_some]
    have e : (qm_si (pu_eM τ w l) 210 15 x).1 210 14 = nI l.length := by rw [qm_si_at, if_neg (by omega)]; exact e14
    rw [e, pu_s1]
    refine congrArg some (Prod.ext ?_ rfl)
    funext id k
    unfold pu_eM qm_si
    dsimp only
    rw [pu_ln1]
    by_cases a : id = 210 ∧ k = 14
    · rw [if_pos a, if_pos a]
    · rw [if_neg a, if_neg a, if_neg a]
      by_cases b : id = 210 ∧ k = 15
      · rw [if_pos b, if_pos b]; exact hx
      · rw [if_neg b, if_neg b, if_neg b]
  rw [e14, e16, e15]
  by_cases q : l.length = w
  · rw [if_pos (by rw [q])]
    exact fin _ (by rw [if_pos (by omega), ← q, pu_gd2])
  · rw [if_neg (by rw [pu_eq (by omega) hw]; exact q)]
    refine fin _ ?_
    by_cases r : w < l.length
    · rw [if_pos r, if_pos (by omega), pu_gd1 l c w r]
    · rw [if_neg r, if_neg (by omega)]
def pu_dg (n : Nat) : List Nat := if n < 10 then [48 + n] else [48 + n / 10, 48 + n % 10]
theorem pu_dg_l (n : Nat) : (pu_dg n).length ≤ 2 ∧ 1 ≤ (pu_dg n).length := by unfold pu_dg; split <;> simp
theorem pc_putN (σ : qm_M) {l : List Nat} {n : Nat} (hn : n < 100) (h : (l ++ pu_dg n).length ≤ 120) : fn_X4_putNumber (pu_eP σ l) (nI n) = some (pu_eP σ (l ++ pu_dg n)) := by
  unfold fn_X4_putNumber bb_X4_putNumber_17
  have em : nI n - nI n / 10 * 10 = nI (n % 10) := pk_rem (a := n) (d := 10) (by omega) (by omega) (by omega)
  have ed : nI n / 10 = nI (n / 10) := pk_div (a := n) (d := 10) (by omega) (by omega) (by omega)
  rw [em, ed, show (48 : Int32) = nI 48 from rfl, nI_add, nI_add]
  unfold pu_dg at h ⊢
  by_cases c : n < 10
  · rw [if_pos c] at h ⊢
    rw [if_pos (show nI n < 10 by show nI n < nI 10; rw [pu_lt (by omega) (by omega)]; exact c), Nat.mod_eq_of_lt c]
    rw [pu_ln1] at h
    rw [pc_put σ (by omega)]; rfl
  · rw [if_neg c] at h ⊢
    have h : l.length + 2 ≤ 120 := by simp at h; omega
    rw [if_neg (show ¬ nI n < 10 by show ¬ nI n < nI 10; rw [pu_lt (by omega) (by omega)]; exact c), pc_put σ (by omega), Option.bind_some, pc_put σ (by rw [pu_ln1]; omega), List.append_assoc]; rfl
theorem pm_showsN (τ : qm_M) {w : Nat} (hw : w < 2147483648) {l : List Nat} {n : Nat} (hn : n < 100) (h : l.length < 1000000) : fn_X7_showsNumber (pu_eM τ w l) (nI n) = some (pu_eM τ w (l ++ pu_dg n)) := by
  unfold fn_X7_showsNumber bb_X7_showsNumber_17
  have em : nI n - nI n / 10 * 10 = nI (n % 10) := pk_rem (a := n) (d := 10) (by omega) (by omega) (by omega)
  have ed : nI n / 10 = nI (n / 10) := pk_div (a := n) (d := 10) (by omega) (by omega) (by omega)
  rw [em, ed, show (48 : Int32) = nI 48 from rfl, nI_add, nI_add]
  unfold pu_dg
  by_cases c : n < 10
  · rw [if_pos c, if_pos (show nI n ≤ 9 by show nI n ≤ nI 9; rw [pu_le (by omega) (by omega)]; omega), Nat.mod_eq_of_lt c, pm_shows τ hw (by omega)]; rfl
  · rw [if_neg c, if_neg (show ¬ nI n ≤ 9 by show ¬ nI n ≤ nI 9; rw [pu_le (by omega) (by omega)]; omega), pm_shows τ hw (by omega), Option.bind_some, pm_shows τ hw (by rw [pu_ln1]; omega), List.append_assoc]; rfl
-- the text
def pu_hd (σ : qm_M) (x : Nat) : List Nat := pu_dg x ++ [58] ++ pu_dg (pu_w σ x)
def pu_hk (σ : qm_M) (p : Nat) : Bool := pu_any (fun x => decide (1 ≤ x) && pu_ch σ (nI p) x) 13
def pu_kt (nt : Nat → List Nat) (ch : Nat → Bool) : Nat → Nat → Bool → List Nat
  | 0, _, _ => []
  | m + 1, j, first => if ch j = true then (if first = true then [] else [32]) ++ nt j ++ pu_kt nt ch m (j + 1) false else pu_kt nt ch m (j + 1) first
def pu_nt (σ : qm_M) : Nat → Nat → List Nat
  | 0, _ => []
  | f + 1, x => pu_hd σ x ++ (if pu_hk σ x = true then [40] ++ pu_kt (pu_nt σ f) (pu_ch σ (nI x)) 12 1 true ++ [41] else [])
-- how many
def pu_kn (nn : Nat → Nat) (ch : Nat → Bool) : Nat → Nat → Nat
  | 0, _ => 0
  | m + 1, j => if ch j = true then nn j + pu_kn nn ch m (j + 1) else pu_kn nn ch m (j + 1)
def pu_nn (σ : qm_M) : Nat → Nat → Nat
  | 0, _ => 1
  | f + 1, x => 1 + pu_kn (pu_nn σ f) (pu_ch σ (nI x)) 12 1
theorem pu_kt_l {nt : Nat → List Nat} {nn : Nat → Nat} {ch : Nat → Bool} : ∀ (m j : Nat) (first : Bool), (∀ x, j ≤ x → x < j + m → ch x = true → (nt x).length + 1 ≤ 8 * nn x) → (pu_kt nt ch m j first).length ≤ 8 * pu_kn nn ch m j
  | 0, _, _, _ => Nat.zero_le _
  | m + 1, j, first, h => by
    have ih := fun b => pu_kt_l (nt := nt) (nn := nn) (ch := ch) m (j + 1) b (fun x x1 x2 => h x (by omega) (by omega))
    unfold pu_kt pu_kn
    by_cases c : ch j = true
    · have hj := h j (Nat.le_refl _) (by omega) c
      have i0 := ih false
      rw [if_pos c, if_pos c, List.length_append, List.length_append]
      have : (if first = true then ([] : List Nat) else [32]).length ≤ 1 := by split <;> simp
      omega
    · rw [if_neg c, if_neg c]; exact ih first
theorem pu_hd_l (σ : qm_M) (x : Nat) : (pu_hd σ x).length ≤ 5 := by
  unfold pu_hd
  have a := pu_dg_l x
  have b := pu_dg_l (pu_w σ x)
  rw [List.length_append, List.length_append]
  show (pu_dg x).length + 1 + (pu_dg (pu_w σ x)).length ≤ 5
  omega
theorem pu_nt_l (σ : qm_M) : ∀ f x, (pu_nt σ f x).length + 1 ≤ 8 * pu_nn σ f x := by
  intro f
  induction f with
  | zero => intro x; show 0 + 1 ≤ 8 * 1; omega
  | succ f ih =>
    intro x
    have a := pu_hd_l σ x
    have b := pu_kt_l (nt := pu_nt σ f) (nn := pu_nn σ f) (ch := pu_ch σ (nI x)) 12 1 true (fun y _ _ _ => ih y)
    unfold pu_nt pu_nn
    rw [List.length_append]
    split
    · rw [List.length_append, List.length_append]
      show (pu_hd σ x).length + (1 + _ + 1) + 1 ≤ _
      omega
    · show (pu_hd σ x).length + 0 + 1 ≤ _
      omega
-- how many there are under one
def pu_ub (σ : qm_M) (c x : Nat) : Bool := pu_t σ x && pu_ln σ x c
theorem pu_ub_sib {σ : qm_M} (G : pu_G σ) {c c' x : Nat} (hc : pu_par σ c = pu_par σ c') (h : pu_ub σ c x = true) (h' : pu_ub σ c' x = true) : c = c' := by
  unfold pu_ub at h h'
  rw [Bool.and_eq_true] at h h'
  obtain ⟨n, n1, n2, n3, n4⟩ := pu_chain G h.1
  obtain ⟨a, a1, a2, a3⟩ := pu_up_ix 12 x c h.2
  obtain ⟨b, b1, b2, b3⟩ := pu_up_ix 12 x c' h'.2
  have an : a < n := by
    rcases Nat.lt_or_ge a n with q | q
    · exact q
    · exact absurd n3 (a3 n q)
  have bn : b < n := by
    rcases Nat.lt_or_ge b n with q | q
    · exact q
    · exact absurd n3 (b3 n q)
  have ea : pu_it (pu_par σ) (a + 1) x = pu_par σ c := by rw [pu_it_s, a2]
  have eb : pu_it (pu_par σ) (b + 1) x = pu_par σ c' := by rw [pu_it_s, b2]
  rcases Nat.lt_trichotomy a b with q | q | q
  · exact absurd (ea.trans (hc.trans eb.symm)) (pu_it_ne G n3 n4 (show a + 1 < b + 1 by omega) (by omega))
  · rw [← a2, ← b2, q]
  · exact absurd (eb.trans (hc.symm.trans ea.symm)) (pu_it_ne G n3 n4 (show b + 1 < a + 1 by omega) (by omega))
theorem pu_ws_sub {P Q : Nat → Bool} (h : ∀ i, 1 ≤ i → i ≤ 12 → P i = true → Q i = true) : pu_ws P (fun _ => 1) ≤ pu_ws Q (fun _ => 1) := by
  have e := pu_ws_add (P := P) (Q := fun i => Q i && !P i) (R := fun i => P i || (Q i && !P i)) (w := fun _ => 1) (fun i _ _ => ⟨rfl, by cases P i <;> cases Q i <;> rfl⟩)
  have e2 : pu_ws (fun i => P i || (Q i && !P i)) (fun _ => 1) = pu_ws Q (fun _ => 1) := by
    unfold pu_ws
    refine pu_fold_cong 12 1 0 (fun i i1 i2 a => ?_)
    have : (P i || (Q i && !P i)) = Q i := by
      cases hp : P i
      · simp
      · rw [h i i1 (by omega) hp]; rfl
    show (if (P i || (Q i && !P i)) = true then a + 1 else a) = (if Q i = true then a + 1 else a)
    rw [this]
  omega
/-- the streams under the children of p from j on -/
theorem pu_kn_c {σ : qm_M} (G : pu_G σ) {nn : Nat → Nat} {p : Nat} (p12 : p ≤ 12) (h : ∀ c, 1 ≤ c → c ≤ 12 → pu_ch σ (nI p) c = true → nn c ≤ pu_ws (pu_ub σ c) (fun _ => 1)) : ∀ m j, 1 ≤ j → j + m = 13 → pu_kn nn (pu_ch σ (nI p)) m j ≤ pu_ws (fun x => pu_any (fun c => decide (j ≤ c) && pu_ch σ (nI p) c && pu_ub σ c x) 13) (fun _ => 1) := by
  have cp : ∀ c, pu_ch σ (nI p) c = true → pu_t σ c = true ∧ pu_par σ c = p := by
    intro c hc
    have hc : (bt (σ.1 0 1) c && decide (σ.1 (2 + c) 0 = nI p)) = true := hc
    rw [Bool.and_eq_true] at hc
    have g := G.2.1 c hc.1
    have e := of_decide_eq_true hc.2
    rw [g.2.1, pu_eq (by omega) (by omega)] at e
    exact ⟨hc.1, e⟩
  intro m
  induction m with
  | zero => intro j _ _; exact Nat.zero_le _
  | succ m ih =>
    intro j j1 jm
    have i0 := ih (j + 1) (by omega) (by omega)
    unfold pu_kn
    by_cases c : pu_ch σ (nI p) j = true
    · rw [if_pos c]
      have hj := h j j1 (by omega) c
      have e := pu_ws_add (P := pu_ub σ j) (Q := fun x => pu_any (fun c => decide (j + 1 ≤ c) && pu_ch σ (nI p) c && pu_ub σ c x) 13) (R := fun x => pu_any (fun c => decide (j ≤ c) && pu_ch σ (nI p) c && pu_ub σ c x) 13) (w := fun _ => 1) (fun x x1 x2 => ?_)
      · omega
      · constructor
        · rw [Bool.eq_iff_iff, pu_any_iff, Bool.or_eq_true, pu_any_iff]
          constructor
          · intro ⟨k, k1, k2⟩
            rw [Bool.and_eq_true, Bool.and_eq_true] at k2
            by_cases q : k = j
            · left; rw [← q]; exact k2.2
            · right
              have := of_decide_eq_true k2.1.1
              exact ⟨k, k1, by rw [Bool.and_eq_true, Bool.and_eq_true]; exact ⟨⟨decide_eq_true (by omega), k2.1.2⟩, k2.2⟩⟩
          · intro q
            rcases q with q | ⟨k, k1, k2⟩
            · exact ⟨j, by omega, by rw [Bool.and_eq_true, Bool.and_eq_true]; exact ⟨⟨decide_eq_true (by omega), c⟩, q⟩⟩
            · rw [Bool.and_eq_true, Bool.and_eq_true] at k2
              have := of_decide_eq_true k2.1.1
              exact ⟨k, k1, by rw [Bool.and_eq_true, Bool.and_eq_true]; exact ⟨⟨decide_eq_true (by omega), k2.1.2⟩, k2.2⟩⟩
        · cases ha : pu_ub σ j x with
          | false => rfl
          | true =>
            cases hb : pu_any (fun c => decide (j + 1 ≤ c) && pu_ch σ (nI p) c && pu_ub σ c x) 13 with
            | false => rfl
            | true =>
              rw [pu_any_iff] at hb
              obtain ⟨k, k1, k2⟩ := hb
              rw [Bool.and_eq_true, Bool.and_eq_true] at k2
              have k3 := of_decide_eq_true k2.1.1
              have := pu_ub_sib G ((cp j c).2.trans (cp k k2.1.2).2.symm) ha k2.2
              omega
    · rw [if_neg c]
      refine Nat.le_trans i0 (pu_ws_sub (fun x _ _ hx => ?_))
      rw [pu_any_iff] at hx ⊢
      obtain ⟨k, k1, k2⟩ := hx
      rw [Bool.and_eq_true, Bool.and_eq_true] at k2
      have := of_decide_eq_true k2.1.1
      exact ⟨k, k1, by rw [Bool.and_eq_true, Bool.and_eq_true]; exact ⟨⟨decide_eq_true (by omega), k2.1.2⟩, k2.2⟩⟩
theorem pu_nn_c {σ : qm_M} (G : pu_G σ) : ∀ f c, pu_t σ c = true → pu_nn σ f c ≤ pu_ws (pu_ub σ c) (fun _ => 1) := by
  have self : ∀ c, pu_t σ c = true → pu_ub σ c c = true := by
    intro c hc
    unfold pu_ub
    rw [hc, Bool.true_and]
    exact pu_up_it 0 12 c (by omega) (fun i hi => by rw [show i = 0 by omega]; exact G.z c hc)
  intro f
  induction f with
  | zero =>
    intro c hc
    have b := G.1 c hc
    exact pu_ws_ge (P := pu_ub σ c) (w := fun _ => 1) (fun _ _ _ _ => by omega) b.1 b.2 (self c hc)
  | succ f ih =>
    intro c hc
    have b := G.1 c hc
    have k := pu_kn_c G (nn := pu_nn σ f) b.2 (fun d d1 d2 hd => ih d (by
      have hd : (bt (σ.1 0 1) d && decide (σ.1 (2 + d) 0 = nI c)) = true := hd
      rw [Bool.and_eq_true] at hd; exact hd.1)) 12 1 (by omega) (by omega)
    unfold pu_nn
    have one : 1 ≤ pu_ws (fun x => decide (x = c)) (fun _ => 1) := pu_ws_ge (P := fun x => decide (x = c)) (w := fun _ => 1) (fun _ _ _ _ => by omega) b.1 b.2 (decide_eq_true rfl)
    have e := pu_ws_add (P := fun x => decide (x = c)) (Q := fun x => pu_any (fun d => decide (1 ≤ d) && pu_ch σ (nI c) d && pu_ub σ d x) 13) (R := fun x => decide (x = c) || pu_any (fun d => decide (1 ≤ d) && pu_ch σ (nI c) d && pu_ub σ d x) 13) (w := fun _ => 1) (fun x _ _ => ⟨rfl, ?_⟩)
    · have s := pu_ws_sub (P := fun x => decide (x = c) || pu_any (fun d => decide (1 ≤ d) && pu_ch σ (nI c) d && pu_ub σ d x) 13) (Q := pu_ub σ c) (fun x _ _ hx => ?_)
      · omega
      · rw [Bool.or_eq_true] at hx
        rcases hx with hx | hx
        · rw [of_decide_eq_true hx]; exact self c hc
        · rw [pu_any_iff] at hx
          obtain ⟨d, d1, d2⟩ := hx
          rw [Bool.and_eq_true, Bool.and_eq_true] at d2
          have hd : (bt (σ.1 0 1) d && decide (σ.1 (2 + d) 0 = nI c)) = true := d2.1.2
          rw [Bool.and_eq_true] at hd
          have g := G.2.1 d hd.1
          have ed := of_decide_eq_true hd.2
          rw [g.2.1, pu_eq (by omega) (by omega)] at ed
          have u := d2.2
          unfold pu_ub at u ⊢
          rw [Bool.and_eq_true] at u ⊢
          refine ⟨u.1, pu_ln_tr G u.1 u.2 ?_⟩
          have z0 := G.z d hd.1
          have := pu_up_it (p := pu_par σ) 1 12 d (by omega) (fun i hi => by
            cases i with
            | zero => exact z0
            | succ i => rw [show i = 0 by omega]; show pu_par σ d ≠ 0; omega)
          have e1 : pu_it (pu_par σ) 1 d = c := ed
          rw [e1] at this; exact this
    · cases hx : decide (x = c) with
      | false => rfl
      | true =>
        have ex := of_decide_eq_true hx
        cases hb : pu_any (fun d => decide (1 ≤ d) && pu_ch σ (nI c) d && pu_ub σ d x) 13 with
        | false => rfl
        | true =>
          rw [pu_any_iff] at hb
          obtain ⟨d, d1, d2⟩ := hb
          rw [Bool.and_eq_true, Bool.and_eq_true] at d2
          have hd : (bt (σ.1 0 1) d && decide (σ.1 (2 + d) 0 = nI c)) = true := d2.1.2
          rw [Bool.and_eq_true] at hd
          have g := G.2.1 d hd.1
          have ed := of_decide_eq_true hd.2
          rw [g.2.1, pu_eq (by omega) (by omega)] at ed
          have u := d2.2
          unfold pu_ub at u
          rw [Bool.and_eq_true, ex] at u
          have no := G.A.no G.c hd.1
          rw [ed] at no
          exact absurd ⟨12, u.2⟩ no
theorem pu_all12 {σ : qm_M} (G : pu_G σ) (f : Nat) : pu_kn (pu_nn σ f) (pu_ch σ (nI 0)) 12 1 ≤ 12 := by
  have k := pu_kn_c G (nn := pu_nn σ f) (p := 0) (by omega) (fun d d1 d2 hd => pu_nn_c G f d (by
    have hd : (bt (σ.1 0 1) d && decide (σ.1 (2 + d) 0 = nI 0)) = true := hd
    rw [Bool.and_eq_true] at hd; exact hd.1)) 12 1 (by omega) (by omega)
  exact Nat.le_trans k (pu_ws_12 _)
