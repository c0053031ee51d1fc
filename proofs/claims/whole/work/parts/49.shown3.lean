-- the model's way
def pu_nc (ch : Nat → Bool) : Nat → Nat → Option Nat
  | 0, _ => none
  | m + 1, j => if ch j = true then some j else pu_nc ch m (j + 1)
def pu_enc : Option Nat → Int32
  | none => -1
  | some x => nI x
theorem pu_nc_b {ch : Nat → Bool} : ∀ m j x, pu_nc ch m j = some x → j ≤ x ∧ x < j + m ∧ ch x = true
  | 0, _, _, h => by cases h
  | m + 1, j, x, h => by
    unfold pu_nc at h
    by_cases c : ch j = true
    · rw [if_pos c] at h
      have h := Option.some.inj h
      subst h
      exact ⟨Nat.le_refl _, by omega, c⟩
    · rw [if_neg c] at h
      obtain ⟨a, b, d⟩ := pu_nc_b m (j + 1) x h
      exact ⟨by omega, by omega, d⟩
theorem pu_kt_nc {nt : Nat → List Nat} {ch : Nat → Bool} (first : Bool) : ∀ m j, j + m = 13 → (pu_nc ch m j = none → pu_kt nt ch m j first = []) ∧ ∀ x, pu_nc ch m j = some x → pu_kt nt ch m j first = (if first = true then [] else [32]) ++ nt x ++ pu_kt nt ch (12 - x) (x + 1) false
  | 0, _, _ => ⟨fun _ => rfl, fun _ h => by cases h⟩
  | m + 1, j, hj => by
    have ih := pu_kt_nc (nt := nt) (ch := ch) first m (j + 1) (by omega)
    have e1 : pu_nc ch (m + 1) j = if ch j = true then some j else pu_nc ch m (j + 1) := rfl
    have e2 : pu_kt nt ch (m + 1) j first = if ch j = true then (if first = true then [] else [32]) ++ nt j ++ pu_kt nt ch m (j + 1) false else pu_kt nt ch m (j + 1) first := rfl
    rw [e1, e2]
    by_cases c : ch j = true
    · rw [if_pos c, if_pos c]
      refine ⟨fun h => (nomatch h), fun x h => ?_⟩
      have h := Option.some.inj h
      subst h
      rw [show 12 - j = m by omega]
    · rw [if_neg c, if_neg c]; exact ih
theorem pu_kn_nc {nn : Nat → Nat} {ch : Nat → Bool} : ∀ m j, j + m = 13 → (pu_nc ch m j = none → pu_kn nn ch m j = 0) ∧ ∀ x, pu_nc ch m j = some x → pu_kn nn ch m j = nn x + pu_kn nn ch (12 - x) (x + 1)
  | 0, _, _ => ⟨fun _ => rfl, fun _ h => by cases h⟩
  | m + 1, j, hj => by
    have ih := pu_kn_nc (nn := nn) (ch := ch) m (j + 1) (by omega)
    have e1 : pu_nc ch (m + 1) j = if ch j = true then some j else pu_nc ch m (j + 1) := rfl
    have e2 : pu_kn nn ch (m + 1) j = if ch j = true then nn j + pu_kn nn ch m (j + 1) else pu_kn nn ch m (j + 1) := rfl
    rw [e1, e2]
    by_cases c : ch j = true
    · rw [if_pos c, if_pos c]
      refine ⟨fun h => (nomatch h), fun x h => ?_⟩
      have h := Option.some.inj h
      subst h
      rw [show 12 - j = m by omega]
    · rw [if_neg c, if_neg c]; exact ih
theorem pu_nc_no {ch : Nat → Bool} : ∀ m j, pu_nc ch m j = none → ∀ x, j ≤ x → x < j + m → ch x = false
  | 0, _, _, x, h1, h2 => absurd h2 (by omega)
  | m + 1, j, h, x, h1, h2 => by
    unfold pu_nc at h
    by_cases c : ch j = true
    · rw [if_pos c] at h; cases h
    · rw [if_neg c] at h
      by_cases e : x = j
      · rw [e]; cases q : ch j with
        | false => rfl
        | true => exact absurd q c
      · exact pu_nc_no m (j + 1) h x (by omega) (by omega)
theorem pu_hk_nc (σ : qm_M) (p : Nat) : (pu_hk σ p = false ↔ pu_nc (pu_ch σ (nI p)) 12 1 = none) := by
  unfold pu_hk
  constructor
  · intro h
    cases hn : pu_nc (pu_ch σ (nI p)) 12 1 with
    | none => rfl
    | some x =>
      obtain ⟨a, b, c⟩ := pu_nc_b 12 1 x hn
      have : pu_any (fun x => decide (1 ≤ x) && pu_ch σ (nI p) x) 13 = true := (pu_any_iff 13).mpr ⟨x, by omega, by rw [Bool.and_eq_true]; exact ⟨decide_eq_true a, c⟩⟩
      rw [h] at this; cases this
  · intro h
    cases hh : pu_any (fun x => decide (1 ≤ x) && pu_ch σ (nI p) x) 13 with
    | false => rfl
    | true =>
      rw [pu_any_iff] at hh
      obtain ⟨i, i1, i2⟩ := hh
      rw [Bool.and_eq_true] at i2
      have := pu_nc_no 12 1 h i (of_decide_eq_true i2.1) (by omega)
      rw [this] at i2; cases i2.2
theorem pm_nextChild {σ τ : qm_M} (h : RT σ (τ.2 211)) (p j : Nat) (hj : j ≤ 12) : fn_X7_nextChild τ (nI p) (nI j) = some (pu_enc (pu_nc (pu_ch σ (nI p)) (12 - j) (j + 1))) := by
  have key : ∀ m k N, 1 ≤ k → k + m = 13 → m < N → qm_loop (fun s : Int32 => bb_X7_nextChild_4 τ (nI p) s) N (nI k) = some (pu_enc (pu_nc (pu_ch σ (nI p)) m k)) := by
    intro m
    induction m with
    | zero =>
      intro k N k1 km hN
      obtain ⟨N, rfl⟩ : ∃ q, N = q + 1 := ⟨N - 1, by omega⟩
      have hk : k = 13 := by omega
      subst hk
      refine pu_inr ?_
      unfold bb_X7_nextChild_4
      rw [if_pos pu_13]; rfl
    | succ m ih =>
      intro k N k1 km hN
      obtain ⟨N, rfl⟩ : ∃ q, N = q + 1 := ⟨N - 1, by omega⟩
      have k2 : k ≤ 12 := by omega
      unfold pu_nc
      cases c : pu_ch σ (nI p) k
      · rw [if_neg (show ¬ (false = true) by decide), ← ih (k + 1) N (by omega) (by omega) (by omega)]
        refine pu_inl ?_
        unfold bb_X7_nextChild_4
        rw [if_neg (pu_h12 k2), pm_isChild h _ k1 k2, c, Option.bind_some, pu_iff, pu_s1]; rfl
      · rw [if_pos rfl]
        refine pu_inr ?_
        unfold bb_X7_nextChild_4
        rw [if_neg (pu_h12 k2), pm_isChild h _ k1 k2, c, Option.bind_some, pu_ift]; rfl
  unfold fn_X7_nextChild lp_X7_nextChild_4
  rw [Option.bind_some, pu_s1]
  exact key (12 - j) (j + 1) 1000 (by omega) (by omega) (by omega)
def pu_ct (N : Nat) : ((Int32 × qm_M) ⊕ qm_M) → Option qm_M
  | .inl s => qm_loop (fun s : Int32 × qm_M => bb_X7_showsAll_7 s.2 s.1) N s
  | .inr r => some r
theorem pu_lb (N : Nat) (x : Int32) (τ : qm_M) : qm_loop (fun s : Int32 × qm_M => bb_X7_showsAll_7 s.2 s.1) (N + 1) (x, τ) = (bb_X7_showsAll_7 τ x).bind (pu_ct N) := by
  conv => lhs; unfold qm_loop
  cases bb_X7_showsAll_7 τ x with
  | none => rfl
  | some r => cases r <;> rfl
abbrev pu_In (M : Nat) (x y : Int32) (τ : qm_M) : Option ((Int32 × qm_M) ⊕ qm_M) := qm_loop (fun s : Int32 × Int32 × qm_M => bb_X7_showsAll_52 s.2.2 s.1 s.2.1) M (x, y, τ)
theorem pu_In_go {M : Nat} {x : Int32} {y : Nat} (hy : y < 2147483648) {τ : qm_M} : pu_In (M + 1) x (nI y) τ = some (.inl (nI y, τ)) := by
  refine pu_inr ?_
  unfold bb_X7_showsAll_52
  rw [if_neg (pu_m1 hy)]; rfl
/-- the depth of one -/
def pu_dp (σ : qm_M) (d x : Nat) : Prop := pu_it (pu_par σ) d x = 0 ∧ ∀ i, i < d → pu_t σ (pu_it (pu_par σ) i x) = true
theorem pu_dp_c {σ : qm_M} {d p c : Nat} (h : pu_dp σ d p) (tc : pu_t σ c = true) (pc : pu_par σ c = p) : pu_dp σ (d + 1) c := by
  refine ⟨by show pu_it (pu_par σ) d (pu_par σ c) = 0; rw [pc]; exact h.1, fun i hi => ?_⟩
  cases i with
  | zero => exact tc
  | succ i => show pu_t σ (pu_it (pu_par σ) i (pu_par σ c)) = true; rw [pc]; exact h.2 i (by omega)
theorem pu_dp_12 {σ : qm_M} (G : pu_G σ) {d x : Nat} (h : pu_dp σ d x) (tx : pu_t σ x = true) : d ≤ 12 := by
  obtain ⟨n, n1, n2, n3, n4⟩ := pu_chain G tx
  rcases Nat.lt_or_ge n d with q | q
  · exact absurd n3 (G.z _ (h.2 n q))
  · omega
theorem pu_cpp {σ : qm_M} (G : pu_G σ) {p c : Nat} (p12 : p ≤ 12) (hc : pu_ch σ (nI p) c = true) : pu_t σ c = true ∧ pu_par σ c = p := by
  have hc : (bt (σ.1 0 1) c && decide (σ.1 (2 + c) 0 = nI p)) = true := hc
  rw [Bool.and_eq_true] at hc
  have g := G.2.1 c hc.1
  have e := of_decide_eq_true hc.2
  rw [g.2.1, pu_eq (by omega) (by omega)] at e
  exact ⟨hc.1, e⟩
/-- from a child on: the child, and those behind it -/
theorem pm_kids {B : Nat} {σ τ : qm_M} (h : RT σ (τ.2 211)) (w : WF B σ) (G : pu_G σ) {v : Nat} (hv : v < 2147483648) {f p d : Nat} (p12 : p ≤ 12) (dp : pu_dp σ d p)
    (V : ∀ (x : Nat) (l : List Nat) (N : Nat) (r : Option qm_M), pu_t σ x = true → pu_dp σ (d + 1) x → 1 ≤ N → (l ++ pu_nt σ f x).length ≤ 120 → (∀ M, 988 + (d + 1) ≤ M → (pu_In M (nI x) (-1) (pu_eM τ v (l ++ pu_nt σ f x))).bind (pu_ct N) = r) → qm_loop (fun s : Int32 × qm_M => bb_X7_showsAll_7 s.2 s.1) (N + pu_nn σ f x) (nI x, pu_eM τ v l) = r) :
    ∀ (m c : Nat) (l : List Nat) (N : Nat) (r : Option qm_M), c + m = 12 → pu_ch σ (nI p) c = true → 1 ≤ c → 1 ≤ N →
      (l ++ pu_nt σ f c ++ pu_kt (pu_nt σ f) (pu_ch σ (nI p)) (12 - c) (c + 1) false).length < 120 →
      (p ≠ 0 → ∀ M, 988 + d ≤ M → (pu_In M (nI p) (-1) (pu_eM τ v (l ++ pu_nt σ f c ++ pu_kt (pu_nt σ f) (pu_ch σ (nI p)) (12 - c) (c + 1) false ++ [41]))).bind (pu_ct N) = r) →
      (p = 0 → r = some (pu_eM τ v (l ++ pu_nt σ f c ++ pu_kt (pu_nt σ f) (pu_ch σ (nI p)) (12 - c) (c + 1) false))) →
      qm_loop (fun s : Int32 × qm_M => bb_X7_showsAll_7 s.2 s.1) (N + (pu_nn σ f c + pu_kn (pu_nn σ f) (pu_ch σ (nI p)) (12 - c) (c + 1))) (nI c, pu_eM τ v l) = r := by
  have hR : ∀ l, RT σ ((pu_eM τ v l).2 211) := fun l => h
  intro m
  induction m using Nat.strongRecOn with
  | ind m ih =>
    intro c l N r hm hc c1 N1 hl hp1 hp0
    obtain ⟨tc, pc⟩ := pu_cpp G p12 hc
    have gc := G.2.1 c tc
    have c12 : c ≤ 12 := by omega
    have hl0 : (l ++ pu_nt σ f c).length < 120 := by rw [List.length_append] at hl; omega
    rw [show N + (pu_nn σ f c + pu_kn (pu_nn σ f) (pu_ch σ (nI p)) (12 - c) (c + 1)) = (N + pu_kn (pu_nn σ f) (pu_ch σ (nI p)) (12 - c) (c + 1)) + pu_nn σ f c by omega]
    refine V c l _ r tc (pu_dp_c dp tc pc) (by omega) (by omega) (fun M hM => ?_)
    obtain ⟨M, rfl⟩ : ∃ q, M = q + 1 := ⟨M - 1, by omega⟩
    have kt := pu_kt_nc (nt := pu_nt σ f) (ch := pu_ch σ (nI p)) false (12 - c) (c + 1) (by omega)
    have kn := pu_kn_nc (nn := pu_nn σ f) (ch := pu_ch σ (nI p)) (12 - c) (c + 1) (by omega)
    have par : fn_X7_parent (pu_eM τ v (l ++ pu_nt σ f c)) (nI c) = some (nI p) := by rw [pm_parent (hR _) c1 c12 tc, gc.2.1, pc]
    have nz : ¬ nI c = 0 := by show ¬ nI c = nI 0; rw [pu_eq (by omega) (by omega)]; omega
    have nxt := pm_nextChild (hR (l ++ pu_nt σ f c)) p c c12
    cases hn : pu_nc (pu_ch σ (nI p)) (12 - c) (c + 1) with
    | none =>
      rw [kn.1 hn]
      rw [kt.1 hn, List.append_nil] at hl hp1 hp0
      rw [hn] at nxt
      by_cases q : p = 0
      · subst q
        have st : bb_X7_showsAll_52 (pu_eM τ v (l ++ pu_nt σ f c)) (nI c) (-1) = some (.inl (nI 0, -1, pu_eM τ v (l ++ pu_nt σ f c))) := by
          unfold bb_X7_showsAll_52
          rw [if_pos rfl, if_neg nz, par, Option.bind_some, nxt, Option.bind_some, Option.bind_some, if_pos (show pu_enc none = -1 from rfl), if_pos (show nI 0 = 0 from rfl)]; rfl
        have s1 : pu_In (M + 1) (nI c) (-1) (pu_eM τ v (l ++ pu_nt σ f c)) = pu_In M (nI 0) (-1) (pu_eM τ v (l ++ pu_nt σ f c)) := pu_inl st
        obtain ⟨M, rfl⟩ : ∃ q, M = q + 1 := ⟨M - 1, by omega⟩
        have s2 : pu_In (M + 1) (nI 0) (-1) (pu_eM τ v (l ++ pu_nt σ f c)) = some (.inl (-1, pu_eM τ v (l ++ pu_nt σ f c))) := by
          refine pu_inr ?_
          show bb_X7_showsAll_52 _ (nI 0) (-1) = _
          unfold bb_X7_showsAll_52
          rw [if_pos rfl, if_pos (show nI 0 = 0 from rfl)]; rfl
        rw [s1, s2, Option.bind_some, hp0 rfl]
        show qm_loop _ (N + 0) (-1, _) = _
        obtain ⟨N, rfl⟩ : ∃ q, N = q + 1 := ⟨N - 1, by omega⟩
        refine pu_inr ?_
        show bb_X7_showsAll_7 _ (-1) = _
        unfold bb_X7_showsAll_7
        rw [if_pos rfl]; rfl
      · have st : bb_X7_showsAll_52 (pu_eM τ v (l ++ pu_nt σ f c)) (nI c) (-1) = some (.inl (nI p, -1, pu_eM τ v (l ++ pu_nt σ f c ++ [41]))) := by
          unfold bb_X7_showsAll_52
          rw [if_pos rfl, if_neg nz, par, Option.bind_some, nxt, Option.bind_some, Option.bind_some, if_pos (show pu_enc none = -1 from rfl), if_neg (show ¬ nI p = 0 by show ¬ nI p = nI 0; rw [pu_eq (by omega) (by omega)]; exact q), show (41 : Int32) = nI 41 from rfl, pm_shows τ hv (by omega)]; rfl
        have s1 : pu_In (M + 1) (nI c) (-1) (pu_eM τ v (l ++ pu_nt σ f c)) = pu_In M (nI p) (-1) (pu_eM τ v (l ++ pu_nt σ f c ++ [41])) := pu_inl st
        rw [s1]
        exact hp1 q M (by omega)
    | some c' =>
      obtain ⟨b1, b2, b3⟩ := pu_nc_b _ _ _ hn
      rw [kn.2 c' hn]
      rw [kt.2 c' hn, if_neg (show ¬ (false = true) by decide)] at hl hp1 hp0
      rw [hn] at nxt
      have as : l ++ pu_nt σ f c ++ ([32] ++ pu_nt σ f c' ++ pu_kt (pu_nt σ f) (pu_ch σ (nI p)) (12 - c') (c' + 1) false) = l ++ pu_nt σ f c ++ [32] ++ pu_nt σ f c' ++ pu_kt (pu_nt σ f) (pu_ch σ (nI p)) (12 - c') (c' + 1) false := by
        rw [← List.append_assoc, ← List.append_assoc]
      rw [as] at hl hp1 hp0
      have st : bb_X7_showsAll_52 (pu_eM τ v (l ++ pu_nt σ f c)) (nI c) (-1) = some (.inl (nI p, nI c', pu_eM τ v (l ++ pu_nt σ f c ++ [32]))) := by
        unfold bb_X7_showsAll_52
        rw [if_pos rfl, if_neg nz, par, Option.bind_some, nxt, Option.bind_some, Option.bind_some, if_neg (show ¬ pu_enc (some c') = -1 from pu_m1 (by omega)), show (32 : Int32) = nI 32 from rfl, pm_shows τ hv (by omega)]; rfl
      have s1 : pu_In (M + 1) (nI c) (-1) (pu_eM τ v (l ++ pu_nt σ f c)) = pu_In M (nI p) (nI c') (pu_eM τ v (l ++ pu_nt σ f c ++ [32])) := pu_inl st
      obtain ⟨M, rfl⟩ : ∃ q, M = q + 1 := ⟨M - 1, by omega⟩
      rw [s1, pu_In_go (by omega), Option.bind_some]
      exact ih (12 - c') (by omega) c' (l ++ pu_nt σ f c ++ [32]) N r (by omega) b3 (by omega) N1 hl hp1 hp0
theorem pm_visit {B : Nat} {σ τ : qm_M} (h : RT σ (τ.2 211)) (w : WF B σ) (G : pu_G σ) {v : Nat} (hv : v < 2147483648) : ∀ (f d x : Nat) (l : List Nat) (N : Nat) (r : Option qm_M), d + f = 14 → pu_t σ x = true → pu_dp σ d x → 1 ≤ N → (l ++ pu_nt σ f x).length ≤ 120 → (∀ M, 988 + d ≤ M → (pu_In M (nI x) (-1) (pu_eM τ v (l ++ pu_nt σ f x))).bind (pu_ct N) = r) → qm_loop (fun s : Int32 × qm_M => bb_X7_showsAll_7 s.2 s.1) (N + pu_nn σ f x) (nI x, pu_eM τ v l) = r := by
  have hR : ∀ l, RT σ ((pu_eM τ v l).2 211) := fun l => h
  intro f
  induction f with
  | zero =>
    intro d x l N r df tx dx
    have := pu_dp_12 G dx tx
    omega
  | succ f ih =>
    intro d x l N r df tx dx N1 hl hI
    have bx := G.1 x tx
    have wx := pu_wI w bx.1 bx.2 tx
    have d12 := pu_dp_12 G dx tx
    have nt : pu_nt σ (f + 1) x = pu_hd σ x ++ (if pu_hk σ x = true then [40] ++ pu_kt (pu_nt σ f) (pu_ch σ (nI x)) 12 1 true ++ [41] else []) := rfl
    have nn : pu_nn σ (f + 1) x = 1 + pu_kn (pu_nn σ f) (pu_ch σ (nI x)) 12 1 := rfl
    have hl0 : (l ++ pu_hd σ x).length ≤ 120 := by rw [nt, ← List.append_assoc, List.length_append] at hl; omega
    have hd5 : l.length ≤ 120 := by rw [List.length_append] at hl0; omega
    have hdg := pu_dg_l x
    rw [nn, show N + (1 + pu_kn (pu_nn σ f) (pu_ch σ (nI x)) 12 1) = (N + pu_kn (pu_nn σ f) (pu_ch σ (nI x)) 12 1) + 1 by omega, pu_lb]
    have bod : bb_X7_showsAll_7 (pu_eM τ v l) (nI x) = (if pu_enc (pu_nc (pu_ch σ (nI x)) 12 1) = (-1) then lp_X7_showsAll_52 (pu_eM τ v (l ++ pu_hd σ x)) (nI x) (pu_enc (pu_nc (pu_ch σ (nI x)) 12 1)) else (fn_X7_shows (pu_eM τ v (l ++ pu_hd σ x)) 40).bind (fun r19 => lp_X7_showsAll_52 r19 (nI x) (pu_enc (pu_nc (pu_ch σ (nI x)) 12 1)))) := by
      unfold bb_X7_showsAll_7
      rw [if_neg (pu_m1 (by omega)), pm_showsN τ hv (by omega) (by omega), Option.bind_some, show (58 : Int32) = nI 58 from rfl, pm_shows τ hv (by rw [List.length_append]; omega), Option.bind_some, pu_its_2 _ bx.2, Option.bind_some]
      have e2 : (pu_eM τ v (l ++ pu_dg x ++ [58])).2 211 (16 * x + 2) = (σ.1 (2 + x) 1).toInt64 := (hR _).2.1 x 1 bx.1 bx.2 (by omega) tx
      have eh : l ++ pu_dg x ++ [58] ++ pu_dg (pu_w σ x) = l ++ pu_hd σ x := by
        unfold pu_hd; rw [← List.append_assoc, ← List.append_assoc]
      rw [e2, pu_i64, wx.2.2, pm_showsN τ hv (by omega) (by rw [pu_ln1, List.length_append]; omega), Option.bind_some, eh]
      have nx := pm_nextChild (hR (l ++ pu_hd σ x)) x 0 (by omega)
      have nx : fn_X7_nextChild (pu_eM τ v (l ++ pu_hd σ x)) (nI x) 0 = some (pu_enc (pu_nc (pu_ch σ (nI x)) 12 1)) := nx
      rw [nx, Option.bind_some]
    rw [bod]
    cases hn : pu_nc (pu_ch σ (nI x)) 12 1 with
    | none =>
      have hk := (pu_hk_nc σ x).mpr hn
      rw [nt, hk, if_neg (show ¬ (false = true) by decide), List.append_nil] at hI
      rw [(pu_kn_nc (nn := pu_nn σ f) (ch := pu_ch σ (nI x)) 12 1 (by omega)).1 hn, if_pos (show pu_enc none = -1 from rfl)]
      exact hI 1000 (by omega)
    | some c =>
      obtain ⟨b1, b2, b3⟩ := pu_nc_b _ _ _ hn
      have hk : pu_hk σ x = true := by
        cases q : pu_hk σ x with
        | true => rfl
        | false => rw [(pu_hk_nc σ x).mp q] at hn; cases hn
      have kt := (pu_kt_nc (nt := pu_nt σ f) (ch := pu_ch σ (nI x)) true 12 1 (by omega)).2 c hn
      rw [if_pos rfl, List.nil_append] at kt
      have ent : l ++ pu_nt σ (f + 1) x = l ++ pu_hd σ x ++ [40] ++ pu_nt σ f c ++ pu_kt (pu_nt σ f) (pu_ch σ (nI x)) (12 - c) (c + 1) false ++ [41] := by
        rw [nt, hk, if_pos rfl, kt]
        simp only [List.append_assoc]
      rw [ent] at hl hI
      rw [pu_ln1] at hl
      have hl2 : (l ++ pu_hd σ x).length < 120 := by
        have := hl
        rw [List.length_append, List.length_append, pu_ln1] at this
        omega
      rw [(pu_kn_nc (nn := pu_nn σ f) (ch := pu_ch σ (nI x)) 12 1 (by omega)).2 c hn, if_neg (show ¬ pu_enc (some c) = -1 from pu_m1 (by omega)), show (40 : Int32) = nI 40 from rfl, pm_shows τ hv (by omega), Option.bind_some]
      have go : lp_X7_showsAll_52 (pu_eM τ v (l ++ pu_hd σ x ++ [40])) (nI x) (pu_enc (some c)) = some (.inl (nI c, pu_eM τ v (l ++ pu_hd σ x ++ [40]))) := pu_In_go (M := 999) (by omega)
      rw [go, Option.bind_some]
      exact pm_kids h w G hv bx.2 dx (fun y l' N' r' ty dy hN' hl' hI' => ih (d + 1) y l' N' r' (by omega) ty dy hN' hl' hI') (12 - c) c (l ++ pu_hd σ x ++ [40]) N r (by omega) b3 b1 N1 (by omega) (fun _ M hM => hI M hM) (fun q => absurd q (by omega))
