-- the program's way
theorem pu_eP_t (σ : qm_M) (l : List Nat) {id : Nat} (h : id < 200) : (pu_eP σ l).1 id = σ.1 id := by
  funext k
  unfold pu_eP
  dsimp only
  rw [if_neg (by omega), if_neg (by omega)]
theorem pu_eP_ch (σ : qm_M) (l : List Nat) (p : Int32) {j : Nat} (h : j ≤ 12) : pu_ch (pu_eP σ l) p j = pu_ch σ p j := by
  show (bt ((pu_eP σ l).1 0 1) j && decide ((pu_eP σ l).1 (2 + j) 0 = p)) = _
  rw [pu_eP_t σ l (by omega), pu_eP_t σ l (by omega)]
theorem pu_cnt_0 {P : Nat → Bool} : pu_cnt P ≤ 0 ↔ pu_any (fun x => decide (1 ≤ x) && P x) 13 = false := by
  have key : ∀ m j a, pu_fold (fun j (b : Int32) => if P j = true then b + 1 else b) m j (nI a) = nI (pu_fold (fun j (b : Nat) => if P j = true then b + 1 else b) m j a) := by
    intro m
    induction m with
    | zero => intro j a; rfl
    | succ m ih =>
      intro j a
      unfold pu_fold
      by_cases c : P j = true
      · rw [if_pos c, if_pos c, pu_s1]; exact ih (j + 1) (a + 1)
      · rw [if_neg c, if_neg c]; exact ih (j + 1) a
  have e : pu_cnt P = nI (pu_ws P (fun _ => 1)) := key 12 1 0
  have b := pu_ws_12 P
  rw [e, show (0 : Int32) = nI 0 from rfl, pu_le (by omega) (by omega)]
  constructor
  · intro h
    cases hh : pu_any (fun x => decide (1 ≤ x) && P x) 13 with
    | false => rfl
    | true =>
      rw [pu_any_iff] at hh
      obtain ⟨i, i1, i2⟩ := hh
      rw [Bool.and_eq_true] at i2
      have := pu_ws_ge (P := P) (w := fun _ => 1) (fun _ _ _ _ => by omega) (of_decide_eq_true i2.1) (by omega) i2.2
      omega
  · intro h
    have z : pu_ws P (fun _ => 1) = pu_ws (fun _ => false) (fun _ => 1) := by
      unfold pu_ws
      refine pu_fold_cong 12 1 0 (fun i i1 i2 a => ?_)
      cases hp : P i with
      | false => rfl
      | true =>
        have : pu_any (fun x => decide (1 ≤ x) && P x) 13 = true := (pu_any_iff 13).mpr ⟨i, by omega, by rw [Bool.and_eq_true]; exact ⟨decide_eq_true i1, hp⟩⟩
        rw [h] at this; cases this
    rw [z]; decide
theorem pc_write {B : Nat} {σ : qm_M} (w : WF B σ) (G : pu_G σ) : ∀ (n f p d : Nat) (l : List Nat), (p = 0 ∨ pu_t σ p = true) → p ≤ 12 → pu_it (pu_par σ) d p = 0 → (∀ i, i < d → pu_t σ (pu_it (pu_par σ) i p) = true) → d ≤ 12 → d + f = 13 → 14 ≤ n + d → (l ++ pu_kt (pu_nt σ f) (pu_ch σ (nI p)) 12 1 true).length ≤ 120 → fn_X4_writeChildren n (pu_eP σ l) 0 (nI p) (nI d) = some (pu_eP σ (l ++ pu_kt (pu_nt σ f) (pu_ch σ (nI p)) 12 1 true)) := by
  intro n
  induction n with
  | zero => intro f p d l _ _ _ _ _ _ h; omega
  | succ n ih =>
    intro f p d l hp p12 hz hc d12 df nd hl
    show fb_X4_writeChildren (fn_X4_writeChildren n) (pu_eP σ l) 0 (nI p) (nI d) = _
    unfold fb_X4_writeChildren lp_X4_writeChildren_13
    rw [if_pos (show nI d ≤ 12 by show nI d ≤ nI 12; rw [pu_le (by omega) (by omega)]; exact d12)]
    have cp : ∀ c, pu_ch σ (nI p) c = true → pu_t σ c = true ∧ pu_par σ c = p := by
      intro c hc
      have hc : (bt (σ.1 0 1) c && decide (σ.1 (2 + c) 0 = nI p)) = true := hc
      rw [Bool.and_eq_true] at hc
      have g := G.2.1 c hc.1
      have e := of_decide_eq_true hc.2
      rw [g.2.1, pu_eq (by omega) (by omega)] at e
      exact ⟨hc.1, e⟩
    have loop : ∀ m j first l, 1 ≤ j → j + m = 13 → (l ++ pu_kt (pu_nt σ f) (pu_ch σ (nI p)) m j first).length ≤ 120 → ∀ N, m < N → qm_loop (fun s : Int32 × Int32 × qm_M => bb_X4_writeChildren_13 (fn_X4_writeChildren n) s.2.2 0 (nI p) (nI d) s.1 s.2.1) N (qm_b first, nI j, pu_eP σ l) = some (pu_eP σ (l ++ pu_kt (pu_nt σ f) (pu_ch σ (nI p)) m j first)) := by
      intro m
      induction m with
      | zero =>
        intro j first l j1 jm hl N hN
        obtain ⟨N, rfl⟩ : ∃ q, N = q + 1 := ⟨N - 1, by omega⟩
        have hj : j = 13 := by omega
        subst hj
        refine pu_inr ?_
        show bb_X4_writeChildren_13 (fn_X4_writeChildren n) (pu_eP σ l) 0 (nI p) (nI d) (qm_b first) (nI 13) = _
        unfold bb_X4_writeChildren_13
        rw [if_pos pu_13]
        show some (Sum.inr (pu_eP σ l)) = some (Sum.inr (pu_eP σ (l ++ [])))
        rw [List.append_nil]
      | succ m ihm =>
        intro j first l j1 jm hl N hN
        obtain ⟨N, rfl⟩ : ∃ q, N = q + 1 := ⟨N - 1, by omega⟩
        have j2 : j ≤ 12 := by omega
        unfold pu_kt at hl ⊢
        by_cases c : pu_ch σ (nI p) j = true
        · rw [if_pos c] at hl ⊢
          obtain ⟨tj, pj⟩ := cp j c
          have wj := pu_wI w j1 j2 tj
          -- the child's own text
          have node : ∀ l, (l ++ pu_nt σ f j).length ≤ 120 → bb_X4_writeChildren_41 (fn_X4_writeChildren n) (pu_eP σ l) 0 (nI p) (nI d) (nI j) = some (.inl (0, nI (j + 1), pu_eP σ (l ++ pu_nt σ f j))) := by
            intro l hl
            obtain ⟨n', n1', n2', n3', n4'⟩ := pu_chain G tj
            have dn : d + 1 ≤ 12 := by
              refine Nat.le_trans ?_ n2'
              rcases Nat.lt_or_ge d n' with q | q
              · exact q
              · exfalso
                obtain ⟨n'', rfl⟩ : ∃ q, n' = q + 1 := ⟨n' - 1, by omega⟩
                have n3' : pu_it (pu_par σ) n'' (pu_par σ j) = 0 := n3'
                rw [pj] at n3'
                exact G.z _ (hc n'' (by omega)) n3'
            obtain ⟨f, rfl⟩ : ∃ q, f = q + 1 := ⟨f - 1, by omega⟩
            unfold pu_nt at hl ⊢
            unfold bb_X4_writeChildren_41
            have h0 : (l ++ pu_hd σ j).length ≤ 120 := by
              rw [List.length_append, List.length_append] at hl
              rw [List.length_append]; omega
            unfold pu_hd at h0
            rw [← List.append_assoc, ← List.append_assoc] at h0
            have h1 : (l ++ pu_dg j ++ [58]).length ≤ 120 := by rw [List.length_append] at h0; omega
            have h2 : (l ++ pu_dg j).length < 120 := by rw [pu_ln1] at h1; omega
            rw [pc_putN σ (by omega) (by omega), Option.bind_some, show (58 : Int32) = nI 58 from rfl, pc_put σ h2, Option.bind_some, if_pos (pu_in (show j < 13 by omega) (by omega)), pu_clamp (by omega), show 0 + 1 + 1 + j = 2 + j by omega, pu_eP_t σ _ (by omega), wj.2.2, pc_putN σ (by omega) h0, Option.bind_some, pc_childCount, Option.bind_some]
            have eh : l ++ pu_dg j ++ [58] ++ pu_dg (pu_w σ j) = l ++ pu_hd σ j := by
              unfold pu_hd; rw [← List.append_assoc, ← List.append_assoc]
            rw [eh]
            have ecnt : pu_cnt (pu_ch (pu_eP σ (l ++ pu_hd σ j)) (nI j)) = pu_cnt (pu_ch σ (nI j)) := pu_cnt_cong (fun i _ i2 => pu_eP_ch σ _ _ i2)
            rw [ecnt]
            by_cases k : pu_hk σ j = true
            · have nk : ¬ pu_cnt (pu_ch σ (nI j)) ≤ 0 := fun q => by
                have := pu_cnt_0.mp q
                unfold pu_hk at k
                rw [this] at k; cases k
              rw [if_pos k] at hl ⊢
              have hl2 : (l ++ pu_hd σ j ++ [40] ++ pu_kt (pu_nt σ f) (pu_ch σ (nI j)) 12 1 true ++ [41]).length ≤ 120 := by
                rw [← List.append_assoc, ← List.append_assoc, ← List.append_assoc] at hl; exact hl
              have hl3 : (l ++ pu_hd σ j ++ [40] ++ pu_kt (pu_nt σ f) (pu_ch σ (nI j)) 12 1 true).length < 120 := by rw [pu_ln1] at hl2; omega
              have hl4 : (l ++ pu_hd σ j).length < 120 := by
                have := hl3
                rw [List.length_append, pu_ln1] at this; omega
              rw [if_neg nk, show (40 : Int32) = nI 40 from rfl, pc_put σ hl4, Option.bind_some, pu_s1, ih f j (d + 1) (l ++ pu_hd σ j ++ [40]) (Or.inr tj) j2 (by show pu_it (pu_par σ) d (pu_par σ j) = 0; rw [pj]; exact hz) (fun i hi => by
                cases i with
                | zero => exact tj
                | succ i => show pu_t σ (pu_it (pu_par σ) i (pu_par σ j)) = true; rw [pj]; exact hc i (by omega)) dn (by omega) (by omega) (by omega), Option.bind_some, show (41 : Int32) = nI 41 from rfl, pc_put σ hl3, Option.bind_some, pu_s1, ← List.append_assoc, ← List.append_assoc, ← List.append_assoc]; rfl
            · have k' : pu_hk σ j = false := by cases q : pu_hk σ j with
                | false => rfl
                | true => exact absurd q k
              rw [if_neg k, if_pos (pu_cnt_0.mpr k'), List.append_nil, pu_s1]; rfl
          have e32 : ∀ l (first : Bool), (l ++ ((if first = true then [] else [32]) ++ pu_nt σ f j ++ pu_kt (pu_nt σ f) (pu_ch σ (nI p)) m (j + 1) false)).length ≤ 120 → bb_X4_writeChildren_13 (fn_X4_writeChildren n) (pu_eP σ l) 0 (nI p) (nI d) (qm_b first) (nI j) = some (.inl (0, nI (j + 1), pu_eP σ (l ++ ((if first = true then [] else [32]) ++ pu_nt σ f j)))) := by
            intro l first hl
            unfold bb_X4_writeChildren_13
            rw [if_neg (pu_h12 j2), pc_isChild _ _ j2, pu_eP_ch σ l _ j2, c, Option.bind_some, pu_ift]
            rw [List.length_append, List.length_append] at hl
            cases first
            · rw [pu_iff, if_neg (show ¬ (false = true) by decide)] at *
              have h32 : l.length + (1 + (pu_nt σ f j).length) ≤ 120 := by
                rw [List.length_append] at hl
                have : ([32] : List Nat).length = 1 := rfl
                omega
              rw [show (32 : Int32) = nI 32 from rfl, pc_put σ (by omega), Option.bind_some, node _ (by rw [List.length_append, pu_ln1]; omega), List.append_assoc]
            · rw [pu_ift, if_pos rfl] at *
              rw [List.nil_append] at hl ⊢
              exact node l (by rw [List.length_append]; omega)
          have := e32 l first hl
          rw [pu_inl this]
          have key := ihm (j + 1) false (l ++ ((if first = true then [] else [32]) ++ pu_nt σ f j)) (by omega) (by omega) (by rw [← List.append_assoc] at hl; exact hl) N (by omega)
          rw [List.append_assoc] at key
          exact key
        · rw [if_neg c] at hl ⊢
          rw [← ihm (j + 1) first l (by omega) (by omega) hl N (by omega)]
          refine pu_inl ?_
          show bb_X4_writeChildren_13 (fn_X4_writeChildren n) (pu_eP σ l) 0 (nI p) (nI d) (qm_b first) (nI j) = _
          have c' : pu_ch σ (nI p) j = false := by cases q : pu_ch σ (nI p) j with
            | false => rfl
            | true => exact absurd q c
          unfold bb_X4_writeChildren_13
          rw [if_neg (pu_h12 j2), pc_isChild _ _ j2, pu_eP_ch σ l _ j2, c', Option.bind_some, pu_iff, pu_s1]; rfl
    exact loop 12 1 true l (by omega) (by omega) hl 1000 (by omega)
