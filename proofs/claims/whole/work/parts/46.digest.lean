-- ===== digest =====
theorem pu_hash {S R A : Type} {body : S → Option (S ⊕ R)} (mk : A → Nat → S) (f : Nat → A → A) (e : Nat) (fin : A → Option R) (lo : Nat) (hb : ∀ v j, lo ≤ j → j < e → body (mk v j) = some (.inl (mk (f j v) (j + 1)))) (he : ∀ v, body (mk v e) = (fin v).bind (fun y => some (.inr y))) : ∀ (m j : Nat) (v : A) (n : Nat), j + m = e → lo ≤ j → m < n → qm_loop body n (mk v j) = fin (pu_fold f m j v)
  | m, j, v, 0, _, _, h => absurd h (by omega)
  | 0, j, v, n + 1, hj, _, _ => by
    have hj : j = e := by omega
    subst hj
    exact pu_inb (he v)
  | m + 1, j, v, n + 1, hj, hl, hn => by
    rw [pu_inl (hb v j hl (by omega))]
    exact pu_hash mk f e fin lo hb he m (j + 1) (f j v) n (by omega) (by omega) (by omega)
def pu_tv (σ : qm_M) (j : Nat) : Int32 := if j < 3 then σ.1 200 (6 + j) else if j = 3 then σ.1 202 1 else if j = 9 then σ.1 200 3 else σ.1 0 (j - 1)
theorem pu_tolds {B : Nat} {σ τ : qm_M} (h : Inv B σ τ) {j : Nat} (hj : j < 10) : fn_X6_told σ (nI j) = some (pu_tv σ j, σ) ∧ fn_X7_toldOf τ (nI j) = some (pu_tv σ j) := by
  obtain ⟨⟨-, -, -, -, hg, -⟩, -, ⟨o, c, -, -, -, ho, hc, -⟩, ⟨c0, c1, c2⟩, ⟨n, -, n1, n2, -⟩⟩ := h
  have e0 := hg 0 (by omega); have e1 := hg 1 (by omega); have e2 := hg 2 (by omega); have e3 := hg 3 (by omega); have e4 := hg 4 (by omega)
  match j, hj with
  | 0, _ => exact ⟨rfl, show some (τ.1 213 0) = some (σ.1 200 6) by rw [c0]⟩
  | 1, _ => exact ⟨rfl, show some (τ.1 213 1) = some (σ.1 200 7) by rw [c1]⟩
  | 2, _ => exact ⟨rfl, show some (τ.1 213 2) = some (σ.1 200 8) by rw [c2]⟩
  | 3, _ => exact ⟨rfl, show some (τ.1 210 7) = some (σ.1 202 1) by rw [n1, n2]⟩
  | 4, _ => exact ⟨rfl, show some ((τ.2 211 (208 + 0)).toInt32) = some (σ.1 0 3) by rw [e0, pu_i64]⟩
  | 5, _ => exact ⟨rfl, show some ((τ.2 211 (208 + 1)).toInt32) = some (σ.1 0 4) by rw [e1, pu_i64]⟩
  | 6, _ => exact ⟨rfl, show some ((τ.2 211 (208 + 2)).toInt32) = some (σ.1 0 5) by rw [e2, pu_i64]⟩
  | 7, _ => exact ⟨rfl, show some ((τ.2 211 (208 + 3)).toInt32) = some (σ.1 0 6) by rw [e3, pu_i64]⟩
  | 8, _ => exact ⟨rfl, show some ((τ.2 211 (208 + 4)).toInt32) = some (σ.1 0 7) by rw [e4, pu_i64]⟩
  | 9, _ => exact ⟨rfl, show some (τ.1 210 2) = some (σ.1 200 3) by rw [ho, hc]⟩
  | j + 10, hj => exact absurd hj (by omega)
theorem pc_turn0 {σ : qm_M} {s : Nat} (h1 : 1 ≤ s) (h2 : s ≤ 12) (ht : pu_t σ s = true) : fn_X6_turn σ (nI s) 0 = some (σ.2 (2 + s) 12, σ) ∧ fn_X6_turn σ (nI s) 1 = some (σ.2 (2 + s) 13, σ) := by
  have ht : bt (σ.1 0 1) s = true := ht
  have th : pu_th σ (nI s) = true := by rw [pu_th_nI σ h1 h2]; exact ht
  constructor
  · unfold fn_X6_turn
    rw [if_pos rfl, pc_isThere, th, Option.bind_some, pu_ift, if_pos (pu_in (show s < 13 by omega) (by omega)), pu_clamp (by omega), show 0 + 1 + 1 + s = 2 + s by omega]
  · unfold fn_X6_turn bb_X6_turn_28
    rw [if_neg (by decide), if_pos rfl, pc_isNode, Option.bind_some]
    unfold pu_nd
    rw [th, Bool.or_true, pu_ift, if_pos (pu_in (show s < 13 by omega) (by omega)), pu_clamp (by omega), show 0 + 1 + 1 + s = 2 + s by omega]
theorem pc_turnR (σ : qm_M) : fn_X6_turn σ 0 1 = some (σ.2 2 13, σ) := by
  unfold fn_X6_turn bb_X6_turn_28
  rw [if_neg (by decide), if_pos rfl, pc_isNode, Option.bind_some]
  unfold pu_nd
  rw [decide_eq_true rfl, Bool.true_or, pu_ift]; rfl
def pu_ds (σ : qm_M) (j : Nat) (v : Int64) : Int64 := 31 * (31 * pu_fold (fun k v => 31 * v + (pu_of σ j k).toInt64) 16 0 (31 * v + (nI j).toInt64) + σ.2 (2 + j) 12) + σ.2 (2 + j) 13
theorem pu_dst {B : Nat} {σ τ : qm_M} (h : Inv B σ τ) {j : Nat} (h1 : 1 ≤ j) (h2 : j ≤ 12) (ht : pu_t σ j = true) (v : Int64) : fn_X6_digestStream σ v (nI j) = some (pu_ds σ j v, σ) ∧ lp_X7_digest_86 τ (31 * v + (nI j).toInt64) (nI j) 0 = some (.inl (pu_ds σ j v, nI (j + 1))) := by
  obtain ⟨t0, t1⟩ := pc_turn0 h1 h2 ht
  obtain ⟨g0, g1, -⟩ := h.1.2.2.1 j h1 h2 ht
  constructor
  · unfold fn_X6_digestStream lp_X6_digestStream_13
    rw [Option.bind_some]
    have key := pu_hash (S := Int64 × Int32 × qm_M) (R := Int64 × qm_M) (A := Int64) (body := fun s => bb_X6_digestStream_13 s.2.2 (nI j) s.1 s.2.1) (fun v k => (v, nI k, σ)) (fun k v => 31 * v + (pu_of σ j k).toInt64) 16 (fun v => some (31 * (31 * v + σ.2 (2 + j) 12) + σ.2 (2 + j) 13, σ)) 0 (fun v k _ hk => ?_) (fun v => ?_) 16 0 (31 * v + (nI j).toInt64) 1000 rfl (by omega) (by omega)
    · exact key
    · dsimp only
      unfold bb_X6_digestStream_13
      rw [if_neg (show ¬ (15 : Int32) < nI k by show ¬ nI 15 < nI k; rw [pu_lt (by omega) (by omega)]; omega), pc_of h.1 h.2.1 ht (by omega), pu_s1]; rfl
    · dsimp only
      unfold bb_X6_digestStream_13
      rw [if_pos (by decide), t0]
      simp only [Option.bind_some]
      rw [t1]; rfl
  · have key := pu_hash (S := Int64 × Int32) (R := (Int64 × Int32) ⊕ Int64) (A := Int64) (body := fun s => bb_X7_digest_86 τ s.1 (nI j) s.2) (fun v k => (v, nI k)) (fun k v => 31 * v + (pu_of σ j k).toInt64) 16 (fun v => some (.inl (31 * (31 * v + σ.2 (2 + j) 12) + σ.2 (2 + j) 13, nI (j + 1)))) 0 (fun v k _ hk => ?_) (fun v => ?_) 16 0 (31 * v + (nI j).toInt64) 1000 rfl (by omega) (by omega)
    · exact key
    · dsimp only
      unfold bb_X7_digest_86
      rw [if_neg (show ¬ (16 : Int32) ≤ nI k by show ¬ nI 16 ≤ nI k; rw [pu_le (by omega) (by omega)]; omega), pm_ofNow h.1 h.2.1 ht (by omega), pu_s1]; rfl
    · dsimp only
      unfold bb_X7_digest_86
      rw [if_pos (by decide), pu_its_9 τ h2, pu_its_10 τ h2, g0, g1, pu_s1]; rfl
theorem pu_digest {B : Nat} {σ τ : qm_M} (h : Inv B σ τ) : ∃ r, fn_X6_digest σ = some (r, σ) ∧ fn_X7_digest τ = some r := by
  obtain ⟨nx, nx1, nx2⟩ := pu_next h
  have nx3 : fn_X7_nextNow τ = some nx := by
    unfold fn_X7_next at nx2
    cases q : fn_X7_nextNow τ with
    | none => rw [q] at nx2; cases nx2
    | some r => rw [q] at nx2; exact nx2
  have G := pu_G.of h.1 h.2.1
  -- the streams
  have a60 := fun v => pu_hash (S := Int64 × Int32 × qm_M) (R := Int64 × qm_M) (A := Int64) (body := fun s => bb_X6_digest_60 s.2.2 s.1 s.2.1) (fun v k => (v, nI k, σ)) (fun k v => if pu_t σ k = true then pu_ds σ k v else v) 13 (fun v => some (31 * (31 * v + σ.2 2 13) + nx.toInt64, σ)) 1 (fun v k k1 k2 => by
      dsimp only
      unfold bb_X6_digest_60
      rw [if_neg (pu_h12 (by omega)), pc_isThere, pu_th_nI σ k1 (by omega), Option.bind_some, pu_s1]
      by_cases ht : pu_t σ k = true
      · have ht' : bt (σ.1 0 1) k = true := ht
        rw [if_pos ht, ht', pu_ift, (pu_dst h k1 (by omega) ht v).1]; rfl
      · rw [if_neg ht]
        have ht' : bt (σ.1 0 1) k = false := by cases q : bt (σ.1 0 1) k with
          | false => rfl
          | true => exact absurd q ht
        rw [ht', pu_iff]; rfl) (fun v => by
      dsimp only
      unfold bb_X6_digest_60
      rw [if_pos pu_13, pc_turnR]
      simp only [Option.bind_some]
      rw [nx1]; rfl) 12 1 v 1000 rfl (by omega) (by omega)
  have b60 := fun v => pu_hash (S := Int64 × Int32) (R := Int64) (A := Int64) (body := fun s => bb_X7_digest_60 τ s.1 s.2) (fun v k => (v, nI k)) (fun k v => if pu_t σ k = true then pu_ds σ k v else v) 13 (fun v => some (31 * (31 * v + σ.2 2 13) + nx.toInt64)) 1 (fun v k k1 k2 => by
      dsimp only
      unfold bb_X7_digest_60
      rw [if_neg (pu_h12 (by omega)), pm_isStream h.1, pu_th_nI σ k1 (by omega), Option.bind_some]
      by_cases ht : pu_t σ k = true
      · have ht' : bt (σ.1 0 1) k = true := ht
        rw [if_pos ht, ht', pu_ift, Option.bind_some, (pu_dst h k1 (by omega) ht v).2]
      · rw [if_neg ht]
        have ht' : bt (σ.1 0 1) k = false := by cases q : bt (σ.1 0 1) k with
          | false => rfl
          | true => exact absurd q ht
        rw [ht', pu_iff, pu_s1]; rfl) (fun v => by
      dsimp only
      unfold bb_X7_digest_60
      have e10 : fn_X7_its τ 0 10 = some (σ.2 2 13) := by
        rw [show (0 : Int32) = nI 0 from rfl, pu_its_10 τ (by omega), show 16 * 0 + 10 = 10 from rfl, h.1.2.2.2.1]
      rw [if_pos pu_13, e10, nx3]; rfl) 12 1 v 1000 rfl (by omega) (by omega)
  -- all
  have a33 := fun v => pu_hash (S := Int64 × Int32 × qm_M) (R := Int64 × qm_M) (A := Int64) (body := fun s => bb_X6_digest_33 s.2.2 s.1 s.2.1) (fun v k => (v, nI k, σ)) (fun k v => 31 * v + (pu_all σ k).toInt64) 7 (fun v => lp_X6_digest_60 σ v 1) 0 (fun v k _ k2 => by
      dsimp only
      unfold bb_X6_digest_33
      rw [if_neg (show ¬ (6 : Int32) < nI k by show ¬ nI 6 < nI k; rw [pu_lt (by omega) (by omega)]; omega), pc_all G (by omega), pu_s1]; rfl) (fun v => by
      dsimp only
      unfold bb_X6_digest_33
      rw [if_pos (by decide)]) 7 0 v 1000 rfl (by omega) (by omega)
  have b33 := fun v => pu_hash (S := Int64 × Int32) (R := Int64) (A := Int64) (body := fun s => bb_X7_digest_33 τ s.1 s.2) (fun v k => (v, nI k)) (fun k v => 31 * v + (pu_all σ k).toInt64) 7 (fun v => lp_X7_digest_60 τ v 1) 0 (fun v k _ k2 => by
      dsimp only
      unfold bb_X7_digest_33
      rw [if_neg (show ¬ (7 : Int32) ≤ nI k by show ¬ nI 7 ≤ nI k; rw [pu_le (by omega) (by omega)]; omega), pm_allNow h.1 h.2.1 (by omega), pu_s1]; rfl) (fun v => by
      dsimp only
      unfold bb_X7_digest_33
      rw [if_pos (by decide)]) 7 0 v 1000 rfl (by omega) (by omega)
  -- told
  have a6 := fun v => pu_hash (S := Int64 × Int32 × qm_M) (R := Int64 × qm_M) (A := Int64) (body := fun s => bb_X6_digest_6 s.2.2 s.1 s.2.1) (fun v k => (v, nI k, σ)) (fun k v => 31 * v + (pu_tv σ k).toInt64) 10 (fun v => lp_X6_digest_33 σ v 0) 0 (fun v k _ k2 => by
      dsimp only
      unfold bb_X6_digest_6
      rw [if_neg (show ¬ (9 : Int32) < nI k by show ¬ nI 9 < nI k; rw [pu_lt (by omega) (by omega)]; omega), (pu_tolds h k2).1, pu_s1]; rfl) (fun v => by
      dsimp only
      unfold bb_X6_digest_6
      rw [if_pos (by decide)]) 10 0 v 1000 rfl (by omega) (by omega)
  have b6 := fun v => pu_hash (S := Int64 × Int32) (R := Int64) (A := Int64) (body := fun s => bb_X7_digest_6 τ s.1 s.2) (fun v k => (v, nI k)) (fun k v => 31 * v + (pu_tv σ k).toInt64) 10 (fun v => lp_X7_digest_33 τ v 0) 0 (fun v k _ k2 => by
      dsimp only
      unfold bb_X7_digest_6
      rw [if_neg (show ¬ (10 : Int32) ≤ nI k by show ¬ nI 10 ≤ nI k; rw [pu_le (by omega) (by omega)]; omega), (pu_tolds h k2).2, pu_s1]; rfl) (fun v => by
      dsimp only
      unfold bb_X7_digest_6
      rw [if_pos (by decide)]) 10 0 v 1000 rfl (by omega) (by omega)
  exact ⟨_, (a6 2311).trans ((a33 _).trans (a60 _)), (b6 2311).trans ((b33 _).trans (b60 _))⟩
