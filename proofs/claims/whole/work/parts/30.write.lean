-- ===== writes that keep the relation =====
theorem pu_km_b {k : Nat} (h : k < 12) : 1 ≤ pu_km k ∧ pu_km k ≤ 14 ∧ pu_km k ≠ 9 ∧ pu_km k ≠ 10 := by unfold pu_km; split <;> omega
theorem pu_km_i {k k' : Nat} (h : k < 12) (h' : k' < 12) (e : pu_km k = pu_km k') : k = k' := by unfold pu_km at e; split at e <;> split at e <;> omega
theorem RT.wr {σ : qm_M} {g : Nat → Int64} (h : RT σ g) {s k : Nat} (hs : s ≤ 12) (hk : k < 12) (x : Int32) : RT (qm_si σ (2 + s) k x) (vp_updL g (16 * s + pu_km k) x.toInt64) := by
  obtain ⟨h1, h2, h3, h4, h5, h6⟩ := h
  have hb := pu_km_b hk
  have e0 : (qm_si σ (2 + s) k x).1 0 = σ.1 0 := qm_si_ne _ _ _ (by omega)
  refine ⟨fun s' a b => ?_, fun s' k' a b c d => ?_, fun s' a b c => ?_, ?_, fun k' a => ?_, fun i a => ?_⟩
  · rw [e0]; unfold vp_updL; rw [if_neg (by omega)]; exact h1 s' a b
  · rw [e0] at d
    have hb' := pu_km_b c
    unfold vp_updL
    by_cases e : s' = s ∧ k' = k
    · rw [e.1, e.2, if_pos rfl, qm_si_at, if_pos rfl]
    · rw [if_neg (fun q => e (by have e2 : s' = s := by omega
                                 exact ⟨e2, pu_km_i c hk (by omega)⟩))]
      rw [h2 s' k' a b c d]
      unfold qm_si
      dsimp only
      rw [if_neg (by omega)]
  · rw [e0] at c ⊢
    unfold vp_updL
    rw [if_neg (by omega), if_neg (by omega), if_neg (by omega)]
    exact h3 s' a b c
  · unfold vp_updL; rw [if_neg (by omega)]; exact h4
  · rw [e0]; unfold vp_updL; rw [if_neg (by omega)]; exact h5 k' a
  · rw [e0]; exact h6 i a
theorem RT.tn {σ : qm_M} {g : Nat → Int64} (h : RT σ g) {s : Nat} (hs : s ≤ 12) (x : Int64) : RT (qm_sl σ (2 + s) 12 x) (vp_updL g (16 * s + 9) x) := by
  obtain ⟨h1, h2, h3, h4, h5, h6⟩ := h
  refine ⟨fun s' a b => ?_, fun s' k' a b c d => ?_, fun s' a b c => ?_, ?_, fun k' a => ?_, h6⟩
  · unfold vp_updL; rw [if_neg (by omega)]; exact h1 s' a b
  · have hb' := pu_km_b c
    unfold vp_updL; rw [if_neg (by omega)]; exact h2 s' k' a b c d
  · obtain ⟨x1, x2, x3⟩ := h3 s' a b c
    unfold vp_updL
    rw [if_neg (show ¬ 16 * s' + 10 = 16 * s + 9 by omega), if_neg (show ¬ 16 * s' + 15 = 16 * s + 9 by omega)]
    refine ⟨?_, ?_, x3⟩
    · by_cases e : s' = s
      · rw [e, if_pos rfl, qm_sl_at, if_pos rfl]
      · rw [if_neg (by omega), qm_sl_ne _ _ _ (by omega)]; exact x1
    · unfold qm_sl; dsimp only; rw [if_neg (by omega)]; exact x2
  · unfold vp_updL qm_sl; dsimp only; rw [if_neg (by omega), if_neg (by omega)]; exact h4
  · unfold vp_updL; rw [if_neg (by omega)]; exact h5 k' a
theorem RT.fl {σ : qm_M} {g : Nat → Int64} (h : RT σ g) {s : Nat} (hs : s ≤ 12) (x : Int64) : RT (qm_sl σ (2 + s) 13 x) (vp_updL g (16 * s + 10) x) := by
  obtain ⟨h1, h2, h3, h4, h5, h6⟩ := h
  refine ⟨fun s' a b => ?_, fun s' k' a b c d => ?_, fun s' a b c => ?_, ?_, fun k' a => ?_, h6⟩
  · unfold vp_updL; rw [if_neg (by omega)]; exact h1 s' a b
  · have hb' := pu_km_b c
    unfold vp_updL; rw [if_neg (by omega)]; exact h2 s' k' a b c d
  · obtain ⟨x1, x2, x3⟩ := h3 s' a b c
    unfold vp_updL
    rw [if_neg (show ¬ 16 * s' + 9 = 16 * s + 10 by omega), if_neg (show ¬ 16 * s' + 15 = 16 * s + 10 by omega)]
    refine ⟨?_, ?_, x3⟩
    · unfold qm_sl; dsimp only; rw [if_neg (by omega)]; exact x1
    · by_cases e : s' = s
      · rw [e, if_pos rfl, qm_sl_at, if_pos rfl]
      · rw [if_neg (by omega), qm_sl_ne _ _ _ (by omega)]; exact x2
  · unfold vp_updL
    by_cases e : s = 0
    · subst e; rw [if_pos rfl, qm_sl_at, if_pos rfl]
    · rw [if_neg (by omega), qm_sl_ne _ _ _ (by omega)]; exact h4
  · unfold vp_updL; rw [if_neg (by omega)]; exact h5 k' a
theorem RT.gl {σ : qm_M} {g : Nat → Int64} (h : RT σ g) {k : Nat} (hk : k < 7) (x : Int32) : RT (qm_si σ 0 (3 + k) x) (vp_updL g (208 + k) x.toInt64) := by
  obtain ⟨h1, h2, h3, h4, h5, h6⟩ := h
  have e1 : (qm_si σ 0 (3 + k) x).1 0 1 = σ.1 0 1 := by rw [qm_si_at, if_neg (by omega)]
  have e2 : (qm_si σ 0 (3 + k) x).1 0 2 = σ.1 0 2 := by rw [qm_si_at, if_neg (by omega)]
  refine ⟨fun s' a b => ?_, fun s' k' a b c d => ?_, fun s' a b c => ?_, ?_, fun k' a => ?_, fun i a => ?_⟩
  · rw [e1]; unfold vp_updL; rw [if_neg (by omega)]; exact h1 s' a b
  · rw [e1] at d
    have hb' := pu_km_b c
    unfold vp_updL; rw [if_neg (by omega), qm_si_ne _ _ _ (by omega)]; exact h2 s' k' a b c d
  · rw [e1] at c; rw [e2]
    unfold vp_updL
    rw [if_neg (by omega), if_neg (by omega), if_neg (by omega)]
    exact h3 s' a b c
  · unfold vp_updL; rw [if_neg (by omega)]; exact h4
  · unfold vp_updL
    by_cases e : k' = k
    · rw [e, if_pos rfl, qm_si_at, if_pos rfl]
    · rw [if_neg (by omega), qm_si_at, if_neg (by omega)]; exact h5 k' a
  · rw [e1]; exact h6 i a
theorem WF.sl {B : Nat} {σ : qm_M} (h : WF B σ) (id k : Nat) (x : Int64) : WF B (qm_sl σ id k x) := h.cong (fun _ _ => rfl)
theorem WF.wr {B : Nat} {σ : qm_M} (h : WF B σ) {s k : Nat} (hs : s ≤ 12) (hk : k ≠ 0) (x : Int32) (hx : 1 ≤ s → pu_t σ s = true → WS B (σ.1 0 1) (upd (σ.1 (2 + s)) k x) s) (h6 : k = 6 → x = 0 ∨ x = 1) : WF B (qm_si σ (2 + s) k x) := by
  obtain ⟨w1, ⟨rk, w2⟩, w3, w4, w5, w6, w7, w8⟩ := h
  have e0 : (qm_si σ (2 + s) k x).1 0 = σ.1 0 := qm_si_ne _ _ _ (by omega)
  refine ⟨fun s' a b c => ?_, ⟨rk, fun s' a b c => ?_⟩, by rw [e0]; exact w3, by rw [e0]; exact w4, by rw [e0]; exact w5, by rw [e0]; exact w6, by rw [e0]; exact w7, fun s' a => ?_⟩
  · rw [e0] at c ⊢
    by_cases e : s' = s
    · subst e; rw [qm_si_row]; exact hx a c
    · rw [qm_si_ne _ _ _ (by omega)]; exact w1 s' a b c
  · rw [e0] at c
    have hp : pu_par (qm_si σ (2 + s) k x) s' = pu_par σ s' := by
      unfold pu_par
      by_cases e : s' = s
      · subst e; rw [qm_si_at, if_neg (fun q => hk q.symm)]
      · rw [qm_si_ne _ _ _ (by omega)]
    rw [hp]; exact w2 s' a b c
  · by_cases e : s' = s
    · subst e
      rw [qm_si_at]
      by_cases e6 : k = 6
      · rw [if_pos e6.symm]; exact h6 e6
      · rw [if_neg (fun q => e6 q.symm)]; exact w8 s' a
    · rw [qm_si_ne _ _ _ (by omega)]; exact w8 s' a
/-- only the live tree is changed; only the model's live row is changed -/
def Lc (σ σ' : qm_M) : Prop := ∀ id, 15 ≤ id → σ'.1 id = σ.1 id ∧ σ'.2 id = σ.2 id
def Lm (τ τ' : qm_M) : Prop := τ'.1 = τ.1 ∧ ∀ id, id ≠ 211 → τ'.2 id = τ.2 id
theorem Lc.rf (σ : qm_M) : Lc σ σ := fun _ _ => ⟨rfl, rfl⟩
theorem Lm.rf (σ : qm_M) : Lm σ σ := ⟨rfl, fun _ _ => rfl⟩
theorem Lc.tr {a b c : qm_M} (h : Lc a b) (k : Lc b c) : Lc a c := fun i hi => ⟨(k i hi).1.trans (h i hi).1, (k i hi).2.trans (h i hi).2⟩
theorem Lm.tr {a b c : qm_M} (h : Lm a b) (k : Lm b c) : Lm a c := ⟨k.1.trans h.1, fun i hi => (k.2 i hi).trans (h.2 i hi)⟩
theorem Lc.si (σ : qm_M) {id : Nat} (k : Nat) (x : Int32) (h : id < 15) : Lc σ (qm_si σ id k x) := fun i hi => ⟨qm_si_ne σ k x (by omega), rfl⟩
theorem Lc.sl (σ : qm_M) {id : Nat} (k : Nat) (x : Int64) (h : id < 15) : Lc σ (qm_sl σ id k x) := fun i hi => ⟨rfl, qm_sl_ne σ k x (by omega)⟩
theorem Lm.sl (σ : qm_M) (k : Nat) (x : Int64) : Lm σ (qm_sl σ 211 k x) := ⟨rfl, fun i hi => qm_sl_ne σ k x hi⟩
theorem Inv.upd {B B' : Nat} {σ σ2 τ τ2 : qm_M} (h : Inv B σ τ) (hL : Lc σ σ2) (hM : Lm τ τ2) (hR : RT σ2 (τ2.2 211)) (hW : WF B' σ2) (hb : B ≤ B') : Inv B' σ2 τ2 := by
  obtain ⟨-, -, h3, h4, h5⟩ := h
  refine ⟨hR, hW, (h3.mono hb).cong (fun id a b => hL id (by omega)) (by rw [(hL 200 (by omega)).1]) (by rw [(hL 200 (by omega)).1]) (hM.2 212 (by omega)) (by rw [hM.1]), ?_, ?_⟩
  · unfold Cnt at h4 ⊢; rw [(hL 200 (by omega)).1, hM.1]; exact h4
  · unfold Txt at h5 ⊢; rw [(hL 202 (by omega)).1, (hL 203 (by omega)).1, hM.1]; exact h5
theorem Sim.done {B B' : Nat} {σ σ' σ2 τ τ' τ2 : qm_M} {α : Type} {x y : Option (α × qm_M)} (r : α) (hx : x = some (r, σ2)) (hy : y = some (r, τ2)) (hI : Inv B σ' τ') (f1 : Fc σ σ') (f2 : Fm τ τ') (hL : Lc σ' σ2) (hM : Lm τ' τ2) (hR : RT σ2 (τ2.2 211)) (hW : WF B' σ2) (hb : B ≤ B') : Sim B' σ τ x y :=
  ⟨r, σ2, τ2, hx, hy, hI.upd hL hM hR hW hb, f1.tr (fun id hid => hL id (by omega)), f2.tr (fun id hid => ⟨by rw [hM.1], hM.2 id (by omega)⟩)⟩
/-- a kept state, then one field of a stream -/
theorem pu_setf {B : Nat} {σ τ : qm_M} (h : Inv B σ τ) {j k : Nat} (ht : pu_t σ j = true) (hk : k < 12) (hk0 : k ≠ 0) (hk6 : k ≠ 6) {v : Int32} (hx : ∀ th f s, WS B th f s → WS B th (upd f k v) s) : ∃ σ' τ', fn_X6_leaveState σ = some σ' ∧ fn_X7_keep τ = some τ' ∧ σ'.1 (2 + j) k = σ.1 (2 + j) k ∧ τ'.2 211 (16 * j + pu_km k) = (σ.1 (2 + j) k).toInt64 ∧ ∀ r : Int32, Sim B σ τ (some (r, qm_si σ' (2 + j) k v)) (some (r, qm_sl τ' 211 (16 * j + pu_km k) v.toInt64)) := by
  have G := pu_G.of h.1 h.2.1
  have hj := G.1 j ht
  obtain ⟨σ', τ', e1, e2, hI, f1, f2, K⟩ := pu_keep h
  have es : ∀ id, id < 32 → σ'.1 id = σ.1 id := fun id hid => (K.1 id (Or.inl hid)).1
  have ht' : pu_t σ' j = true := by show bt (σ'.1 0 1) j = true; rw [es 0 (by omega)]; exact ht
  refine ⟨σ', τ', e1, e2, by rw [es _ (by omega)], by rw [hI.1.2.1 j k hj.1 hj.2 hk ht', es _ (by omega)], fun r => ?_⟩
  refine Sim.done (σ' := σ') (τ' := τ') r rfl rfl hI f1 f2 (Lc.si σ' _ _ (by omega)) (Lm.sl τ' _ _) ?_ (hI.2.1.wr hj.2 hk0 v (fun a b => hx _ _ _ (hI.2.1.1 j a hj.2 b)) (fun q => absurd q hk6)) (Nat.le_refl _)
  rw [qm_sl_row]
  exact hI.1.wr hj.2 hk v
theorem pu_upd_ne {f : Nat → Int32} {k j : Nat} {x : Int32} (h : j ≠ k) : upd f k x j = f j := pk_un h
theorem WS.k1 {B : Nat} {n : Nat} (h1 : 1 ≤ n) (h2 : n ≤ 16) (th : Int32) (f : Nat → Int32) (s : Nat) (h : WS B th f s) : WS B th (upd f 1 (nI n)) s := by
  obtain ⟨a0, -, a2, a3, a4, a5, a6, a7, a8, a9, a10, a11⟩ := h
  exact ⟨a0, ⟨n, h1, h2, rfl⟩, a2, a3, a4, a5, a6, a7, a8, a9, a10, a11⟩
theorem WS.k2 {B : Nat} {n : Nat} (h2 : n ≤ 9999) (th : Int32) (f : Nat → Int32) (s : Nat) (h : WS B th f s) : WS B th (upd f 2 (nI n)) s := by
  obtain ⟨a0, a1, -, a3, a4, a5, a6, a7, a8, a9, a10, a11⟩ := h
  exact ⟨a0, a1, ⟨n, h2, rfl⟩, a3, a4, a5, a6, a7, a8, a9, a10, a11⟩
theorem WS.k3 {B : Nat} {n : Nat} (h2 : n ≤ 9999) (th : Int32) (f : Nat → Int32) (s : Nat) (h : WS B th f s) : WS B th (upd f 3 (nI n)) s := by
  obtain ⟨a0, a1, a2, -, a4, a5, a6, a7, a8, a9, a10, a11⟩ := h
  exact ⟨a0, a1, a2, ⟨n, h2, rfl⟩, a4, a5, a6, a7, a8, a9, a10, a11⟩
theorem WS.k4 {B : Nat} {n : Nat} (h2 : n ≤ 7) (th : Int32) (f : Nat → Int32) (s : Nat) (h : WS B th f s) : WS B th (upd f 4 (nI n)) s := by
  obtain ⟨a0, a1, a2, a3, -, a5, a6, a7, a8, a9, a10, a11⟩ := h
  exact ⟨a0, a1, a2, a3, ⟨n, h2, rfl⟩, a5, a6, a7, a8, a9, a10, a11⟩
theorem WS.k5 {B : Nat} {n : Nat} (h2 : n ≤ 1) (th : Int32) (f : Nat → Int32) (s : Nat) (h : WS B th f s) : WS B th (upd f 5 (nI n)) s := by
  obtain ⟨a0, a1, a2, a3, a4, -, a6, a7, a8, a9, a10, a11⟩ := h
  exact ⟨a0, a1, a2, a3, a4, ⟨n, h2, rfl⟩, a6, a7, a8, a9, a10, a11⟩
theorem WS.k6 {B : Nat} {n : Nat} (h2 : n ≤ 1) (th : Int32) (f : Nat → Int32) (s : Nat) (h : WS B th f s) : WS B th (upd f 6 (nI n)) s := by
  obtain ⟨a0, a1, a2, a3, a4, a5, -, a7, a8, a9, a10, a11⟩ := h
  exact ⟨a0, a1, a2, a3, a4, a5, ⟨n, h2, rfl⟩, a7, a8, a9, a10, a11⟩
theorem WS.k7 {B : Nat} {n : Nat} (h2 : n ≤ B) (th : Int32) (f : Nat → Int32) (s : Nat) (h : WS B th f s) : WS B th (upd f 7 (nI n)) s := by
  obtain ⟨a0, a1, a2, a3, a4, a5, a6, -, a8, a9, a10, a11⟩ := h
  exact ⟨a0, a1, a2, a3, a4, a5, a6, ⟨n, h2, rfl⟩, a8, a9, a10, a11⟩
theorem WS.k8 {B : Nat} {n : Nat} (h2 : n ≤ 1000 * B) (th : Int32) (f : Nat → Int32) (s : Nat) (h : WS B th f s) : WS B th (upd f 8 (nI n)) s := by
  obtain ⟨a0, a1, a2, a3, a4, a5, a6, a7, -, a9, a10, a11⟩ := h
  exact ⟨a0, a1, a2, a3, a4, a5, a6, a7, ⟨n, h2, rfl⟩, a9, a10, a11⟩
theorem WS.k9 {B : Nat} {n : Nat} (h2 : n ≤ B) (th : Int32) (f : Nat → Int32) (s : Nat) (h : WS B th f s) : WS B th (upd f 9 (nI n)) s := by
  obtain ⟨a0, a1, a2, a3, a4, a5, a6, a7, a8, -, a10, a11⟩ := h
  exact ⟨a0, a1, a2, a3, a4, a5, a6, a7, a8, ⟨n, h2, rfl⟩, a10, a11⟩
theorem WS.k10 {B : Nat} {n : Nat} (h2 : n ≤ B) (th : Int32) (f : Nat → Int32) (s : Nat) (h : WS B th f s) : WS B th (upd f 10 (nI n)) s := by
  obtain ⟨a0, a1, a2, a3, a4, a5, a6, a7, a8, a9, -, a11⟩ := h
  exact ⟨a0, a1, a2, a3, a4, a5, a6, a7, a8, a9, ⟨n, h2, rfl⟩, a11⟩
theorem WS.k11 {B : Nat} {n : Nat} (h2 : n ≤ B) (th : Int32) (f : Nat → Int32) (s : Nat) (h : WS B th f s) : WS B th (upd f 11 (nI n)) s := by
  obtain ⟨a0, a1, a2, a3, a4, a5, a6, a7, a8, a9, a10, -⟩ := h
  exact ⟨a0, a1, a2, a3, a4, a5, a6, a7, a8, a9, a10, Or.inr ⟨n, h2, rfl⟩⟩
theorem pu_window {B : Nat} {σ τ : qm_M} (h : Inv B σ τ) (v x : Int32) : Sim B σ τ (fn_X6_window σ v x) (fn_X7_window τ v x) := by
  unfold fn_X6_window fn_X7_window
  rw [pc_isThere, pm_isStream h.1, pu_c_within, pu_m_in τ x 0 9999 0 9999 rfl rfl]
  simp only [Option.bind_some]
  cases ht : pu_th σ v
  · rw [pu_iff, pu_iff, pu_bid, pu_bid]; exact Sim.bad h
  · rw [pu_ift, pu_ift]
    obtain ⟨j, h1, h2, rfl, hj⟩ := pu_th_t ht
    rcases pu_rng (v := x) 9999 (by omega) with ⟨n, hn, rfl⟩ | hd
    · have hd : (decide ((0 : Int32) ≤ nI n) && decide (nI n ≤ (9999 : Int32))) = true := by
        rw [show (0 : Int32) = nI 0 from rfl, show (9999 : Int32) = nI 9999 from rfl, decide_eq_true ((pu_le (by omega) (by omega)).mpr (Nat.zero_le n)), decide_eq_true ((pu_le (by omega) (by omega)).mpr hn)]; rfl
      rw [hd, pu_ift, pu_ift]
      obtain ⟨σ', τ', e1, e2, e3, e4, e5⟩ := pu_setf h hj (k := 3) (by omega) (by omega) (by omega) (WS.k3 hn)
      rw [e1, e2]
      simp only [Option.bind_some]
      rw [if_pos (pu_in (show j < 13 by omega) (by omega)), if_pos (pu_in (show j < 13 by omega) (by omega)), pu_clamp (by omega), show 0 + 1 + 1 + j = 2 + j by omega, pu_its_4 τ' h2, pu_puts_4 τ' h2]
      simp only [Option.bind_some]
      rw [e3, show 16 * j + 4 = 16 * j + pu_km 3 from rfl, e4, pu_i64]
      exact e5 _
    · rw [show (9999 : Int32) = nI 9999 from rfl, hd, pu_iff, pu_iff, pu_bid, pu_bid]; exact Sim.bad h
theorem pu_rd {v : Int32} (lo hi : Nat) (hl : lo ≤ hi) (hh : hi < 2147483648) : (∃ n, lo ≤ n ∧ n ≤ hi ∧ v = nI n ∧ (decide (nI lo ≤ v) && decide (v ≤ nI hi)) = true) ∨ (decide (nI lo ≤ v) && decide (v ≤ nI hi)) = false := by
  cases h : (decide (nI lo ≤ v) && decide (v ≤ nI hi))
  · exact Or.inr rfl
  · left
    rw [Bool.and_eq_true] at h
    have h1 := of_decide_eq_true h.1
    have h2 := of_decide_eq_true h.2
    obtain ⟨n, n1, rfl⟩ := pu_ge0 (v := v) (n := hi) hh (by
        have := nI_pos' (n := lo) (by omega)
        rw [Int32.le_iff_toInt_le] at h1 this ⊢; omega) h2
    exact ⟨n, (pu_le (by omega) (by omega)).mp h1, n1, rfl, rfl⟩
theorem pu_sets {B : Nat} {σ τ : qm_M} (h : Inv B σ τ) (v k x : Int32) : Sim B σ τ (fn_X6_sets σ v k x) (fn_X7_sets τ v k x) := by
  unfold fn_X6_sets fn_X7_sets fn_X7_isSetting
  rw [pc_isThere, pm_isStream h.1, pu_c_within, pu_m_in τ x 1 16 1 16 rfl rfl, pu_m_in τ x 0 7 0 7 rfl rfl, pu_m_in τ x 0 1 0 1 rfl rfl]
  simp only [Option.bind_some]
  cases ht : pu_th σ v
  · rw [pu_iff, pu_iff, pu_bid, pu_bid]; exact Sim.bad h
  · rw [pu_ift, pu_ift]
    obtain ⟨j, h1, h2, rfl, hj⟩ := pu_th_t ht
    rcases pu_rng (v := k) 2 (by omega) with ⟨q, hq, rfl⟩ | hd
    · have hd : (decide ((0 : Int32) ≤ nI q) && decide (nI q ≤ (2 : Int32))) = true := by
        rw [show (0 : Int32) = nI 0 from rfl, show (2 : Int32) = nI 2 from rfl, decide_eq_true ((pu_le (by omega) (by omega)).mpr (Nat.zero_le q)), decide_eq_true ((pu_le (by omega) (by omega)).mpr hq)]; rfl
      rw [hd, pu_ift, if_pos (pu_in (show q < 3 by omega) (by omega)), if_pos (pu_in (show q < 3 by omega) (by omega)), pu_clamp (by omega), pu_c_within]
      simp only [Option.bind_some]
      match q, hq with
      | 0, _ =>
        rw [if_pos (show nI 0 = 0 from rfl), Option.bind_some, show qm_sv 0 0 = nI 1 from rfl, show qm_sv 1 0 = nI 16 from rfl, show (1 : Int32) = nI 1 from rfl, show (16 : Int32) = nI 16 from rfl]
        rcases pu_rd (v := x) 1 16 (by omega) (by omega) with ⟨n, n1, n2, rfl, hb⟩ | hb
        · rw [hb, pu_ift, pu_ift]
          obtain ⟨σ', τ', e1, e2, e3, e4, e5⟩ := pu_setf h hj (k := 1) (by omega) (by omega) (by omega) (WS.k1 n1 n2)
          rw [e1, e2]
          simp only [Option.bind_some]
          unfold fn_X2_change fn_X7_placeOf
          rw [if_pos (pu_in (show j < 13 by omega) (by omega)), pu_clamp (by omega), show 0 + 1 + 1 + j = 2 + j by omega, if_pos (show nI 0 = 0 from rfl), if_pos (show nI 0 = 0 from rfl)]
          simp only [Option.bind_some]
          rw [pu_its_2 τ' h2, Option.bind_some, pu_puts_2 τ' h2, Option.bind_some, e3, show 16 * j + 2 = 16 * j + pu_km 1 from rfl, e4, pu_i64]
          exact e5 _
        · rw [hb, pu_iff, pu_iff, pu_bid, pu_bid]; exact Sim.bad h
      | 1, _ =>
        rw [if_neg (show ¬ nI 1 = 0 by decide), if_pos (show nI 1 = 1 from rfl), Option.bind_some, show qm_sv 0 1 = nI 0 from rfl, show qm_sv 1 1 = nI 7 from rfl, show (0 : Int32) = nI 0 from rfl, show (7 : Int32) = nI 7 from rfl]
        rcases pu_rd (v := x) 0 7 (by omega) (by omega) with ⟨n, n1, n2, rfl, hb⟩ | hb
        · rw [hb, show nI 0 = 0 from rfl, pu_ift, pu_ift]
          obtain ⟨σ', τ', e1, e2, e3, e4, e5⟩ := pu_setf h hj (k := 4) (by omega) (by omega) (by omega) (WS.k4 n2)
          rw [e1, e2]
          simp only [Option.bind_some]
          unfold fn_X2_change fn_X7_placeOf
          rw [if_pos (pu_in (show j < 13 by omega) (by omega)), pu_clamp (by omega), show 0 + 1 + 1 + j = 2 + j by omega, if_neg (show ¬ nI 1 = 0 by decide), if_neg (show ¬ nI 1 = 0 by decide), if_pos (show nI 1 = 1 from rfl), if_pos (show nI 1 = 1 from rfl)]
          simp only [Option.bind_some]
          rw [pu_its_5 τ' h2, Option.bind_some, pu_puts_5 τ' h2, Option.bind_some, e3, show 16 * j + 5 = 16 * j + pu_km 4 from rfl, e4, pu_i64]
          exact e5 _
        · rw [hb, show nI 0 = 0 from rfl, pu_iff, pu_iff, pu_bid, pu_bid]; exact Sim.bad h
      | 2, _ =>
        rw [if_neg (show ¬ nI 2 = 0 by decide), if_neg (show ¬ nI 2 = 1 by decide), if_pos (show nI 2 = 2 from rfl), show qm_sv 0 2 = nI 0 from rfl, show qm_sv 1 2 = nI 1 from rfl, show (0 : Int32) = nI 0 from rfl, show (1 : Int32) = nI 1 from rfl]
        rcases pu_rd (v := x) 0 1 (by omega) (by omega) with ⟨n, n1, n2, rfl, hb⟩ | hb
        · rw [hb, show nI 0 = 0 from rfl, pu_ift, pu_ift, Option.bind_some, pu_ift]
          obtain ⟨σ', τ', e1, e2, e3, e4, e5⟩ := pu_setf h hj (k := 5) (by omega) (by omega) (by omega) (WS.k5 n2)
          rw [e1, e2]
          simp only [Option.bind_some]
          unfold fn_X2_change fn_X7_placeOf
          rw [if_pos (pu_in (show j < 13 by omega) (by omega)), pu_clamp (by omega), show 0 + 1 + 1 + j = 2 + j by omega, if_neg (show ¬ nI 2 = 0 by decide), if_neg (show ¬ nI 2 = 0 by decide), if_neg (show ¬ nI 2 = 1 by decide), if_neg (show ¬ nI 2 = 1 by decide)]
          simp only [Option.bind_some]
          rw [pu_its_6 τ' h2, Option.bind_some, pu_puts_6 τ' h2, Option.bind_some, e3, show 16 * j + 6 = 16 * j + pu_km 5 from rfl, e4, pu_i64]
          exact e5 _
        · rw [hb, show nI 0 = 0 from rfl, pu_iff, pu_iff, Option.bind_some, pu_iff, pu_bid, pu_bid]; exact Sim.bad h
      | q + 3, hq => exact absurd hq (by omega)
    · have hne : ∀ i, i ≤ 2 → k ≠ nI i := by
        intro i hi e
        subst e
        rw [show (0 : Int32) = nI 0 from rfl, decide_eq_true ((pu_le (by omega) (by omega)).mpr (Nat.zero_le i)), decide_eq_true ((pu_le (by omega) (by omega)).mpr hi)] at hd
        cases hd
      rw [show (2 : Int32) = nI 2 from rfl, hd, if_neg (show ¬ k = 0 from hne 0 (by omega)), if_neg (show ¬ k = 1 from hne 1 (by omega)), if_neg (hne 2 (by omega)), pu_iff, Option.bind_some, pu_iff, pu_bid, pu_bid]; exact Sim.bad h
