-- ===== moves =====
theorem pu_par_hc (σ : qm_M) {c q : Nat} (hq : q ≤ 12) : pu_par (pu_hc σ c q) = pu_upd (pu_par σ) c q := by
  funext x
  unfold pu_par pu_upd
  rw [pu_hc_1]
  by_cases e : x = c
  · rw [if_pos e, e, qm_si_at, if_pos rfl, pu_clamp (by omega)]
  · rw [if_neg e, qm_si_ne _ _ _ (by omega)]
theorem pu_moves {B : Nat} {σ τ : qm_M} (h : Inv B σ τ) (v p w x : Int32) : Sim B σ τ (fn_X6_moves σ v p w x) (fn_X7_moves τ v p w x) := by
  unfold fn_X6_moves fn_X7_moves
  rw [pc_isThere, pm_isStream h.1, pc_isNode, pm_isPlace h.1, pu_c_within, pu_c_within, pu_m_in τ w 1 16 1 16 rfl rfl, pu_m_in τ x 0 1 0 1 rfl rfl]
  simp only [Option.bind_some]
  cases ht : pu_th σ v
  · rw [pu_iff, pu_iff, pu_bid, pu_bid]; exact Sim.bad h
  · rw [pu_ift, pu_ift]
    obtain ⟨s, h1, h2, rfl, hs⟩ := pu_th_t ht
    cases hp : pu_nd σ p
    · rw [pu_iff, pu_iff, pu_bid, pu_bid]; exact Sim.bad h
    · rw [pu_ift, pu_ift]
      by_cases eps : p = nI s
      · rw [if_pos eps, if_pos eps, pu_bid, pu_bid]; exact Sim.bad h
      · rw [if_neg eps, if_neg eps]
        obtain ⟨q, q12, rfl, hq⟩ := pu_nd_t hp
        have hqs : q ≠ s := fun e => eps (by rw [e])
        rcases pu_rd (v := w) 1 16 (by omega) (by omega) with ⟨n, n1, n2, rfl, hb⟩ | hb
        · have hb : (decide ((1 : Int32) ≤ nI n) && decide (nI n ≤ (16 : Int32))) = true := hb
          rw [hb, pu_ift, pu_ift]
          rcases pu_al01 (v := x) with ⟨al, ha, rfl, hb⟩ | hb
          · rw [hb, pu_ift, pu_ift]
            obtain ⟨σ1, τ1, e1, e2, hI, f1, f2, K⟩ := pu_keep h
            rw [e1, e2]
            simp only [Option.bind_some]
            rw [pu_puts_2 τ1 h2, Option.bind_some]
            have es : ∀ id, id < 32 → σ1.1 id = σ.1 id := fun id hid => (K.1 id (Or.inl hid)).1
            have hs1 : pu_t σ1 s = true := by show bt (σ1.1 0 1) s = true; rw [es 0 (by omega)]; exact hs
            have hq1 : q = 0 ∨ pu_t σ1 q = true := hq.imp id (fun k => by show bt (σ1.1 0 1) q = true; rw [es 0 (by omega)]; exact k)
            have G1 := pu_G.of hI.1 hI.2.1
            -- the weight first, on both sides
            have hRw : RT (qm_si σ1 (2 + s) 1 (nI n)) ((qm_sl τ1 211 (16 * s + 2) (nI n).toInt64).2 211) := by
              rw [qm_sl_row]; exact hI.1.wr h2 (show 1 < 12 by omega) (nI n)
            have hWw : WF B (qm_si σ1 (2 + s) 1 (nI n)) := hI.2.1.wr h2 (by omega) (nI n) (fun a b => WS.k1 n1 n2 _ _ _ (hI.2.1.1 s a h2 b)) (fun k => absurd k (by omega))
            have Lcw : Lc σ1 (qm_si σ1 (2 + s) 1 (nI n)) := Lc.si σ1 _ _ (by omega)
            have Lmw : Lm τ1 (qm_sl τ1 211 (16 * s + 2) (nI n).toInt64) := Lm.sl τ1 _ _
            have Gw := pu_G.of hRw hWw
            have ew0 : (qm_si σ1 (2 + s) 1 (nI n)).1 0 = σ1.1 0 := qm_si_ne _ _ _ (by omega)
            have ewp : pu_par (qm_si σ1 (2 + s) 1 (nI n)) = pu_par σ1 := by
              funext y
              unfold pu_par qm_si
              dsimp only
              rw [if_neg (by omega)]
            have hsw : pu_t (qm_si σ1 (2 + s) 1 (nI n)) s = true := by show bt _ s = true; rw [ew0]; exact hs1
            have hqw : q = 0 ∨ pu_t (qm_si σ1 (2 + s) 1 (nI n)) q = true := hq1.imp id (fun k => by show bt _ q = true; rw [ew0]; exact k)
            -- the end, out of any state like that
            have fin : ∀ σa τa, RT σa (τa.2 211) → WF B σa → Lc σ1 σa → Lm τ1 τa → pu_t σa s = true → (q = 0 ∨ pu_t σa q = true) → ¬ pu_On (pu_par σa) s q → Sim B σ τ (if nI al = 1 then bb_X6_moves_120 σa (nI s) 1 (nI q) (nI s) 0 else bb_X6_moves_120 σa (nI s) 0 (nI q) (nI s) 0) (bb_X7_moves_86 τa (nI s) (nI q) (nI al)) := by
              intro σa τa hR hW lc lm ts tq no
              have hR' : RT (qm_si σa (2 + s) 0 (σa.1 (2 + s) 0)) (τa.2 211) := by
                have e : qm_si σa (2 + s) 0 (σa.1 (2 + s) 0) = σa := by
                  refine Prod.ext ?_ rfl
                  funext i j
                  unfold qm_si
                  dsimp only
                  by_cases c : i = 2 + s ∧ j = 0
                  · rw [if_pos c, c.1, c.2]
                  · rw [if_neg c]
                rw [e]; exact hR
              obtain ⟨σ3, τ3, a1, a2, a3, a4, a5, a6, a7, a8⟩ := pu_attach hR' h1 h2 ts tq q12 hqs ha
              have hW3 := hW.att (pu_G.of hR hW) ts tq q12 no a6 a7 a8
              have fin2 : Sim B σ τ (bb_X6_moves_120 σa (nI s) (nI al) (nI q) (nI s) 0) ((fn_X7_comesTo τa (nI s) (nI q) (nI al)).bind fun r => (fn_X7_children r (nI s)).bind fun r2 => some (r2, r)) := by
                unfold bb_X6_moves_120
                rw [a1, a2]
                simp only [Option.bind_some]
                rw [pc_childCount, pm_children a3]
                simp only [Option.bind_some]
                exact Sim.done _ rfl rfl hI f1 f2 (lc.tr a4) (lm.tr a5) a3 hW3 (Nat.le_refl _)
              unfold bb_X7_moves_86
              match al, ha with
              | 0, _ => rw [if_neg (show ¬ nI 0 = 1 by decide), if_neg (show ¬ nI 0 = 1 by decide)]; exact fin2
              | 1, _ => rw [if_pos (show nI 1 = 1 from rfl), if_pos (show nI 1 = 1 from rfl)]; exact fin2
            have c90 : ∀ σb, bb_X6_moves_90 σb (nI s) (nI q) (nI n) (nI al) = if nI al = 1 then bb_X6_moves_120 (qm_si σb (2 + s) 1 (nI n)) (nI s) 1 (nI q) (nI s) 0 else bb_X6_moves_120 (qm_si σb (2 + s) 1 (nI n)) (nI s) 0 (nI q) (nI s) 0 := by
              intro σb
              unfold bb_X6_moves_90
              rw [if_pos (pu_in (show s < 13 by omega) (by omega)), Option.bind_some, pu_clamp (by omega), show 0 + 1 + 1 + s = 2 + s by omega]
            have plain : ¬ pu_On (pu_par σ1) s q → Sim B σ τ (bb_X6_moves_90 σ1 (nI s) (nI q) (nI n) (nI al)) (bb_X7_moves_86 (qm_sl τ1 211 (16 * s + 2) (nI n).toInt64) (nI s) (nI q) (nI al)) := by
              intro no
              rw [c90]
              exact fin _ _ hRw hWw Lcw Lmw hsw hqw (by rw [ewp]; exact no)
            by_cases q0 : q = 0
            · subst q0
              rw [pc_isBelow0 G1 h1 h2, Option.bind_some, pu_iff, if_pos (show nI 0 = 0 from rfl)]
              exact plain pu_On.z
            · have tq1 := hq1.resolve_left q0
              have tqw := hqw.resolve_left q0
              have bw : pu_bel (qm_si σ1 (2 + s) 1 (nI n)) q s = pu_bel σ1 q s := by unfold pu_bel; rw [ewp]
              rw [pc_isBelow G1 tq1 h2, if_neg (show ¬ nI q = 0 by show ¬ nI q = nI 0; rw [pu_eq (by omega) (by omega)]; exact q0), pm_isBelow hRw Gw tqw h1 h2, bw]
              simp only [Option.bind_some]
              cases hbl : pu_bel σ1 q s
              · rw [pu_iff, pu_iff]
                refine plain (fun o => ?_)
                have o2 := (pu_On.st q0 hqs).mp o
                have := pu_On12 G1 (G1.c q tq1) o2
                have hbl : pu_up (pu_par σ1) 12 (pu_par σ1 q) s = false := hbl
                rw [hbl] at this; cases this
              · rw [pu_ift, pu_ift]
                have gs := G1.2.1 s hs1
                have onq : pu_On (pu_par σ1) s q := pu_On.up q0 ⟨12, hbl⟩
                have noself := G1.A.no G1.c hs1
                have no1 : ¬ pu_On (pu_par σ1) q (pu_par σ1 s) := fun o => noself (o.tr onq)
                rw [if_pos (pu_in (show s < 13 by omega) (by omega)), pu_clamp (by omega), show 0 + 1 + 1 + s = 2 + s by omega, gs.2.1, pc_hang σ1 q12 gs.1, pm_parent hRw h1 h2 hsw]
                simp only [Option.bind_some]
                have ewq : (qm_si σ1 (2 + s) 1 (nI n)).1 (2 + s) 0 = nI (pu_par σ1 s) := by rw [qm_si_at, if_neg (by omega), gs.2.1]
                rw [ewq, pm_hang _ q12 gs.1]
                simp only [Option.bind_some]
                rw [c90, ← pu_hc_cm σ1 (nI n) (fun k => absurd k.2 (by omega))]
                have tpar : pu_par σ1 s = 0 ∨ pu_t (qm_si σ1 (2 + s) 1 (nI n)) (pu_par σ1 s) = true := gs.2.2.imp id (fun k => by show bt _ _ = true; rw [ew0]; exact k)
                have eh0 : (pu_hc (qm_si σ1 (2 + s) 1 (nI n)) q (pu_par σ1 s)).1 0 = σ1.1 0 := by rw [pu_hc_1, qm_si_ne _ _ _ (by omega), ew0]
                refine fin _ _ (hRw.hang q12 tpar gs.1) (hWw.hang Gw tqw tpar gs.1 (by rw [ewp]; exact no1)) (Lcw.tr (pu_hc_L _ _ q12)) (Lmw.tr (pu_hm_L _ _ _)) (by show bt _ s = true; rw [eh0]; exact hs1) (Or.inr (by show bt _ q = true; rw [eh0]; exact tq1)) ?_
                rw [pu_par_hc _ gs.1, ewp]
                intro o
                have o2 := (pu_On.st q0 hqs).mp o
                have eu : pu_upd (pu_par σ1) q (pu_par σ1 s) q = pu_par σ1 s := if_pos rfl
                rw [eu] at o2
                exact noself (pu_On.keep q0 no1 o2)
          · rw [hb, pu_iff, pu_iff, pu_bid, pu_bid]; exact Sim.bad h
        · have hb : (decide ((1 : Int32) ≤ w) && decide (w ≤ (16 : Int32))) = false := hb
          rw [hb, pu_iff, pu_iff, pu_bid, pu_bid]; exact Sim.bad h
