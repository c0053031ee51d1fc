-- calls: the callee's contract, then on
section QMC
variable {l : Launch} {E : qm_E} {d : Nat} {own : String} {cc : ByteArray} {nL : Nat} {pc : Nat} {lv : List (Nat × Value)} {st st0 : List Value} {σ σ1 : qm_M} {r : Option Value × qm_M}
variable {d1 : Nat} {y : MethodName} {cc1 : ByteArray} {nL1 : Nat} {ret1 : Option FieldType} {As : List Value} {v1 : Option Value} {idx n : Nat}
theorem qm_blind {E : qm_E} {σ : qm_M} {As : List Value} : FrameBlind (va_Pc As (qm_W E σ)) := fun a U g mk h => ⟨h.1, h.2.1, h.2.2.1.call g mk a, qm_Z.moved (u := U) (U := U.calling g mk a) (Vm.Alike.refl U.vm) h.2.2.2⟩
theorem qm_pre {E : qm_E} {σ : qm_M} {As : List Value} {s : State} {H : Heap} {locs : List Loc} (hH : qm_H E σ H) (hK : qm_K E s) (hZ : qm_Z E s s.heap) (hS : va_S (qm_A E) s.heap H locs) : ∀ U : State, U.heap = H → s.WarmedH U.vm → va_Pc As (qm_W E σ) As.toArray U := by
  intro U hU hW
  refine ⟨rfl, by rw [hU]; exact hH, hK.warm hW, ?_⟩
  rw [hU]
  exact (hZ.moved hW.alike).kept hS.2.1
theorem qm_cb {R : Room} {s : State} {args : Array Value} (hts : ∀ w ∈ qm_ws, w.before args s = true) (hc : Cond.code y cc1 nL1 ret1 ∈ qm_ws) (hi : Cond.initialized y.cls ∈ qm_ws) (hl : Cond.methodLink own idx y ∈ qm_ws) (hd : y.cls ≠ "java/lang/invoke/MethodHandle" ∧ y.cls ≠ "java/lang/invoke/VarHandle" ∧ (parseMethodDescriptor y.desc).map (fun d => d.parameters.length) = some n) (hn : nL1 ≤ 21) (hdd : d1 + 1 ≤ d) (hR : d ≤ R.frames ∧ 40 * d ≤ R.locals) : CallB R s args own idx y cc1 nL1 ret1 (.code y cc1 nL1 ret1 :: qm_ws) (qm_rm d1) 0 0 n := by
  refine callB_of n hts (ws' := qm_ws) ?_ rfl rfl rfl (hts _ hi) (hts _ hl) hd ⟨?_, ?_⟩
  · intro w hw
    rcases List.mem_cons.mp hw with rfl | h
    · exact qm_good _ hc
    · exact qm_good _ h
  · show d1 + 1 ≤ R.frames
    omega
  · show 8 + (nL1 + 11) + 40 * d1 ≤ R.locals
    omega
theorem qm_back {p : Program} {e : Env} {R : Room} {s : State} {m : MethodId} {args : Array Value} {below : List Frame} {meth : Method} {c : Code} {H : Heap} {locs : List Loc} {ls : Array Slot} {cells slots : Nat} {Q : State → Prop} {a : Array Value} (hr : va_Run p l e R s m args below meth c H locs cells slots 0 0 (F0 m pc ls st0) st (qm_Q E (v1, σ1) a) (qm_A E)) (hS : va_S (qm_A E) s.heap H locs)
    (kk : ∀ (H1 : Heap) (locs1 : List Loc), qm_H E σ1 H1 → va_S (qm_A E) s.heap H1 locs1 → W p l e R s m args below meth c H1 locs1 cells slots Q (F0 m (pc + 3) ls (v1.toList ++ st))) : W p l e R s m args below meth c H locs cells slots Q (F0 m pc ls st0) := by
  intro T hT X
  obtain ⟨v, st₀, t, T', L, h0, X', hL, e1, e2, ⟨hv, hW, hF⟩, stp⟩ := hr T hT X
  cases hv
  obtain ⟨hz, hk⟩ := hF
  rw [h0] at hz hk
  obtain ⟨t2, a1, b1⟩ := kk T'.heap (locs ++ L) (by rw [e1]; exact hW.1) ⟨Nat.le_trans hS.1 (by rw [e1]; exact hz), fun q h1 h2 => by rw [e1, hk q (Nat.lt_of_lt_of_le h1 hS.1) h2]; exact hS.2.1 q h1 h2, fun q hq => by
      rcases List.mem_append.mp hq with h | h
      · exact hS.2.2 q h
      · exact hL q h⟩ T' rfl X'
  exact ⟨t2, stp t2 a1, b1⟩
theorem qr_callS (hM : qm_Ct l E d1 y cc1 nL1 ret1 As σ (v1, σ1)) (hc : Cond.code y cc1 nL1 ret1 ∈ qm_ws) (hi : Cond.initialized y.cls ∈ qm_ws) (hl : Cond.methodLink own idx y ∈ qm_ws) (hs : Cond.static y ∈ qm_ws) (hdd : y.cls ≠ "java/lang/invoke/MethodHandle" ∧ y.cls ≠ "java/lang/invoke/VarHandle" ∧ (parseMethodDescriptor y.desc).map (fun d => d.parameters.length) = some As.length) (hn : nL1 ≤ 21) (hd1 : d1 + 1 ≤ d) (hst : st0 = As.reverse ++ st) (hcat : (st.map fun v => v.category).sum ≤ 8) (hd : decode cc pc = .ok (.invokestatic idx, 3))
    (kk : qm_Wp l E d own cc nL (pc + 3) lv (v1.toList ++ st) σ1 r) : qm_Wp l E d own cc nL pc lv st0 σ r := by
  intro p e R s m args below meth c0 cells slots Q C F H locs ls hH hS hlv
  refine qm_back (va_runS (As := As) (rest := st) (n := As.length) ⟨C.1, C.2.1, C.2.2.1, C.2.2.2.1, C.2.2.2.2.1⟩ hM ⟨qm_cb C.2.2.2.2.1 hc hi hl hdd hn hd1 C.2.2.2.2.2.2.2.1, C.2.2.2.2.1 _ hs⟩ ⟨qm_blind, qm_pre hH C.2.2.2.2.2.1 C.2.2.2.2.2.2.1 hS⟩ rfl rfl hlv.1 hst (lv_room (rest := st0) hcat) hd C.2.2.2.2.2.2.2.2) hS (fun H1 locs1 h1 h2 => kk p e R s m args below meth c0 cells slots Q C F H1 locs1 ls h1 h2 hlv)
theorem qr_callN {host : String} (hM : qm_Ct l E d1 y cc1 nL1 ret1 As σ (v1, σ1)) (hc : Cond.code y cc1 nL1 ret1 ∈ qm_ws) (hi : Cond.initialized y.cls ∈ qm_ws) (hl : (own, idx, y, host) ∈ qm_nest) (hs : Cond.static y ∈ qm_ws) (hdd : y.cls ≠ "java/lang/invoke/MethodHandle" ∧ y.cls ≠ "java/lang/invoke/VarHandle" ∧ (parseMethodDescriptor y.desc).map (fun d => d.parameters.length) = some As.length) (hn : nL1 ≤ 21) (hd1 : d1 + 1 ≤ d) (hst : st0 = As.reverse ++ st) (hcat : (st.map fun v => v.category).sum ≤ 8) (hd : decode cc pc = .ok (.invokestatic idx, 3))
    (kk : qm_Wp l E d own cc nL (pc + 3) lv (v1.toList ++ st) σ1 r) : qm_Wp l E d own cc nL pc lv st0 σ r := by
  intro p e R s m args below meth c0 cells slots Q C F H locs ls hH hS hlv
  have hg : GoodIn qm_ws (Cond.code y cc1 nL1 ret1 :: qm_ws) := fun w hw => by
    rcases List.mem_cons.mp hw with rfl | h
    · exact qm_good _ hc
    · exact qm_good _ h
  have hR := C.2.2.2.2.2.2.2.1
  refine qm_back (va_runSN (As := As) (rest := st) (n := As.length) ⟨C.1, C.2.1, C.2.2.1, C.2.2.2.1, C.2.2.2.2.1⟩ hM ⟨va_cnB As.length C.2.2.2.2.1 hg rfl rfl rfl (C.2.2.2.2.2.1.2 _ hl) (C.2.2.2.2.1 _ hi) hdd ⟨?_, ?_⟩, C.2.2.2.2.1 _ hs, trivial⟩ ⟨qm_blind, qm_pre hH C.2.2.2.2.2.1 C.2.2.2.2.2.2.1 hS⟩ rfl rfl hlv.1 hst (lv_room (rest := st0) hcat) hd C.2.2.2.2.2.2.2.2) hS (fun H1 locs1 h1 h2 => kk p e R s m args below meth c0 cells slots Q C F H1 locs1 ls h1 h2 hlv)
  · show d1 + 1 ≤ R.frames
    omega
  · show 8 + (nL1 + 11) + 40 * d1 ≤ R.locals
    omega
theorem qr_callV {id c : Nat} {Cn : String} {T : u_T} {N : Nat} (hkd : qm_kind id = c + 1) (hc6 : c < 6) (hcl : vwCl[c]? = some (Cn, T, N)) (hM : qm_Ct l E d1 y cc1 nL1 ret1 (.ref (qm_a E id) :: As) σ (v1, σ1)) (hc : Cond.code y cc1 nL1 ret1 ∈ qm_ws) (hi : Cond.initialized y.cls ∈ qm_ws) (hl : Cond.methodLink own idx y ∈ qm_ws) (hs : Cond.instanceMethod y ∈ qm_ws) (hse : Cond.selects Cn y y ∈ qm_ws) (hdd : y.cls ≠ "java/lang/invoke/MethodHandle" ∧ y.cls ≠ "java/lang/invoke/VarHandle" ∧ (parseMethodDescriptor y.desc).map (fun d => d.parameters.length) = some As.length) (hn : nL1 ≤ 21) (hd1 : d1 + 1 ≤ d) (hst : st0 = As.reverse ++ .ref (qm_a E id) :: st) (hcat : (st.map fun v => v.category).sum ≤ 8) (hd : decode cc pc = .ok (.invokevirtual idx, 3))
    (kk : qm_Wp l E d own cc nL (pc + 3) lv (v1.toList ++ st) σ1 r) : qm_Wp l E d own cc nL pc lv st0 σ r := by
  intro p e R s m args below meth c0 cells slots Q C F H locs ls hH hS hlv
  have hat := hH id (by omega)
  rw [qm_lay_obj E σ hkd hc6] at hat
  have hP : va_P E.1 vwCl [(qm_a E id, .inr (c, qm_fs E σ c id))] H := fun j q hq => by
    match j, hq with
    | 0, hq => cases hq; exact hat
    | j + 1, hq => simp at hq
  refine qm_back (va_runV (C := Cn) (As := As) (rest := st) (n := As.length) (b := qm_a E id) ⟨C.1, C.2.1, C.2.2.1, C.2.2.2.1, C.2.2.2.2.1⟩ hM ⟨qm_cb C.2.2.2.2.1 hc hi hl hdd hn hd1 C.2.2.2.2.2.2.2.1, C.2.2.2.2.1 _ hs, C.2.2.2.2.1 _ hse⟩ ⟨qm_blind, va_recv C.2.2.2.2.2.1.1 hP hcl (q0 := 0) rfl, qm_pre hH C.2.2.2.2.2.1 C.2.2.2.2.2.2.1 hS⟩ rfl rfl hlv.1 hst (lv_room (rest := st0) hcat) hd C.2.2.2.2.2.2.2.2) hS (fun H1 locs1 h1 h2 => kk p e R s m args below meth c0 cells slots Q C F H1 locs1 ls h1 h2 hlv)
end QMC
