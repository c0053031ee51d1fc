theorem qm_in0 : ∀ w ∈ u_ws RX2 TX2 14, w ∈ qm_ws := by
  intro w hw
  obtain ⟨k, hk, rfl⟩ := List.mem_map.mp hw
  have hk := List.mem_range.mp hk
  match k, hk with
  | 0, _ => exact qw_77
  | 1, _ => exact qw_79
  | 2, _ => exact qw_81
  | 3, _ => exact qw_83
  | 4, _ => exact qw_85
  | 5, _ => exact qw_87
  | 6, _ => exact qw_89
  | 7, _ => exact qw_91
  | 8, _ => exact qw_93
  | 9, _ => exact qw_95
  | 10, _ => exact qw_97
  | 11, _ => exact qw_99
  | 12, _ => exact qw_101
  | 13, _ => exact qw_103
  | k + 14, hk => exact absurd hk (by omega)
theorem qm_in1 : ∀ w ∈ u_ws RX3 TX3 10, w ∈ qm_ws := by
  intro w hw
  obtain ⟨k, hk, rfl⟩ := List.mem_map.mp hw
  have hk := List.mem_range.mp hk
  match k, hk with
  | 0, _ => exact qw_136
  | 1, _ => exact qw_138
  | 2, _ => exact qw_140
  | 3, _ => exact qw_142
  | 4, _ => exact qw_144
  | 5, _ => exact qw_146
  | 6, _ => exact qw_148
  | 7, _ => exact qw_150
  | 8, _ => exact qw_152
  | 9, _ => exact qw_154
  | k + 10, hk => exact absurd hk (by omega)
theorem qm_in2 : ∀ w ∈ u_ws RX4 TX4 2, w ∈ qm_ws := by
  intro w hw
  obtain ⟨k, hk, rfl⟩ := List.mem_map.mp hw
  have hk := List.mem_range.mp hk
  match k, hk with
  | 0, _ => exact qw_211
  | 1, _ => exact qw_213
  | k + 2, hk => exact absurd hk (by omega)
theorem qm_in3 : ∀ w ∈ u_ws RX5 TX5 10, w ∈ qm_ws := by
  intro w hw
  obtain ⟨k, hk, rfl⟩ := List.mem_map.mp hw
  have hk := List.mem_range.mp hk
  match k, hk with
  | 0, _ => exact qw_179
  | 1, _ => exact qw_181
  | 2, _ => exact qw_183
  | 3, _ => exact qw_185
  | 4, _ => exact qw_187
  | 5, _ => exact qw_189
  | 6, _ => exact qw_191
  | 7, _ => exact qw_193
  | 8, _ => exact qw_195
  | 9, _ => exact qw_197
  | k + 10, hk => exact absurd hk (by omega)
theorem qm_in4 : ∀ w ∈ u_ws RX6 TX6 9, w ∈ qm_ws := by
  intro w hw
  obtain ⟨k, hk, rfl⟩ := List.mem_map.mp hw
  have hk := List.mem_range.mp hk
  match k, hk with
  | 0, _ => exact qw_225
  | 1, _ => exact qw_227
  | 2, _ => exact qw_229
  | 3, _ => exact qw_231
  | 4, _ => exact qw_233
  | 5, _ => exact qw_235
  | 6, _ => exact qw_237
  | 7, _ => exact qw_239
  | 8, _ => exact qw_241
  | k + 9, hk => exact absurd hk (by omega)
theorem qm_in5 : ∀ w ∈ u_ws RX7 TX7 17, w ∈ qm_ws := by
  intro w hw
  obtain ⟨k, hk, rfl⟩ := List.mem_map.mp hw
  have hk := List.mem_range.mp hk
  match k, hk with
  | 0, _ => exact qw_641
  | 1, _ => exact qw_643
  | 2, _ => exact qw_645
  | 3, _ => exact qw_647
  | 4, _ => exact qw_649
  | 5, _ => exact qw_651
  | 6, _ => exact qw_653
  | 7, _ => exact qw_655
  | 8, _ => exact qw_657
  | 9, _ => exact qw_659
  | 10, _ => exact qw_661
  | 11, _ => exact qw_663
  | 12, _ => exact qw_665
  | 13, _ => exact qw_667
  | 14, _ => exact qw_669
  | 15, _ => exact qw_671
  | 16, _ => exact qw_673
  | k + 17, hk => exact absurd hk (by omega)
section QMM
variable {l : Launch} {E : qm_E} {d : Nat} {own : String} {cc : ByteArray} {nL : Nat} {pc : Nat} {lv : List (Nat × Value)} {st : List Value} {σ : qm_M} {r : Option Value × qm_M}
theorem qr_getG {id c k idx : Nat} {v : Value} {Cn : String} {T : u_T} {N : Nat} (hkd : qm_kind id = c + 1) (hc6 : c < 6) (hcl : vwCl[c]? = some (Cn, T, N)) (hin : ∀ w ∈ u_ws Cn T N, w ∈ qm_ws) (hk : k < N) (hv : (qm_fs E σ c id)[k]? = some v) (hw : Cond.fieldLink own idx (T k).1 (T k).2.1 (T k).2.2.1 ∈ qm_ws) (hd : decode cc pc = .ok (.getfield idx, 3)) (kk : qm_Wp l E d own cc nL (pc + 3) lv (v :: st) σ r) : qm_Wp l E d own cc nL pc lv (.ref (qm_a E id) :: st) σ r := by
  intro p e R s m args below meth c0 cells slots Q C F H locs ls hH hS hl
  have hat := hH id (by omega)
  rw [qm_lay_obj E σ hkd hc6] at hat
  have hP : va_P E.1 vwCl [(qm_a E id, .inr (c, qm_fs E σ c id))] H := fun j q hq => by
    match j, hq with
    | 0, hq => cases hq; exact hat
    | j + 1, hq => simp at hq
  exact va_get C.1 C.2.1 C.2.2.2.2.1 hin C.2.2.2.1 C.2.2.2.2.2.1.1 hP 0 rfl hcl k hk (C.2.2.2.2.1 _ hw) (fun _ h => h) hv hd (kk p e R s m args below meth c0 cells slots Q C F H locs ls hH hS hl)
theorem qr_putG {id c k idx : Nat} {v : Value} {τ : qm_M} {Cn : String} {T : u_T} {N : Nat} {ty : FieldType} {ty0 : Nat → FieldType} (hkd : qm_kind id = c + 1) (hc6 : c < 6) (hcl : vwCl[c]? = some (Cn, T, N)) (hin : ∀ w ∈ u_ws Cn T N, w ∈ qm_ws) (hty : ∀ k, k < N → parseFieldDescriptor (T k).2.2.1 = some (ty0 k)) (hnm : ∀ a, a < N → ∀ b, b < N → a ≠ b → (T a).2.1 ≠ (T b).2.1) (hk : k < N) (hlen : k < (qm_fs E σ c id).length) (hset : (qm_fs E σ c id).set k v = qm_fs E τ c id) (h1 : ∀ i, i ≠ id → τ.1 i = σ.1 i) (h2 : ∀ i, i ≠ id → τ.2 i = σ.2 i) (hfin : (T k).2.2.2 = false) (hpd : parseFieldDescriptor (T k).2.2.1 = some ty) (hn : narrow ty v = v) (hfit : fits ty v = true) (hw : Cond.fieldLink own idx (T k).1 (T k).2.1 (T k).2.2.1 ∈ qm_ws) (hd : decode cc pc = .ok (.putfield idx, 3)) (kk : qm_Wp l E d own cc nL (pc + 3) lv st τ r) : qm_Wp l E d own cc nL pc lv (v :: .ref (qm_a E id) :: st) σ r := by
  intro p e R s m args below meth c0 cells slots Q C F H locs ls hH hS hl
  have hid : qm_kind id ≠ 0 := by omega
  have hat := hH id hid
  rw [qm_lay_obj E σ hkd hc6] at hat
  obtain ⟨r0, hr0, cell, q1, q2, q3, q4⟩ := hat
  have hr : r0 = (Cn, T, N) := Option.some.inj (hr0.symm.trans hcl)
  subst hr
  have hts := C.2.2.2.2.1
  have hK := C.2.2.2.2.2.1.1
  have hap := va_apart (own := own) hts hin ty0 hty hnm hK hcl
  obtain ⟨hSl, hfc, kC, hkC, hkind⟩ := hK.1 c _ hcl
  obtain ⟨cf, kf, fi, f, hi, hsl⟩ := hSl k hk
  have hlay := hts _ (hin _ (u_in_lay hk))
  unfold u_lay at hlay
  rw [if_neg (by rw [hfin]; decide)] at hlay
  have hst := (u_facts hfc hkC (u_lays hts hin hk) hi).1
  have h6 := u_store hfc hkC hkind hlay hi hpd hn hfit
  refine W.putK C.1 C.2.1 (f := f) ⟨C.2.2.2.1, hts _ hw, ⟨_, _, _, hi⟩, hst⟩ (by rw [q2]; exact h6) q1 q3 (by rw [hsl]; exact k2_hasslot (q4 k hk)) rfl rfl hd fun H' e1 e2 e3 => ?_
  rw [hsl] at e1 ⊢
  refine kk p e R s m args below meth c0 cells slots Q C F H' _ ls ?_ (hS.put e2 e3 (qm_H_A hid)) hl
  refine qm_H_set hH hid ?_ e3 h1 h2
  rw [qm_lay_obj E τ hkd hc6, ← hset]
  exact ⟨_, hcl, t_OB.to (V := updV (vp_V (qm_fs E σ c id)) k v) ⟨_, e1, q2, q3, t_set q4 hap hk v⟩ (fun j _ => vp_updV_set hlen v j)⟩
theorem qr_iald {id : Nat} {i : Int32} (hkd : qm_kind id = 7) (hin : vp_in i (qm_len id)) (hd : decode cc pc = .ok (.iaload, 1)) (kk : qm_Wp l E d own cc nL (pc + 1) lv (.int (σ.1 id i.toNatClampNeg) :: st) σ r) : qm_Wp l E d own cc nL pc lv (.int i :: .ref (qm_a E id) :: st) σ r := by
  intro p e R s m args below meth c0 cells slots Q C F H locs ls hH hS hl
  have hat := hH id (by omega)
  rw [qm_lay_ai E σ hkd] at hat
  have hP : va_P E.1 vwCl [(qm_a E id, .inl (E.2.1 0, qm_len id, .inl (σ.1 id)))] H := fun j q hq => by
    match j, hq with
    | 0, hq => cases hq; exact hat
    | j + 1, hq => simp at hq
  exact va_iald C.1 C.2.1 C.2.2.2.2.2.1.1 hP 0 0 rfl rfl hin hd (kk p e R s m args below meth c0 cells slots Q C F H locs ls hH hS hl)
theorem qr_lald {id : Nat} {i : Int32} (hkd : qm_kind id = 8) (hin : vp_in i (qm_len id)) (hd : decode cc pc = .ok (.laload, 1)) (kk : qm_Wp l E d own cc nL (pc + 1) lv (.long (σ.2 id i.toNatClampNeg) :: st) σ r) : qm_Wp l E d own cc nL pc lv (.int i :: .ref (qm_a E id) :: st) σ r := by
  intro p e R s m args below meth c0 cells slots Q C F H locs ls hH hS hl
  have hat := hH id (by omega)
  rw [qm_lay_al E σ hkd] at hat
  have hP : va_P E.1 vwCl [(qm_a E id, .inl (E.2.1 1, qm_len id, .inr (.inl (σ.2 id))))] H := fun j q hq => by
    match j, hq with
    | 0, hq => cases hq; exact hat
    | j + 1, hq => simp at hq
  exact va_lald C.1 C.2.1 C.2.2.2.2.2.1.1 hP 0 1 rfl rfl hin hd (kk p e R s m args below meth c0 cells slots Q C F H locs ls hH hS hl)
theorem qr_aalds {id : Nat} {i : Int32} (hkd : qm_kind id = 9) (hin : vp_in i 13) (hd : decode cc pc = .ok (.aaload, 1)) (kk : qm_Wp l E d own cc nL (pc + 1) lv (.ref (qm_a E (id + 1 + i.toNatClampNeg)) :: st) σ r) : qm_Wp l E d own cc nL pc lv (.int i :: .ref (qm_a E id) :: st) σ r := by
  intro p e R s m args below meth c0 cells slots Q C F H locs ls hH hS hl
  have hat := hH id (by omega)
  rw [qm_lay_as E σ hkd] at hat
  have hP : va_P E.1 vwCl [(qm_a E id, .inl (E.2.1 2, 13, .inr (.inr (.inr (.inr fun j => some (qm_a E (id + 1 + j)))))))] H := fun j q hq => by
    match j, hq with
    | 0, hq => cases hq; exact hat
    | j + 1, hq => simp at hq
  exact va_aldq C.1 C.2.1 C.2.2.2.2.2.1.1 hP 0 2 rfl rfl hin hd (kk p e R s m args below meth c0 cells slots Q C F H locs ls hH hS hl)
theorem qr_aaldt {id : Nat} {i : Int32} (hkd : qm_kind id = 10) (hin : vp_in i 5) (hd : decode cc pc = .ok (.aaload, 1)) (kk : qm_Wp l E d own cc nL (pc + 1) lv (.ref (qm_a E (32 * (i.toNatClampNeg + 1))) :: st) σ r) : qm_Wp l E d own cc nL pc lv (.int i :: .ref (qm_a E id) :: st) σ r := by
  intro p e R s m args below meth c0 cells slots Q C F H locs ls hH hS hl
  have hat := hH id (by omega)
  rw [qm_lay_at E σ hkd] at hat
  have hP : va_P E.1 vwCl [(qm_a E id, .inl (E.2.1 3, 5, .inr (.inr (.inr (.inr fun j => some (qm_a E (32 * (j + 1))))))))] H := fun j q hq => by
    match j, hq with
    | 0, hq => cases hq; exact hat
    | j + 1, hq => simp at hq
  exact va_aldq C.1 C.2.1 C.2.2.2.2.2.1.1 hP 0 3 rfl rfl hin hd (kk p e R s m args below meth c0 cells slots Q C F H locs ls hH hS hl)
theorem qr_alen {id : Nat} {v : Int32} (hkd : qm_kind id = 7) (hv : Int32.ofNat (qm_len id) = v) (hd : decode cc pc = .ok (.arraylength, 1)) (kk : qm_Wp l E d own cc nL (pc + 1) lv (.int v :: st) σ r) : qm_Wp l E d own cc nL pc lv (.ref (qm_a E id) :: st) σ r := by
  intro p e R s m args below meth c0 cells slots Q C F H locs ls hH hS hl
  have hat := hH id (by omega)
  rw [qm_lay_ai E σ hkd] at hat
  have hP : va_P E.1 vwCl [(qm_a E id, .inl (E.2.1 0, qm_len id, .inl (σ.1 id)))] H := fun j q hq => by
    match j, hq with
    | 0, hq => cases hq; exact hat
    | j + 1, hq => simp at hq
  exact va_alen C.1 C.2.1 C.2.2.2.2.2.1.1 hP 0 0 rfl rfl hv hd (kk p e R s m args below meth c0 cells slots Q C F H locs ls hH hS hl)
theorem qr_iast {id : Nat} {i x : Int32} (hkd : qm_kind id = 7) (hin : vp_in i (qm_len id)) (hd : decode cc pc = .ok (.iastore, 1)) (kk : qm_Wp l E d own cc nL (pc + 1) lv st (qm_si σ id i.toNatClampNeg x) r) : qm_Wp l E d own cc nL pc lv (.int x :: .int i :: .ref (qm_a E id) :: st) σ r := by
  intro p e R s m args below meth c0 cells slots Q C F H locs ls hH hS hl
  have hid : qm_kind id ≠ 0 := by omega
  have hat := hH id hid
  rw [qm_lay_ai E σ hkd] at hat
  refine W.iast C.1 C.2.1 hat ((C.2.2.2.2.2.1.1.2 0 _ rfl).1 (qm_len id) (fun j => .int (σ.1 id j))) (fun q => by cases q) (by show ¬ (i < 0 ∨ (arrV _ _ _).slots.size ≤ _); rw [arrV_size]; exact hin) rfl rfl hd fun H1 e z oq => ?_
  refine kk p _ R s m args below meth c0 cells slots Q C F H1 _ ls ?_ (hS.put z oq (qm_H_A hid)) hl
  refine qm_H_set hH hid ?_ oq (fun j hj => qm_si_ne σ _ x hj) (fun j hj => rfl)
  rw [qm_lay_ai E _ hkd, qm_si_row]
  show H1[_]? = some (vp_cell _ _)
  rw [e, vp_cell_i, vp_cell_i, arrV_store]
  congr 2
  funext q
  by_cases hq : q = i.toNatClampNeg
  · subst hq; simp [updV, upd]
  · simp [updV, upd, hq]
theorem qr_last {id : Nat} {i : Int32} {x : Int64} (hkd : qm_kind id = 8) (hin : vp_in i (qm_len id)) (hd : decode cc pc = .ok (.lastore, 1)) (kk : qm_Wp l E d own cc nL (pc + 1) lv st (qm_sl σ id i.toNatClampNeg x) r) : qm_Wp l E d own cc nL pc lv (.long x :: .int i :: .ref (qm_a E id) :: st) σ r := by
  intro p e R s m args below meth c0 cells slots Q C F H locs ls hH hS hl
  have hid : qm_kind id ≠ 0 := by omega
  have hat := hH id hid
  rw [qm_lay_al E σ hkd] at hat
  refine W.last C.1 C.2.1 hat ((C.2.2.2.2.2.1.1.2 1 _ rfl).1 (qm_len id) (fun j => .long (σ.2 id j))) (fun q => by cases q) (by show ¬ (i < 0 ∨ (arrV _ _ _).slots.size ≤ _); rw [arrV_size]; exact hin) rfl rfl hd fun H1 e z oq => ?_
  refine kk p _ R s m args below meth c0 cells slots Q C F H1 _ ls ?_ (hS.put z oq (qm_H_A hid)) hl
  refine qm_H_set hH hid ?_ oq (fun j hj => rfl) (fun j hj => qm_sl_ne σ _ x hj)
  rw [qm_lay_al E _ hkd, qm_sl_row]
  show H1[_]? = some (vp_cell _ _)
  rw [e, vp_cell_l, vp_cell_l, arrV_store]
  congr 2
  funext q
  by_cases hq : q = i.toNatClampNeg
  · subst hq; simp [updV, vp_updL]
  · simp [updV, vp_updL, hq]
theorem qr_gets {i idx : Nat} {nm : String} (hi : i < 4) (hn : qm_sn i = nm) (hw : Cond.fieldLink own idx "HungStreams" nm "[I" ∈ qm_ws) (hd : decode cc pc = .ok (.getstatic idx, 3)) (kk : qm_Wp l E d own cc nL (pc + 3) lv (.ref (qm_a E (218 + i)) :: st) σ r) : qm_Wp l E d own cc nL pc lv st σ r := by
  intro p e R s m args below meth c0 cells slots Q C F H locs ls hH hS hl
  subst hn
  have hk := kk p e R s m args below meth c0 cells slots Q C F H locs ls hH hS hl
  have ha : qm_a E (218 + i) = E.2.2.2.1 i := by unfold qm_a; rw [if_neg (by omega), Nat.add_sub_cancel_left]
  rw [ha] at hk
  exact va_gets C.1 C.2.1 (C.2.2.2.2.2.2.1.1 i hi).1 hS C.2.2.2.1 (C.2.2.2.2.1 _ hw) (fun _ h => h) hd hk
theorem qr_srd {k : Nat} {i : Int32} (hk : k < 4) (hin : vp_in i (qm_sz k)) (hd : decode cc pc = .ok (.iaload, 1)) (kk : qm_Wp l E d own cc nL (pc + 1) lv (.int (qm_sv k i.toNatClampNeg) :: st) σ r) : qm_Wp l E d own cc nL pc lv (.int i :: .ref (qm_a E (218 + k)) :: st) σ r := by
  intro p e R s m args below meth c0 cells slots Q C F H locs ls hH hS hl
  have ha : qm_a E (218 + k) = E.2.2.2.1 k := by unfold qm_a; rw [if_neg (by omega), Nat.add_sub_cancel_left]
  rw [ha]
  exact va_ti C.1 C.2.1 (C.2.2.2.2.2.2.1.1 k hk).2 hS hin rfl hd (kk p e R s m args below meth c0 cells slots Q C F H locs ls hH hS hl)
theorem qr_scl (hd : decode cc pc = .ok (.arraylength, 1)) (kk : qm_Wp l E d own cc nL (pc + 1) lv (.int (Int32.ofNat E.2.2.2.2.1) :: st) σ r) : qm_Wp l E d own cc nL pc lv (.ref (qm_a E 222) :: st) σ r := by
  intro p e R s m args below meth c0 cells slots Q C F H locs ls hH hS hl
  have hx := C.2.2.2.2.2.2.1.2
  exact va_slen C.1 C.2.1 hx.1 (qm_X.lt hx.1) (Nat.not_le.mpr hx.2) hS hd (kk p e R s m args below meth c0 cells slots Q C F H locs ls hH hS hl)
theorem qr_scd {i : Int32} (hin : vp_in i E.2.2.2.2.1) (hd : decode cc pc = .ok (.iaload, 1)) (kk : qm_Wp l E d own cc nL (pc + 1) lv (.int (E.2.2.2.2.2 i.toNatClampNeg) :: st) σ r) : qm_Wp l E d own cc nL pc lv (.int i :: .ref (qm_a E 222) :: st) σ r := by
  intro p e R s m args below meth c0 cells slots Q C F H locs ls hH hS hl
  have hx := C.2.2.2.2.2.2.1.2
  exact va_sld C.1 C.2.1 hx.1 (qm_X.lt hx.1) (Nat.not_le.mpr hx.2) hS hin hd (kk p e R s m args below meth c0 cells slots Q C F H locs ls hH hS hl)
end QMM
theorem qr_get0 {l : Launch} {E : qm_E} {d : Nat} {own : String} {cc : ByteArray} {nL : Nat} {pc : Nat} {lv : List (Nat × Value)} {st : List Value} {σ : qm_M} {r : Option Value × qm_M} {id k idx : Nat} {v : Value} (hkd : qm_kind id = 1) (hk : k < 14) (hv : (qm_fs E σ 0 id)[k]? = some v) (hw : Cond.fieldLink own idx (TX2 k).1 (TX2 k).2.1 (TX2 k).2.2.1 ∈ qm_ws) (hd : decode cc pc = .ok (.getfield idx, 3)) (kk : qm_Wp l E d own cc nL (pc + 3) lv (v :: st) σ r) : qm_Wp l E d own cc nL pc lv (.ref (qm_a E id) :: st) σ r := qr_getG (c := 0) hkd (by decide) rfl qm_in0 hk hv hw hd kk
theorem qm_set0_0 (E : qm_E) (σ : qm_M) (id : Nat) (x : Int32) : (qm_fs E σ 0 id).set 0 (.int x) = qm_fs E (qm_si σ id 0 x) 0 id := by simp [qm_fs, qm_si]
theorem qr_put0_0 {l : Launch} {E : qm_E} {d : Nat} {own : String} {cc : ByteArray} {nL : Nat} {pc : Nat} {lv : List (Nat × Value)} {st : List Value} {σ : qm_M} {r : Option Value × qm_M} {id idx : Nat} {x : Int32} (hkd : qm_kind id = 1) (hw : Cond.fieldLink own idx (TX2 0).1 (TX2 0).2.1 (TX2 0).2.2.1 ∈ qm_ws) (hd : decode cc pc = .ok (.putfield idx, 3)) (kk : qm_Wp l E d own cc nL (pc + 3) lv st (qm_si σ id 0 x) r) : qm_Wp l E d own cc nL pc lv (.int x :: .ref (qm_a E id) :: st) σ r := qr_putG (c := 0) (ty := .int) hkd (by decide) rfl qm_in0 tyX2_ok nmX2 (by decide) (by simp [qm_fs]) (qm_set0_0 E σ id x) (fun i hi => qm_si_ne σ _ x hi) (fun _ _ => rfl) rfl (by decide +kernel) rfl rfl hw hd kk
theorem qm_set0_1 (E : qm_E) (σ : qm_M) (id : Nat) (x : Int32) : (qm_fs E σ 0 id).set 1 (.int x) = qm_fs E (qm_si σ id 1 x) 0 id := by simp [qm_fs, qm_si]
theorem qr_put0_1 {l : Launch} {E : qm_E} {d : Nat} {own : String} {cc : ByteArray} {nL : Nat} {pc : Nat} {lv : List (Nat × Value)} {st : List Value} {σ : qm_M} {r : Option Value × qm_M} {id idx : Nat} {x : Int32} (hkd : qm_kind id = 1) (hw : Cond.fieldLink own idx (TX2 1).1 (TX2 1).2.1 (TX2 1).2.2.1 ∈ qm_ws) (hd : decode cc pc = .ok (.putfield idx, 3)) (kk : qm_Wp l E d own cc nL (pc + 3) lv st (qm_si σ id 1 x) r) : qm_Wp l E d own cc nL pc lv (.int x :: .ref (qm_a E id) :: st) σ r := qr_putG (c := 0) (ty := .int) hkd (by decide) rfl qm_in0 tyX2_ok nmX2 (by decide) (by simp [qm_fs]) (qm_set0_1 E σ id x) (fun i hi => qm_si_ne σ _ x hi) (fun _ _ => rfl) rfl (by decide +kernel) rfl rfl hw hd kk
theorem qm_set0_2 (E : qm_E) (σ : qm_M) (id : Nat) (x : Int32) : (qm_fs E σ 0 id).set 2 (.int x) = qm_fs E (qm_si σ id 2 x) 0 id := by simp [qm_fs, qm_si]
theorem qr_put0_2 {l : Launch} {E : qm_E} {d : Nat} {own : String} {cc : ByteArray} {nL : Nat} {pc : Nat} {lv : List (Nat × Value)} {st : List Value} {σ : qm_M} {r : Option Value × qm_M} {id idx : Nat} {x : Int32} (hkd : qm_kind id = 1) (hw : Cond.fieldLink own idx (TX2 2).1 (TX2 2).2.1 (TX2 2).2.2.1 ∈ qm_ws) (hd : decode cc pc = .ok (.putfield idx, 3)) (kk : qm_Wp l E d own cc nL (pc + 3) lv st (qm_si σ id 2 x) r) : qm_Wp l E d own cc nL pc lv (.int x :: .ref (qm_a E id) :: st) σ r := qr_putG (c := 0) (ty := .int) hkd (by decide) rfl qm_in0 tyX2_ok nmX2 (by decide) (by simp [qm_fs]) (qm_set0_2 E σ id x) (fun i hi => qm_si_ne σ _ x hi) (fun _ _ => rfl) rfl (by decide +kernel) rfl rfl hw hd kk
theorem qm_set0_3 (E : qm_E) (σ : qm_M) (id : Nat) (x : Int32) : (qm_fs E σ 0 id).set 3 (.int x) = qm_fs E (qm_si σ id 3 x) 0 id := by simp [qm_fs, qm_si]
theorem qr_put0_3 {l : Launch} {E : qm_E} {d : Nat} {own : String} {cc : ByteArray} {nL : Nat} {pc : Nat} {lv : List (Nat × Value)} {st : List Value} {σ : qm_M} {r : Option Value × qm_M} {id idx : Nat} {x : Int32} (hkd : qm_kind id = 1) (hw : Cond.fieldLink own idx (TX2 3).1 (TX2 3).2.1 (TX2 3).2.2.1 ∈ qm_ws) (hd : decode cc pc = .ok (.putfield idx, 3)) (kk : qm_Wp l E d own cc nL (pc + 3) lv st (qm_si σ id 3 x) r) : qm_Wp l E d own cc nL pc lv (.int x :: .ref (qm_a E id) :: st) σ r := qr_putG (c := 0) (ty := .int) hkd (by decide) rfl qm_in0 tyX2_ok nmX2 (by decide) (by simp [qm_fs]) (qm_set0_3 E σ id x) (fun i hi => qm_si_ne σ _ x hi) (fun _ _ => rfl) rfl (by decide +kernel) rfl rfl hw hd kk
theorem qm_set0_4 (E : qm_E) (σ : qm_M) (id : Nat) (x : Int32) : (qm_fs E σ 0 id).set 4 (.int x) = qm_fs E (qm_si σ id 4 x) 0 id := by simp [qm_fs, qm_si]
theorem qr_put0_4 {l : Launch} {E : qm_E} {d : Nat} {own : String} {cc : ByteArray} {nL : Nat} {pc : Nat} {lv : List (Nat × Value)} {st : List Value} {σ : qm_M} {r : Option Value × qm_M} {id idx : Nat} {x : Int32} (hkd : qm_kind id = 1) (hw : Cond.fieldLink own idx (TX2 4).1 (TX2 4).2.1 (TX2 4).2.2.1 ∈ qm_ws) (hd : decode cc pc = .ok (.putfield idx, 3)) (kk : qm_Wp l E d own cc nL (pc + 3) lv st (qm_si σ id 4 x) r) : qm_Wp l E d own cc nL pc lv (.int x :: .ref (qm_a E id) :: st) σ r := qr_putG (c := 0) (ty := .int) hkd (by decide) rfl qm_in0 tyX2_ok nmX2 (by decide) (by simp [qm_fs]) (qm_set0_4 E σ id x) (fun i hi => qm_si_ne σ _ x hi) (fun _ _ => rfl) rfl (by decide +kernel) rfl rfl hw hd kk
theorem qm_set0_5 (E : qm_E) (σ : qm_M) (id : Nat) (x : Int32) : (qm_fs E σ 0 id).set 5 (.int x) = qm_fs E (qm_si σ id 5 x) 0 id := by simp [qm_fs, qm_si]
theorem qr_put0_5 {l : Launch} {E : qm_E} {d : Nat} {own : String} {cc : ByteArray} {nL : Nat} {pc : Nat} {lv : List (Nat × Value)} {st : List Value} {σ : qm_M} {r : Option Value × qm_M} {id idx : Nat} {x : Int32} (hkd : qm_kind id = 1) (hw : Cond.fieldLink own idx (TX2 5).1 (TX2 5).2.1 (TX2 5).2.2.1 ∈ qm_ws) (hd : decode cc pc = .ok (.putfield idx, 3)) (kk : qm_Wp l E d own cc nL (pc + 3) lv st (qm_si σ id 5 x) r) : qm_Wp l E d own cc nL pc lv (.int x :: .ref (qm_a E id) :: st) σ r := qr_putG (c := 0) (ty := .int) hkd (by decide) rfl qm_in0 tyX2_ok nmX2 (by decide) (by simp [qm_fs]) (qm_set0_5 E σ id x) (fun i hi => qm_si_ne σ _ x hi) (fun _ _ => rfl) rfl (by decide +kernel) rfl rfl hw hd kk
theorem qm_set0_6 (E : qm_E) (σ : qm_M) (id : Nat) (x : Int32) : (qm_fs E σ 0 id).set 6 (.int x) = qm_fs E (qm_si σ id 6 x) 0 id := by simp [qm_fs, qm_si]
theorem qr_put0_6 {l : Launch} {E : qm_E} {d : Nat} {own : String} {cc : ByteArray} {nL : Nat} {pc : Nat} {lv : List (Nat × Value)} {st : List Value} {σ : qm_M} {r : Option Value × qm_M} {id idx : Nat} {x : Int32} (hkd : qm_kind id = 1) (hz : x = 0 ∨ x = 1) (hw : Cond.fieldLink own idx (TX2 6).1 (TX2 6).2.1 (TX2 6).2.2.1 ∈ qm_ws) (hd : decode cc pc = .ok (.putfield idx, 3)) (kk : qm_Wp l E d own cc nL (pc + 3) lv st (qm_si σ id 6 x) r) : qm_Wp l E d own cc nL pc lv (.int x :: .ref (qm_a E id) :: st) σ r := qr_putG (c := 0) (ty := .boolean) hkd (by decide) rfl qm_in0 tyX2_ok nmX2 (by decide) (by simp [qm_fs]) (qm_set0_6 E σ id x) (fun i hi => qm_si_ne σ _ x hi) (fun _ _ => rfl) rfl (by decide +kernel) (by rcases hz with rfl | rfl <;> rfl) (by rcases hz with rfl | rfl <;> rfl) hw hd kk
theorem qm_set0_7 (E : qm_E) (σ : qm_M) (id : Nat) (x : Int32) : (qm_fs E σ 0 id).set 7 (.int x) = qm_fs E (qm_si σ id 7 x) 0 id := by simp [qm_fs, qm_si]
theorem qr_put0_7 {l : Launch} {E : qm_E} {d : Nat} {own : String} {cc : ByteArray} {nL : Nat} {pc : Nat} {lv : List (Nat × Value)} {st : List Value} {σ : qm_M} {r : Option Value × qm_M} {id idx : Nat} {x : Int32} (hkd : qm_kind id = 1) (hw : Cond.fieldLink own idx (TX2 7).1 (TX2 7).2.1 (TX2 7).2.2.1 ∈ qm_ws) (hd : decode cc pc = .ok (.putfield idx, 3)) (kk : qm_Wp l E d own cc nL (pc + 3) lv st (qm_si σ id 7 x) r) : qm_Wp l E d own cc nL pc lv (.int x :: .ref (qm_a E id) :: st) σ r := qr_putG (c := 0) (ty := .int) hkd (by decide) rfl qm_in0 tyX2_ok nmX2 (by decide) (by simp [qm_fs]) (qm_set0_7 E σ id x) (fun i hi => qm_si_ne σ _ x hi) (fun _ _ => rfl) rfl (by decide +kernel) rfl rfl hw hd kk
theorem qm_set0_8 (E : qm_E) (σ : qm_M) (id : Nat) (x : Int32) : (qm_fs E σ 0 id).set 8 (.int x) = qm_fs E (qm_si σ id 8 x) 0 id := by simp [qm_fs, qm_si]
theorem qr_put0_8 {l : Launch} {E : qm_E} {d : Nat} {own : String} {cc : ByteArray} {nL : Nat} {pc : Nat} {lv : List (Nat × Value)} {st : List Value} {σ : qm_M} {r : Option Value × qm_M} {id idx : Nat} {x : Int32} (hkd : qm_kind id = 1) (hw : Cond.fieldLink own idx (TX2 8).1 (TX2 8).2.1 (TX2 8).2.2.1 ∈ qm_ws) (hd : decode cc pc = .ok (.putfield idx, 3)) (kk : qm_Wp l E d own cc nL (pc + 3) lv st (qm_si σ id 8 x) r) : qm_Wp l E d own cc nL pc lv (.int x :: .ref (qm_a E id) :: st) σ r := qr_putG (c := 0) (ty := .int) hkd (by decide) rfl qm_in0 tyX2_ok nmX2 (by decide) (by simp [qm_fs]) (qm_set0_8 E σ id x) (fun i hi => qm_si_ne σ _ x hi) (fun _ _ => rfl) rfl (by decide +kernel) rfl rfl hw hd kk
theorem qm_set0_9 (E : qm_E) (σ : qm_M) (id : Nat) (x : Int32) : (qm_fs E σ 0 id).set 9 (.int x) = qm_fs E (qm_si σ id 9 x) 0 id := by simp [qm_fs, qm_si]
theorem qr_put0_9 {l : Launch} {E : qm_E} {d : Nat} {own : String} {cc : ByteArray} {nL : Nat} {pc : Nat} {lv : List (Nat × Value)} {st : List Value} {σ : qm_M} {r : Option Value × qm_M} {id idx : Nat} {x : Int32} (hkd : qm_kind id = 1) (hw : Cond.fieldLink own idx (TX2 9).1 (TX2 9).2.1 (TX2 9).2.2.1 ∈ qm_ws) (hd : decode cc pc = .ok (.putfield idx, 3)) (kk : qm_Wp l E d own cc nL (pc + 3) lv st (qm_si σ id 9 x) r) : qm_Wp l E d own cc nL pc lv (.int x :: .ref (qm_a E id) :: st) σ r := qr_putG (c := 0) (ty := .int) hkd (by decide) rfl qm_in0 tyX2_ok nmX2 (by decide) (by simp [qm_fs]) (qm_set0_9 E σ id x) (fun i hi => qm_si_ne σ _ x hi) (fun _ _ => rfl) rfl (by decide +kernel) rfl rfl hw hd kk
theorem qm_set0_10 (E : qm_E) (σ : qm_M) (id : Nat) (x : Int32) : (qm_fs E σ 0 id).set 10 (.int x) = qm_fs E (qm_si σ id 10 x) 0 id := by simp [qm_fs, qm_si]
theorem qr_put0_10 {l : Launch} {E : qm_E} {d : Nat} {own : String} {cc : ByteArray} {nL : Nat} {pc : Nat} {lv : List (Nat × Value)} {st : List Value} {σ : qm_M} {r : Option Value × qm_M} {id idx : Nat} {x : Int32} (hkd : qm_kind id = 1) (hw : Cond.fieldLink own idx (TX2 10).1 (TX2 10).2.1 (TX2 10).2.2.1 ∈ qm_ws) (hd : decode cc pc = .ok (.putfield idx, 3)) (kk : qm_Wp l E d own cc nL (pc + 3) lv st (qm_si σ id 10 x) r) : qm_Wp l E d own cc nL pc lv (.int x :: .ref (qm_a E id) :: st) σ r := qr_putG (c := 0) (ty := .int) hkd (by decide) rfl qm_in0 tyX2_ok nmX2 (by decide) (by simp [qm_fs]) (qm_set0_10 E σ id x) (fun i hi => qm_si_ne σ _ x hi) (fun _ _ => rfl) rfl (by decide +kernel) rfl rfl hw hd kk
theorem qm_set0_11 (E : qm_E) (σ : qm_M) (id : Nat) (x : Int32) : (qm_fs E σ 0 id).set 11 (.int x) = qm_fs E (qm_si σ id 11 x) 0 id := by simp [qm_fs, qm_si]
theorem qr_put0_11 {l : Launch} {E : qm_E} {d : Nat} {own : String} {cc : ByteArray} {nL : Nat} {pc : Nat} {lv : List (Nat × Value)} {st : List Value} {σ : qm_M} {r : Option Value × qm_M} {id idx : Nat} {x : Int32} (hkd : qm_kind id = 1) (hw : Cond.fieldLink own idx (TX2 11).1 (TX2 11).2.1 (TX2 11).2.2.1 ∈ qm_ws) (hd : decode cc pc = .ok (.putfield idx, 3)) (kk : qm_Wp l E d own cc nL (pc + 3) lv st (qm_si σ id 11 x) r) : qm_Wp l E d own cc nL pc lv (.int x :: .ref (qm_a E id) :: st) σ r := qr_putG (c := 0) (ty := .int) hkd (by decide) rfl qm_in0 tyX2_ok nmX2 (by decide) (by simp [qm_fs]) (qm_set0_11 E σ id x) (fun i hi => qm_si_ne σ _ x hi) (fun _ _ => rfl) rfl (by decide +kernel) rfl rfl hw hd kk
theorem qm_set0_12 (E : qm_E) (σ : qm_M) (id : Nat) (x : Int64) : (qm_fs E σ 0 id).set 12 (.long x) = qm_fs E (qm_sl σ id 12 x) 0 id := by simp [qm_fs, qm_sl]
theorem qr_put0_12 {l : Launch} {E : qm_E} {d : Nat} {own : String} {cc : ByteArray} {nL : Nat} {pc : Nat} {lv : List (Nat × Value)} {st : List Value} {σ : qm_M} {r : Option Value × qm_M} {id idx : Nat} {x : Int64} (hkd : qm_kind id = 1) (hw : Cond.fieldLink own idx (TX2 12).1 (TX2 12).2.1 (TX2 12).2.2.1 ∈ qm_ws) (hd : decode cc pc = .ok (.putfield idx, 3)) (kk : qm_Wp l E d own cc nL (pc + 3) lv st (qm_sl σ id 12 x) r) : qm_Wp l E d own cc nL pc lv (.long x :: .ref (qm_a E id) :: st) σ r := qr_putG (c := 0) (ty := .long) hkd (by decide) rfl qm_in0 tyX2_ok nmX2 (by decide) (by simp [qm_fs]) (qm_set0_12 E σ id x) (fun _ _ => rfl) (fun i hi => qm_sl_ne σ _ x hi) rfl (by decide +kernel) rfl rfl hw hd kk
theorem qm_set0_13 (E : qm_E) (σ : qm_M) (id : Nat) (x : Int64) : (qm_fs E σ 0 id).set 13 (.long x) = qm_fs E (qm_sl σ id 13 x) 0 id := by simp [qm_fs, qm_sl]
theorem qr_put0_13 {l : Launch} {E : qm_E} {d : Nat} {own : String} {cc : ByteArray} {nL : Nat} {pc : Nat} {lv : List (Nat × Value)} {st : List Value} {σ : qm_M} {r : Option Value × qm_M} {id idx : Nat} {x : Int64} (hkd : qm_kind id = 1) (hw : Cond.fieldLink own idx (TX2 13).1 (TX2 13).2.1 (TX2 13).2.2.1 ∈ qm_ws) (hd : decode cc pc = .ok (.putfield idx, 3)) (kk : qm_Wp l E d own cc nL (pc + 3) lv st (qm_sl σ id 13 x) r) : qm_Wp l E d own cc nL pc lv (.long x :: .ref (qm_a E id) :: st) σ r := qr_putG (c := 0) (ty := .long) hkd (by decide) rfl qm_in0 tyX2_ok nmX2 (by decide) (by simp [qm_fs]) (qm_set0_13 E σ id x) (fun _ _ => rfl) (fun i hi => qm_sl_ne σ _ x hi) rfl (by decide +kernel) rfl rfl hw hd kk
theorem qr_get1 {l : Launch} {E : qm_E} {d : Nat} {own : String} {cc : ByteArray} {nL : Nat} {pc : Nat} {lv : List (Nat × Value)} {st : List Value} {σ : qm_M} {r : Option Value × qm_M} {id k idx : Nat} {v : Value} (hkd : qm_kind id = 2) (hk : k < 10) (hv : (qm_fs E σ 1 id)[k]? = some v) (hw : Cond.fieldLink own idx (TX3 k).1 (TX3 k).2.1 (TX3 k).2.2.1 ∈ qm_ws) (hd : decode cc pc = .ok (.getfield idx, 3)) (kk : qm_Wp l E d own cc nL (pc + 3) lv (v :: st) σ r) : qm_Wp l E d own cc nL pc lv (.ref (qm_a E id) :: st) σ r := qr_getG (c := 1) hkd (by decide) rfl qm_in1 hk hv hw hd kk
theorem qm_set1_1 (E : qm_E) (σ : qm_M) (id : Nat) (x : Int32) : (qm_fs E σ 1 id).set 1 (.int x) = qm_fs E (qm_si σ id 1 x) 1 id := by simp [qm_fs, qm_si]
theorem qr_put1_1 {l : Launch} {E : qm_E} {d : Nat} {own : String} {cc : ByteArray} {nL : Nat} {pc : Nat} {lv : List (Nat × Value)} {st : List Value} {σ : qm_M} {r : Option Value × qm_M} {id idx : Nat} {x : Int32} (hkd : qm_kind id = 2) (hw : Cond.fieldLink own idx (TX3 1).1 (TX3 1).2.1 (TX3 1).2.2.1 ∈ qm_ws) (hd : decode cc pc = .ok (.putfield idx, 3)) (kk : qm_Wp l E d own cc nL (pc + 3) lv st (qm_si σ id 1 x) r) : qm_Wp l E d own cc nL pc lv (.int x :: .ref (qm_a E id) :: st) σ r := qr_putG (c := 1) (ty := .int) hkd (by decide) rfl qm_in1 tyX3_ok nmX3 (by decide) (by simp [qm_fs]) (qm_set1_1 E σ id x) (fun i hi => qm_si_ne σ _ x hi) (fun _ _ => rfl) rfl (by decide +kernel) rfl rfl hw hd kk
theorem qm_set1_2 (E : qm_E) (σ : qm_M) (id : Nat) (x : Int32) : (qm_fs E σ 1 id).set 2 (.int x) = qm_fs E (qm_si σ id 2 x) 1 id := by simp [qm_fs, qm_si]
theorem qr_put1_2 {l : Launch} {E : qm_E} {d : Nat} {own : String} {cc : ByteArray} {nL : Nat} {pc : Nat} {lv : List (Nat × Value)} {st : List Value} {σ : qm_M} {r : Option Value × qm_M} {id idx : Nat} {x : Int32} (hkd : qm_kind id = 2) (hw : Cond.fieldLink own idx (TX3 2).1 (TX3 2).2.1 (TX3 2).2.2.1 ∈ qm_ws) (hd : decode cc pc = .ok (.putfield idx, 3)) (kk : qm_Wp l E d own cc nL (pc + 3) lv st (qm_si σ id 2 x) r) : qm_Wp l E d own cc nL pc lv (.int x :: .ref (qm_a E id) :: st) σ r := qr_putG (c := 1) (ty := .int) hkd (by decide) rfl qm_in1 tyX3_ok nmX3 (by decide) (by simp [qm_fs]) (qm_set1_2 E σ id x) (fun i hi => qm_si_ne σ _ x hi) (fun _ _ => rfl) rfl (by decide +kernel) rfl rfl hw hd kk
theorem qm_set1_3 (E : qm_E) (σ : qm_M) (id : Nat) (x : Int32) : (qm_fs E σ 1 id).set 3 (.int x) = qm_fs E (qm_si σ id 3 x) 1 id := by simp [qm_fs, qm_si]
theorem qr_put1_3 {l : Launch} {E : qm_E} {d : Nat} {own : String} {cc : ByteArray} {nL : Nat} {pc : Nat} {lv : List (Nat × Value)} {st : List Value} {σ : qm_M} {r : Option Value × qm_M} {id idx : Nat} {x : Int32} (hkd : qm_kind id = 2) (hw : Cond.fieldLink own idx (TX3 3).1 (TX3 3).2.1 (TX3 3).2.2.1 ∈ qm_ws) (hd : decode cc pc = .ok (.putfield idx, 3)) (kk : qm_Wp l E d own cc nL (pc + 3) lv st (qm_si σ id 3 x) r) : qm_Wp l E d own cc nL pc lv (.int x :: .ref (qm_a E id) :: st) σ r := qr_putG (c := 1) (ty := .int) hkd (by decide) rfl qm_in1 tyX3_ok nmX3 (by decide) (by simp [qm_fs]) (qm_set1_3 E σ id x) (fun i hi => qm_si_ne σ _ x hi) (fun _ _ => rfl) rfl (by decide +kernel) rfl rfl hw hd kk
theorem qm_set1_4 (E : qm_E) (σ : qm_M) (id : Nat) (x : Int32) : (qm_fs E σ 1 id).set 4 (.int x) = qm_fs E (qm_si σ id 4 x) 1 id := by simp [qm_fs, qm_si]
theorem qr_put1_4 {l : Launch} {E : qm_E} {d : Nat} {own : String} {cc : ByteArray} {nL : Nat} {pc : Nat} {lv : List (Nat × Value)} {st : List Value} {σ : qm_M} {r : Option Value × qm_M} {id idx : Nat} {x : Int32} (hkd : qm_kind id = 2) (hw : Cond.fieldLink own idx (TX3 4).1 (TX3 4).2.1 (TX3 4).2.2.1 ∈ qm_ws) (hd : decode cc pc = .ok (.putfield idx, 3)) (kk : qm_Wp l E d own cc nL (pc + 3) lv st (qm_si σ id 4 x) r) : qm_Wp l E d own cc nL pc lv (.int x :: .ref (qm_a E id) :: st) σ r := qr_putG (c := 1) (ty := .int) hkd (by decide) rfl qm_in1 tyX3_ok nmX3 (by decide) (by simp [qm_fs]) (qm_set1_4 E σ id x) (fun i hi => qm_si_ne σ _ x hi) (fun _ _ => rfl) rfl (by decide +kernel) rfl rfl hw hd kk
theorem qm_set1_5 (E : qm_E) (σ : qm_M) (id : Nat) (x : Int32) : (qm_fs E σ 1 id).set 5 (.int x) = qm_fs E (qm_si σ id 5 x) 1 id := by simp [qm_fs, qm_si]
theorem qr_put1_5 {l : Launch} {E : qm_E} {d : Nat} {own : String} {cc : ByteArray} {nL : Nat} {pc : Nat} {lv : List (Nat × Value)} {st : List Value} {σ : qm_M} {r : Option Value × qm_M} {id idx : Nat} {x : Int32} (hkd : qm_kind id = 2) (hw : Cond.fieldLink own idx (TX3 5).1 (TX3 5).2.1 (TX3 5).2.2.1 ∈ qm_ws) (hd : decode cc pc = .ok (.putfield idx, 3)) (kk : qm_Wp l E d own cc nL (pc + 3) lv st (qm_si σ id 5 x) r) : qm_Wp l E d own cc nL pc lv (.int x :: .ref (qm_a E id) :: st) σ r := qr_putG (c := 1) (ty := .int) hkd (by decide) rfl qm_in1 tyX3_ok nmX3 (by decide) (by simp [qm_fs]) (qm_set1_5 E σ id x) (fun i hi => qm_si_ne σ _ x hi) (fun _ _ => rfl) rfl (by decide +kernel) rfl rfl hw hd kk
theorem qm_set1_6 (E : qm_E) (σ : qm_M) (id : Nat) (x : Int32) : (qm_fs E σ 1 id).set 6 (.int x) = qm_fs E (qm_si σ id 6 x) 1 id := by simp [qm_fs, qm_si]
theorem qr_put1_6 {l : Launch} {E : qm_E} {d : Nat} {own : String} {cc : ByteArray} {nL : Nat} {pc : Nat} {lv : List (Nat × Value)} {st : List Value} {σ : qm_M} {r : Option Value × qm_M} {id idx : Nat} {x : Int32} (hkd : qm_kind id = 2) (hw : Cond.fieldLink own idx (TX3 6).1 (TX3 6).2.1 (TX3 6).2.2.1 ∈ qm_ws) (hd : decode cc pc = .ok (.putfield idx, 3)) (kk : qm_Wp l E d own cc nL (pc + 3) lv st (qm_si σ id 6 x) r) : qm_Wp l E d own cc nL pc lv (.int x :: .ref (qm_a E id) :: st) σ r := qr_putG (c := 1) (ty := .int) hkd (by decide) rfl qm_in1 tyX3_ok nmX3 (by decide) (by simp [qm_fs]) (qm_set1_6 E σ id x) (fun i hi => qm_si_ne σ _ x hi) (fun _ _ => rfl) rfl (by decide +kernel) rfl rfl hw hd kk
theorem qm_set1_7 (E : qm_E) (σ : qm_M) (id : Nat) (x : Int32) : (qm_fs E σ 1 id).set 7 (.int x) = qm_fs E (qm_si σ id 7 x) 1 id := by simp [qm_fs, qm_si]
theorem qr_put1_7 {l : Launch} {E : qm_E} {d : Nat} {own : String} {cc : ByteArray} {nL : Nat} {pc : Nat} {lv : List (Nat × Value)} {st : List Value} {σ : qm_M} {r : Option Value × qm_M} {id idx : Nat} {x : Int32} (hkd : qm_kind id = 2) (hw : Cond.fieldLink own idx (TX3 7).1 (TX3 7).2.1 (TX3 7).2.2.1 ∈ qm_ws) (hd : decode cc pc = .ok (.putfield idx, 3)) (kk : qm_Wp l E d own cc nL (pc + 3) lv st (qm_si σ id 7 x) r) : qm_Wp l E d own cc nL pc lv (.int x :: .ref (qm_a E id) :: st) σ r := qr_putG (c := 1) (ty := .int) hkd (by decide) rfl qm_in1 tyX3_ok nmX3 (by decide) (by simp [qm_fs]) (qm_set1_7 E σ id x) (fun i hi => qm_si_ne σ _ x hi) (fun _ _ => rfl) rfl (by decide +kernel) rfl rfl hw hd kk
theorem qm_set1_8 (E : qm_E) (σ : qm_M) (id : Nat) (x : Int32) : (qm_fs E σ 1 id).set 8 (.int x) = qm_fs E (qm_si σ id 8 x) 1 id := by simp [qm_fs, qm_si]
theorem qr_put1_8 {l : Launch} {E : qm_E} {d : Nat} {own : String} {cc : ByteArray} {nL : Nat} {pc : Nat} {lv : List (Nat × Value)} {st : List Value} {σ : qm_M} {r : Option Value × qm_M} {id idx : Nat} {x : Int32} (hkd : qm_kind id = 2) (hw : Cond.fieldLink own idx (TX3 8).1 (TX3 8).2.1 (TX3 8).2.2.1 ∈ qm_ws) (hd : decode cc pc = .ok (.putfield idx, 3)) (kk : qm_Wp l E d own cc nL (pc + 3) lv st (qm_si σ id 8 x) r) : qm_Wp l E d own cc nL pc lv (.int x :: .ref (qm_a E id) :: st) σ r := qr_putG (c := 1) (ty := .int) hkd (by decide) rfl qm_in1 tyX3_ok nmX3 (by decide) (by simp [qm_fs]) (qm_set1_8 E σ id x) (fun i hi => qm_si_ne σ _ x hi) (fun _ _ => rfl) rfl (by decide +kernel) rfl rfl hw hd kk
theorem qm_set1_9 (E : qm_E) (σ : qm_M) (id : Nat) (x : Int32) : (qm_fs E σ 1 id).set 9 (.int x) = qm_fs E (qm_si σ id 9 x) 1 id := by simp [qm_fs, qm_si]
theorem qr_put1_9 {l : Launch} {E : qm_E} {d : Nat} {own : String} {cc : ByteArray} {nL : Nat} {pc : Nat} {lv : List (Nat × Value)} {st : List Value} {σ : qm_M} {r : Option Value × qm_M} {id idx : Nat} {x : Int32} (hkd : qm_kind id = 2) (hw : Cond.fieldLink own idx (TX3 9).1 (TX3 9).2.1 (TX3 9).2.2.1 ∈ qm_ws) (hd : decode cc pc = .ok (.putfield idx, 3)) (kk : qm_Wp l E d own cc nL (pc + 3) lv st (qm_si σ id 9 x) r) : qm_Wp l E d own cc nL pc lv (.int x :: .ref (qm_a E id) :: st) σ r := qr_putG (c := 1) (ty := .int) hkd (by decide) rfl qm_in1 tyX3_ok nmX3 (by decide) (by simp [qm_fs]) (qm_set1_9 E σ id x) (fun i hi => qm_si_ne σ _ x hi) (fun _ _ => rfl) rfl (by decide +kernel) rfl rfl hw hd kk
theorem qr_get2 {l : Launch} {E : qm_E} {d : Nat} {own : String} {cc : ByteArray} {nL : Nat} {pc : Nat} {lv : List (Nat × Value)} {st : List Value} {σ : qm_M} {r : Option Value × qm_M} {id k idx : Nat} {v : Value} (hkd : qm_kind id = 3) (hk : k < 2) (hv : (qm_fs E σ 2 id)[k]? = some v) (hw : Cond.fieldLink own idx (TX4 k).1 (TX4 k).2.1 (TX4 k).2.2.1 ∈ qm_ws) (hd : decode cc pc = .ok (.getfield idx, 3)) (kk : qm_Wp l E d own cc nL (pc + 3) lv (v :: st) σ r) : qm_Wp l E d own cc nL pc lv (.ref (qm_a E id) :: st) σ r := qr_getG (c := 2) hkd (by decide) rfl qm_in2 hk hv hw hd kk
theorem qm_set2_1 (E : qm_E) (σ : qm_M) (id : Nat) (x : Int32) : (qm_fs E σ 2 id).set 1 (.int x) = qm_fs E (qm_si σ id 1 x) 2 id := by simp [qm_fs, qm_si]
theorem qr_put2_1 {l : Launch} {E : qm_E} {d : Nat} {own : String} {cc : ByteArray} {nL : Nat} {pc : Nat} {lv : List (Nat × Value)} {st : List Value} {σ : qm_M} {r : Option Value × qm_M} {id idx : Nat} {x : Int32} (hkd : qm_kind id = 3) (hw : Cond.fieldLink own idx (TX4 1).1 (TX4 1).2.1 (TX4 1).2.2.1 ∈ qm_ws) (hd : decode cc pc = .ok (.putfield idx, 3)) (kk : qm_Wp l E d own cc nL (pc + 3) lv st (qm_si σ id 1 x) r) : qm_Wp l E d own cc nL pc lv (.int x :: .ref (qm_a E id) :: st) σ r := qr_putG (c := 2) (ty := .int) hkd (by decide) rfl qm_in2 tyX4_ok nmX4 (by decide) (by simp [qm_fs]) (qm_set2_1 E σ id x) (fun i hi => qm_si_ne σ _ x hi) (fun _ _ => rfl) rfl (by decide +kernel) rfl rfl hw hd kk
theorem qr_get3 {l : Launch} {E : qm_E} {d : Nat} {own : String} {cc : ByteArray} {nL : Nat} {pc : Nat} {lv : List (Nat × Value)} {st : List Value} {σ : qm_M} {r : Option Value × qm_M} {id k idx : Nat} {v : Value} (hkd : qm_kind id = 4) (hk : k < 10) (hv : (qm_fs E σ 3 id)[k]? = some v) (hw : Cond.fieldLink own idx (TX5 k).1 (TX5 k).2.1 (TX5 k).2.2.1 ∈ qm_ws) (hd : decode cc pc = .ok (.getfield idx, 3)) (kk : qm_Wp l E d own cc nL (pc + 3) lv (v :: st) σ r) : qm_Wp l E d own cc nL pc lv (.ref (qm_a E id) :: st) σ r := qr_getG (c := 3) hkd (by decide) rfl qm_in3 hk hv hw hd kk
theorem qm_set3_1 (E : qm_E) (σ : qm_M) (id : Nat) (x : Int32) : (qm_fs E σ 3 id).set 1 (.int x) = qm_fs E (qm_si σ id 1 x) 3 id := by simp [qm_fs, qm_si]
theorem qr_put3_1 {l : Launch} {E : qm_E} {d : Nat} {own : String} {cc : ByteArray} {nL : Nat} {pc : Nat} {lv : List (Nat × Value)} {st : List Value} {σ : qm_M} {r : Option Value × qm_M} {id idx : Nat} {x : Int32} (hkd : qm_kind id = 4) (hw : Cond.fieldLink own idx (TX5 1).1 (TX5 1).2.1 (TX5 1).2.2.1 ∈ qm_ws) (hd : decode cc pc = .ok (.putfield idx, 3)) (kk : qm_Wp l E d own cc nL (pc + 3) lv st (qm_si σ id 1 x) r) : qm_Wp l E d own cc nL pc lv (.int x :: .ref (qm_a E id) :: st) σ r := qr_putG (c := 3) (ty := .int) hkd (by decide) rfl qm_in3 tyX5_ok nmX5 (by decide) (by simp [qm_fs]) (qm_set3_1 E σ id x) (fun i hi => qm_si_ne σ _ x hi) (fun _ _ => rfl) rfl (by decide +kernel) rfl rfl hw hd kk
theorem qm_set3_5 (E : qm_E) (σ : qm_M) (id : Nat) (x : Int32) : (qm_fs E σ 3 id).set 5 (.int x) = qm_fs E (qm_si σ id 5 x) 3 id := by simp [qm_fs, qm_si]
theorem qr_put3_5 {l : Launch} {E : qm_E} {d : Nat} {own : String} {cc : ByteArray} {nL : Nat} {pc : Nat} {lv : List (Nat × Value)} {st : List Value} {σ : qm_M} {r : Option Value × qm_M} {id idx : Nat} {x : Int32} (hkd : qm_kind id = 4) (hw : Cond.fieldLink own idx (TX5 5).1 (TX5 5).2.1 (TX5 5).2.2.1 ∈ qm_ws) (hd : decode cc pc = .ok (.putfield idx, 3)) (kk : qm_Wp l E d own cc nL (pc + 3) lv st (qm_si σ id 5 x) r) : qm_Wp l E d own cc nL pc lv (.int x :: .ref (qm_a E id) :: st) σ r := qr_putG (c := 3) (ty := .int) hkd (by decide) rfl qm_in3 tyX5_ok nmX5 (by decide) (by simp [qm_fs]) (qm_set3_5 E σ id x) (fun i hi => qm_si_ne σ _ x hi) (fun _ _ => rfl) rfl (by decide +kernel) rfl rfl hw hd kk
theorem qm_set3_7 (E : qm_E) (σ : qm_M) (id : Nat) (x : Int32) : (qm_fs E σ 3 id).set 7 (.int x) = qm_fs E (qm_si σ id 7 x) 3 id := by simp [qm_fs, qm_si]
theorem qr_put3_7 {l : Launch} {E : qm_E} {d : Nat} {own : String} {cc : ByteArray} {nL : Nat} {pc : Nat} {lv : List (Nat × Value)} {st : List Value} {σ : qm_M} {r : Option Value × qm_M} {id idx : Nat} {x : Int32} (hkd : qm_kind id = 4) (hw : Cond.fieldLink own idx (TX5 7).1 (TX5 7).2.1 (TX5 7).2.2.1 ∈ qm_ws) (hd : decode cc pc = .ok (.putfield idx, 3)) (kk : qm_Wp l E d own cc nL (pc + 3) lv st (qm_si σ id 7 x) r) : qm_Wp l E d own cc nL pc lv (.int x :: .ref (qm_a E id) :: st) σ r := qr_putG (c := 3) (ty := .int) hkd (by decide) rfl qm_in3 tyX5_ok nmX5 (by decide) (by simp [qm_fs]) (qm_set3_7 E σ id x) (fun i hi => qm_si_ne σ _ x hi) (fun _ _ => rfl) rfl (by decide +kernel) rfl rfl hw hd kk
theorem qm_set3_8 (E : qm_E) (σ : qm_M) (id : Nat) (x : Int32) : (qm_fs E σ 3 id).set 8 (.int x) = qm_fs E (qm_si σ id 8 x) 3 id := by simp [qm_fs, qm_si]
theorem qr_put3_8 {l : Launch} {E : qm_E} {d : Nat} {own : String} {cc : ByteArray} {nL : Nat} {pc : Nat} {lv : List (Nat × Value)} {st : List Value} {σ : qm_M} {r : Option Value × qm_M} {id idx : Nat} {x : Int32} (hkd : qm_kind id = 4) (hw : Cond.fieldLink own idx (TX5 8).1 (TX5 8).2.1 (TX5 8).2.2.1 ∈ qm_ws) (hd : decode cc pc = .ok (.putfield idx, 3)) (kk : qm_Wp l E d own cc nL (pc + 3) lv st (qm_si σ id 8 x) r) : qm_Wp l E d own cc nL pc lv (.int x :: .ref (qm_a E id) :: st) σ r := qr_putG (c := 3) (ty := .int) hkd (by decide) rfl qm_in3 tyX5_ok nmX5 (by decide) (by simp [qm_fs]) (qm_set3_8 E σ id x) (fun i hi => qm_si_ne σ _ x hi) (fun _ _ => rfl) rfl (by decide +kernel) rfl rfl hw hd kk
theorem qm_set3_9 (E : qm_E) (σ : qm_M) (id : Nat) (x : Int32) : (qm_fs E σ 3 id).set 9 (.int x) = qm_fs E (qm_si σ id 9 x) 3 id := by simp [qm_fs, qm_si]
theorem qr_put3_9 {l : Launch} {E : qm_E} {d : Nat} {own : String} {cc : ByteArray} {nL : Nat} {pc : Nat} {lv : List (Nat × Value)} {st : List Value} {σ : qm_M} {r : Option Value × qm_M} {id idx : Nat} {x : Int32} (hkd : qm_kind id = 4) (hw : Cond.fieldLink own idx (TX5 9).1 (TX5 9).2.1 (TX5 9).2.2.1 ∈ qm_ws) (hd : decode cc pc = .ok (.putfield idx, 3)) (kk : qm_Wp l E d own cc nL (pc + 3) lv st (qm_si σ id 9 x) r) : qm_Wp l E d own cc nL pc lv (.int x :: .ref (qm_a E id) :: st) σ r := qr_putG (c := 3) (ty := .int) hkd (by decide) rfl qm_in3 tyX5_ok nmX5 (by decide) (by simp [qm_fs]) (qm_set3_9 E σ id x) (fun i hi => qm_si_ne σ _ x hi) (fun _ _ => rfl) rfl (by decide +kernel) rfl rfl hw hd kk
theorem qr_get4 {l : Launch} {E : qm_E} {d : Nat} {own : String} {cc : ByteArray} {nL : Nat} {pc : Nat} {lv : List (Nat × Value)} {st : List Value} {σ : qm_M} {r : Option Value × qm_M} {id k idx : Nat} {v : Value} (hkd : qm_kind id = 5) (hk : k < 9) (hv : (qm_fs E σ 4 id)[k]? = some v) (hw : Cond.fieldLink own idx (TX6 k).1 (TX6 k).2.1 (TX6 k).2.2.1 ∈ qm_ws) (hd : decode cc pc = .ok (.getfield idx, 3)) (kk : qm_Wp l E d own cc nL (pc + 3) lv (v :: st) σ r) : qm_Wp l E d own cc nL pc lv (.ref (qm_a E id) :: st) σ r := qr_getG (c := 4) hkd (by decide) rfl qm_in4 hk hv hw hd kk
theorem qm_set4_2 (E : qm_E) (σ : qm_M) (id : Nat) (x : Int32) : (qm_fs E σ 4 id).set 2 (.int x) = qm_fs E (qm_si σ id 2 x) 4 id := by simp [qm_fs, qm_si]
theorem qr_put4_2 {l : Launch} {E : qm_E} {d : Nat} {own : String} {cc : ByteArray} {nL : Nat} {pc : Nat} {lv : List (Nat × Value)} {st : List Value} {σ : qm_M} {r : Option Value × qm_M} {id idx : Nat} {x : Int32} (hkd : qm_kind id = 5) (hw : Cond.fieldLink own idx (TX6 2).1 (TX6 2).2.1 (TX6 2).2.2.1 ∈ qm_ws) (hd : decode cc pc = .ok (.putfield idx, 3)) (kk : qm_Wp l E d own cc nL (pc + 3) lv st (qm_si σ id 2 x) r) : qm_Wp l E d own cc nL pc lv (.int x :: .ref (qm_a E id) :: st) σ r := qr_putG (c := 4) (ty := .int) hkd (by decide) rfl qm_in4 tyX6_ok nmX6 (by decide) (by simp [qm_fs]) (qm_set4_2 E σ id x) (fun i hi => qm_si_ne σ _ x hi) (fun _ _ => rfl) rfl (by decide +kernel) rfl rfl hw hd kk
theorem qm_set4_3 (E : qm_E) (σ : qm_M) (id : Nat) (x : Int32) : (qm_fs E σ 4 id).set 3 (.int x) = qm_fs E (qm_si σ id 3 x) 4 id := by simp [qm_fs, qm_si]
theorem qr_put4_3 {l : Launch} {E : qm_E} {d : Nat} {own : String} {cc : ByteArray} {nL : Nat} {pc : Nat} {lv : List (Nat × Value)} {st : List Value} {σ : qm_M} {r : Option Value × qm_M} {id idx : Nat} {x : Int32} (hkd : qm_kind id = 5) (hw : Cond.fieldLink own idx (TX6 3).1 (TX6 3).2.1 (TX6 3).2.2.1 ∈ qm_ws) (hd : decode cc pc = .ok (.putfield idx, 3)) (kk : qm_Wp l E d own cc nL (pc + 3) lv st (qm_si σ id 3 x) r) : qm_Wp l E d own cc nL pc lv (.int x :: .ref (qm_a E id) :: st) σ r := qr_putG (c := 4) (ty := .int) hkd (by decide) rfl qm_in4 tyX6_ok nmX6 (by decide) (by simp [qm_fs]) (qm_set4_3 E σ id x) (fun i hi => qm_si_ne σ _ x hi) (fun _ _ => rfl) rfl (by decide +kernel) rfl rfl hw hd kk
theorem qm_set4_6 (E : qm_E) (σ : qm_M) (id : Nat) (x : Int32) : (qm_fs E σ 4 id).set 6 (.int x) = qm_fs E (qm_si σ id 6 x) 4 id := by simp [qm_fs, qm_si]
theorem qr_put4_6 {l : Launch} {E : qm_E} {d : Nat} {own : String} {cc : ByteArray} {nL : Nat} {pc : Nat} {lv : List (Nat × Value)} {st : List Value} {σ : qm_M} {r : Option Value × qm_M} {id idx : Nat} {x : Int32} (hkd : qm_kind id = 5) (hw : Cond.fieldLink own idx (TX6 6).1 (TX6 6).2.1 (TX6 6).2.2.1 ∈ qm_ws) (hd : decode cc pc = .ok (.putfield idx, 3)) (kk : qm_Wp l E d own cc nL (pc + 3) lv st (qm_si σ id 6 x) r) : qm_Wp l E d own cc nL pc lv (.int x :: .ref (qm_a E id) :: st) σ r := qr_putG (c := 4) (ty := .int) hkd (by decide) rfl qm_in4 tyX6_ok nmX6 (by decide) (by simp [qm_fs]) (qm_set4_6 E σ id x) (fun i hi => qm_si_ne σ _ x hi) (fun _ _ => rfl) rfl (by decide +kernel) rfl rfl hw hd kk
theorem qm_set4_7 (E : qm_E) (σ : qm_M) (id : Nat) (x : Int32) : (qm_fs E σ 4 id).set 7 (.int x) = qm_fs E (qm_si σ id 7 x) 4 id := by simp [qm_fs, qm_si]
theorem qr_put4_7 {l : Launch} {E : qm_E} {d : Nat} {own : String} {cc : ByteArray} {nL : Nat} {pc : Nat} {lv : List (Nat × Value)} {st : List Value} {σ : qm_M} {r : Option Value × qm_M} {id idx : Nat} {x : Int32} (hkd : qm_kind id = 5) (hw : Cond.fieldLink own idx (TX6 7).1 (TX6 7).2.1 (TX6 7).2.2.1 ∈ qm_ws) (hd : decode cc pc = .ok (.putfield idx, 3)) (kk : qm_Wp l E d own cc nL (pc + 3) lv st (qm_si σ id 7 x) r) : qm_Wp l E d own cc nL pc lv (.int x :: .ref (qm_a E id) :: st) σ r := qr_putG (c := 4) (ty := .int) hkd (by decide) rfl qm_in4 tyX6_ok nmX6 (by decide) (by simp [qm_fs]) (qm_set4_7 E σ id x) (fun i hi => qm_si_ne σ _ x hi) (fun _ _ => rfl) rfl (by decide +kernel) rfl rfl hw hd kk
theorem qm_set4_8 (E : qm_E) (σ : qm_M) (id : Nat) (x : Int32) : (qm_fs E σ 4 id).set 8 (.int x) = qm_fs E (qm_si σ id 8 x) 4 id := by simp [qm_fs, qm_si]
theorem qr_put4_8 {l : Launch} {E : qm_E} {d : Nat} {own : String} {cc : ByteArray} {nL : Nat} {pc : Nat} {lv : List (Nat × Value)} {st : List Value} {σ : qm_M} {r : Option Value × qm_M} {id idx : Nat} {x : Int32} (hkd : qm_kind id = 5) (hw : Cond.fieldLink own idx (TX6 8).1 (TX6 8).2.1 (TX6 8).2.2.1 ∈ qm_ws) (hd : decode cc pc = .ok (.putfield idx, 3)) (kk : qm_Wp l E d own cc nL (pc + 3) lv st (qm_si σ id 8 x) r) : qm_Wp l E d own cc nL pc lv (.int x :: .ref (qm_a E id) :: st) σ r := qr_putG (c := 4) (ty := .int) hkd (by decide) rfl qm_in4 tyX6_ok nmX6 (by decide) (by simp [qm_fs]) (qm_set4_8 E σ id x) (fun i hi => qm_si_ne σ _ x hi) (fun _ _ => rfl) rfl (by decide +kernel) rfl rfl hw hd kk
theorem qr_get5 {l : Launch} {E : qm_E} {d : Nat} {own : String} {cc : ByteArray} {nL : Nat} {pc : Nat} {lv : List (Nat × Value)} {st : List Value} {σ : qm_M} {r : Option Value × qm_M} {id k idx : Nat} {v : Value} (hkd : qm_kind id = 6) (hk : k < 17) (hv : (qm_fs E σ 5 id)[k]? = some v) (hw : Cond.fieldLink own idx (TX7 k).1 (TX7 k).2.1 (TX7 k).2.2.1 ∈ qm_ws) (hd : decode cc pc = .ok (.getfield idx, 3)) (kk : qm_Wp l E d own cc nL (pc + 3) lv (v :: st) σ r) : qm_Wp l E d own cc nL pc lv (.ref (qm_a E id) :: st) σ r := qr_getG (c := 5) hkd (by decide) rfl qm_in5 hk hv hw hd kk
theorem qm_set5_2 (E : qm_E) (σ : qm_M) (id : Nat) (x : Int32) : (qm_fs E σ 5 id).set 2 (.int x) = qm_fs E (qm_si σ id 2 x) 5 id := by simp [qm_fs, qm_si]
theorem qr_put5_2 {l : Launch} {E : qm_E} {d : Nat} {own : String} {cc : ByteArray} {nL : Nat} {pc : Nat} {lv : List (Nat × Value)} {st : List Value} {σ : qm_M} {r : Option Value × qm_M} {id idx : Nat} {x : Int32} (hkd : qm_kind id = 6) (hw : Cond.fieldLink own idx (TX7 2).1 (TX7 2).2.1 (TX7 2).2.2.1 ∈ qm_ws) (hd : decode cc pc = .ok (.putfield idx, 3)) (kk : qm_Wp l E d own cc nL (pc + 3) lv st (qm_si σ id 2 x) r) : qm_Wp l E d own cc nL pc lv (.int x :: .ref (qm_a E id) :: st) σ r := qr_putG (c := 5) (ty := .int) hkd (by decide) rfl qm_in5 tyX7_ok nmX7 (by decide) (by simp [qm_fs]) (qm_set5_2 E σ id x) (fun i hi => qm_si_ne σ _ x hi) (fun _ _ => rfl) rfl (by decide +kernel) rfl rfl hw hd kk
theorem qm_set5_4 (E : qm_E) (σ : qm_M) (id : Nat) (x : Int64) : (qm_fs E σ 5 id).set 4 (.long x) = qm_fs E (qm_sl σ id 4 x) 5 id := by simp [qm_fs, qm_sl]
theorem qr_put5_4 {l : Launch} {E : qm_E} {d : Nat} {own : String} {cc : ByteArray} {nL : Nat} {pc : Nat} {lv : List (Nat × Value)} {st : List Value} {σ : qm_M} {r : Option Value × qm_M} {id idx : Nat} {x : Int64} (hkd : qm_kind id = 6) (hw : Cond.fieldLink own idx (TX7 4).1 (TX7 4).2.1 (TX7 4).2.2.1 ∈ qm_ws) (hd : decode cc pc = .ok (.putfield idx, 3)) (kk : qm_Wp l E d own cc nL (pc + 3) lv st (qm_sl σ id 4 x) r) : qm_Wp l E d own cc nL pc lv (.long x :: .ref (qm_a E id) :: st) σ r := qr_putG (c := 5) (ty := .long) hkd (by decide) rfl qm_in5 tyX7_ok nmX7 (by decide) (by simp [qm_fs]) (qm_set5_4 E σ id x) (fun _ _ => rfl) (fun i hi => qm_sl_ne σ _ x hi) rfl (by decide +kernel) rfl rfl hw hd kk
theorem qm_set5_5 (E : qm_E) (σ : qm_M) (id : Nat) (x : Int64) : (qm_fs E σ 5 id).set 5 (.long x) = qm_fs E (qm_sl σ id 5 x) 5 id := by simp [qm_fs, qm_sl]
theorem qr_put5_5 {l : Launch} {E : qm_E} {d : Nat} {own : String} {cc : ByteArray} {nL : Nat} {pc : Nat} {lv : List (Nat × Value)} {st : List Value} {σ : qm_M} {r : Option Value × qm_M} {id idx : Nat} {x : Int64} (hkd : qm_kind id = 6) (hw : Cond.fieldLink own idx (TX7 5).1 (TX7 5).2.1 (TX7 5).2.2.1 ∈ qm_ws) (hd : decode cc pc = .ok (.putfield idx, 3)) (kk : qm_Wp l E d own cc nL (pc + 3) lv st (qm_sl σ id 5 x) r) : qm_Wp l E d own cc nL pc lv (.long x :: .ref (qm_a E id) :: st) σ r := qr_putG (c := 5) (ty := .long) hkd (by decide) rfl qm_in5 tyX7_ok nmX7 (by decide) (by simp [qm_fs]) (qm_set5_5 E σ id x) (fun _ _ => rfl) (fun i hi => qm_sl_ne σ _ x hi) rfl (by decide +kernel) rfl rfl hw hd kk
theorem qm_set5_7 (E : qm_E) (σ : qm_M) (id : Nat) (x : Int32) : (qm_fs E σ 5 id).set 7 (.int x) = qm_fs E (qm_si σ id 7 x) 5 id := by simp [qm_fs, qm_si]
theorem qr_put5_7 {l : Launch} {E : qm_E} {d : Nat} {own : String} {cc : ByteArray} {nL : Nat} {pc : Nat} {lv : List (Nat × Value)} {st : List Value} {σ : qm_M} {r : Option Value × qm_M} {id idx : Nat} {x : Int32} (hkd : qm_kind id = 6) (hw : Cond.fieldLink own idx (TX7 7).1 (TX7 7).2.1 (TX7 7).2.2.1 ∈ qm_ws) (hd : decode cc pc = .ok (.putfield idx, 3)) (kk : qm_Wp l E d own cc nL (pc + 3) lv st (qm_si σ id 7 x) r) : qm_Wp l E d own cc nL pc lv (.int x :: .ref (qm_a E id) :: st) σ r := qr_putG (c := 5) (ty := .int) hkd (by decide) rfl qm_in5 tyX7_ok nmX7 (by decide) (by simp [qm_fs]) (qm_set5_7 E σ id x) (fun i hi => qm_si_ne σ _ x hi) (fun _ _ => rfl) rfl (by decide +kernel) rfl rfl hw hd kk
theorem qm_set5_8 (E : qm_E) (σ : qm_M) (id : Nat) (x : Int32) : (qm_fs E σ 5 id).set 8 (.int x) = qm_fs E (qm_si σ id 8 x) 5 id := by simp [qm_fs, qm_si]
theorem qr_put5_8 {l : Launch} {E : qm_E} {d : Nat} {own : String} {cc : ByteArray} {nL : Nat} {pc : Nat} {lv : List (Nat × Value)} {st : List Value} {σ : qm_M} {r : Option Value × qm_M} {id idx : Nat} {x : Int32} (hkd : qm_kind id = 6) (hw : Cond.fieldLink own idx (TX7 8).1 (TX7 8).2.1 (TX7 8).2.2.1 ∈ qm_ws) (hd : decode cc pc = .ok (.putfield idx, 3)) (kk : qm_Wp l E d own cc nL (pc + 3) lv st (qm_si σ id 8 x) r) : qm_Wp l E d own cc nL pc lv (.int x :: .ref (qm_a E id) :: st) σ r := qr_putG (c := 5) (ty := .int) hkd (by decide) rfl qm_in5 tyX7_ok nmX7 (by decide) (by simp [qm_fs]) (qm_set5_8 E σ id x) (fun i hi => qm_si_ne σ _ x hi) (fun _ _ => rfl) rfl (by decide +kernel) rfl rfl hw hd kk
theorem qm_set5_9 (E : qm_E) (σ : qm_M) (id : Nat) (x : Int32) : (qm_fs E σ 5 id).set 9 (.int x) = qm_fs E (qm_si σ id 9 x) 5 id := by simp [qm_fs, qm_si]
theorem qr_put5_9 {l : Launch} {E : qm_E} {d : Nat} {own : String} {cc : ByteArray} {nL : Nat} {pc : Nat} {lv : List (Nat × Value)} {st : List Value} {σ : qm_M} {r : Option Value × qm_M} {id idx : Nat} {x : Int32} (hkd : qm_kind id = 6) (hw : Cond.fieldLink own idx (TX7 9).1 (TX7 9).2.1 (TX7 9).2.2.1 ∈ qm_ws) (hd : decode cc pc = .ok (.putfield idx, 3)) (kk : qm_Wp l E d own cc nL (pc + 3) lv st (qm_si σ id 9 x) r) : qm_Wp l E d own cc nL pc lv (.int x :: .ref (qm_a E id) :: st) σ r := qr_putG (c := 5) (ty := .int) hkd (by decide) rfl qm_in5 tyX7_ok nmX7 (by decide) (by simp [qm_fs]) (qm_set5_9 E σ id x) (fun i hi => qm_si_ne σ _ x hi) (fun _ _ => rfl) rfl (by decide +kernel) rfl rfl hw hd kk
theorem qm_set5_10 (E : qm_E) (σ : qm_M) (id : Nat) (x : Int32) : (qm_fs E σ 5 id).set 10 (.int x) = qm_fs E (qm_si σ id 10 x) 5 id := by simp [qm_fs, qm_si]
theorem qr_put5_10 {l : Launch} {E : qm_E} {d : Nat} {own : String} {cc : ByteArray} {nL : Nat} {pc : Nat} {lv : List (Nat × Value)} {st : List Value} {σ : qm_M} {r : Option Value × qm_M} {id idx : Nat} {x : Int32} (hkd : qm_kind id = 6) (hw : Cond.fieldLink own idx (TX7 10).1 (TX7 10).2.1 (TX7 10).2.2.1 ∈ qm_ws) (hd : decode cc pc = .ok (.putfield idx, 3)) (kk : qm_Wp l E d own cc nL (pc + 3) lv st (qm_si σ id 10 x) r) : qm_Wp l E d own cc nL pc lv (.int x :: .ref (qm_a E id) :: st) σ r := qr_putG (c := 5) (ty := .int) hkd (by decide) rfl qm_in5 tyX7_ok nmX7 (by decide) (by simp [qm_fs]) (qm_set5_10 E σ id x) (fun i hi => qm_si_ne σ _ x hi) (fun _ _ => rfl) rfl (by decide +kernel) rfl rfl hw hd kk
theorem qm_set5_14 (E : qm_E) (σ : qm_M) (id : Nat) (x : Int32) : (qm_fs E σ 5 id).set 14 (.int x) = qm_fs E (qm_si σ id 14 x) 5 id := by simp [qm_fs, qm_si]
theorem qr_put5_14 {l : Launch} {E : qm_E} {d : Nat} {own : String} {cc : ByteArray} {nL : Nat} {pc : Nat} {lv : List (Nat × Value)} {st : List Value} {σ : qm_M} {r : Option Value × qm_M} {id idx : Nat} {x : Int32} (hkd : qm_kind id = 6) (hw : Cond.fieldLink own idx (TX7 14).1 (TX7 14).2.1 (TX7 14).2.2.1 ∈ qm_ws) (hd : decode cc pc = .ok (.putfield idx, 3)) (kk : qm_Wp l E d own cc nL (pc + 3) lv st (qm_si σ id 14 x) r) : qm_Wp l E d own cc nL pc lv (.int x :: .ref (qm_a E id) :: st) σ r := qr_putG (c := 5) (ty := .int) hkd (by decide) rfl qm_in5 tyX7_ok nmX7 (by decide) (by simp [qm_fs]) (qm_set5_14 E σ id x) (fun i hi => qm_si_ne σ _ x hi) (fun _ _ => rfl) rfl (by decide +kernel) rfl rfl hw hd kk
theorem qm_set5_15 (E : qm_E) (σ : qm_M) (id : Nat) (x : Int32) : (qm_fs E σ 5 id).set 15 (.int x) = qm_fs E (qm_si σ id 15 x) 5 id := by simp [qm_fs, qm_si]
theorem qr_put5_15 {l : Launch} {E : qm_E} {d : Nat} {own : String} {cc : ByteArray} {nL : Nat} {pc : Nat} {lv : List (Nat × Value)} {st : List Value} {σ : qm_M} {r : Option Value × qm_M} {id idx : Nat} {x : Int32} (hkd : qm_kind id = 6) (hw : Cond.fieldLink own idx (TX7 15).1 (TX7 15).2.1 (TX7 15).2.2.1 ∈ qm_ws) (hd : decode cc pc = .ok (.putfield idx, 3)) (kk : qm_Wp l E d own cc nL (pc + 3) lv st (qm_si σ id 15 x) r) : qm_Wp l E d own cc nL pc lv (.int x :: .ref (qm_a E id) :: st) σ r := qr_putG (c := 5) (ty := .int) hkd (by decide) rfl qm_in5 tyX7_ok nmX7 (by decide) (by simp [qm_fs]) (qm_set5_15 E σ id x) (fun i hi => qm_si_ne σ _ x hi) (fun _ _ => rfl) rfl (by decide +kernel) rfl rfl hw hd kk
theorem qm_set5_16 (E : qm_E) (σ : qm_M) (id : Nat) (x : Int32) : (qm_fs E σ 5 id).set 16 (.int x) = qm_fs E (qm_si σ id 16 x) 5 id := by simp [qm_fs, qm_si]
theorem qr_put5_16 {l : Launch} {E : qm_E} {d : Nat} {own : String} {cc : ByteArray} {nL : Nat} {pc : Nat} {lv : List (Nat × Value)} {st : List Value} {σ : qm_M} {r : Option Value × qm_M} {id idx : Nat} {x : Int32} (hkd : qm_kind id = 6) (hw : Cond.fieldLink own idx (TX7 16).1 (TX7 16).2.1 (TX7 16).2.2.1 ∈ qm_ws) (hd : decode cc pc = .ok (.putfield idx, 3)) (kk : qm_Wp l E d own cc nL (pc + 3) lv st (qm_si σ id 16 x) r) : qm_Wp l E d own cc nL pc lv (.int x :: .ref (qm_a E id) :: st) σ r := qr_putG (c := 5) (ty := .int) hkd (by decide) rfl qm_in5 tyX7_ok nmX7 (by decide) (by simp [qm_fs]) (qm_set5_16 E σ id x) (fun i hi => qm_si_ne σ _ x hi) (fun _ _ => rfl) rfl (by decide +kernel) rfl rfl hw hd kk
