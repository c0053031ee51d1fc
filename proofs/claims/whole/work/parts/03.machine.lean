-- THE QUIET MACHINE: memory of a fixed shape (ids), one judgement qm_Wp, a row an instruction
/-- memory: ints and longs by object and slot -/
abbrev qm_M : Type := (Nat → Nat → Int32) × (Nat → Nat → Int64)
/-- what a run fixes: classes' data, array classes (int, long, Stream, Tree), the first own address, the read-only arrays' addresses (the four static ones, then the script), the script's length and ints -/
abbrev qm_E : Type := va_G × (Nat → ClassId) × Nat × (Nat → Nat) × Nat × (Nat → Int32)
def qm_kind (id : Nat) : Nat := if id < 192 then (if id % 32 = 0 then 2 else if id % 32 = 1 then 9 else if id % 32 < 15 then 1 else 0) else if id < 200 then 0 else ([5, 10, 4, 7, 7, 7, 7, 7, 3, 7, 6, 8, 8, 7, 7, 7, 7, 7] : List Nat).getD (id - 200) 0
def qm_len (id : Nat) : Nat := if id < 203 then 0 else ([120, 12, 12, 12, 13, 0, 120, 0, 215, 1075, 3, 120, 12, 12, 12] : List Nat).getD (id - 203) 0
def qm_off (id : Nat) : Nat := if id < 32 then 1 + id else if id < 192 then 2 + 15 * (id / 32) + id % 32 else if id = 200 then 0 else if id = 201 then 16 else id - 110
def qm_inv (o : Nat) : Nat := if o = 0 then 200 else if o < 16 then o - 1 else if o = 16 then 201 else if o < 92 then 32 * ((o - 2) / 15) + (o - 2) % 15 else o + 110
def qm_a (E : qm_E) (id : Nat) : Nat := if id < 218 then E.2.2.1 + qm_off id else E.2.2.2.1 (id - 218)
theorem qm_kind_big {id : Nat} (h : qm_kind id ≠ 0) : id < 218 := by
  rcases Nat.lt_or_ge id 218 with q | q
  · exact q
  · exfalso
    apply h
    unfold qm_kind
    rw [if_neg (by omega), if_neg (by omega)]
    rw [List.getD_eq_getElem?_getD, List.getElem?_eq_none (by simp; omega)]
    rfl
theorem qm_inv_off : ∀ id, id < 218 → qm_kind id ≠ 0 → qm_inv (qm_off id) = id ∧ qm_off id < 108 := by decide +kernel
theorem qm_a_eq (E : qm_E) {id : Nat} (h : qm_kind id ≠ 0) : qm_a E id = E.2.2.1 + qm_off id := by
  unfold qm_a; rw [if_pos (qm_kind_big h)]
theorem qm_a_inj {E : qm_E} {i j : Nat} (hi : qm_kind i ≠ 0) (hj : qm_kind j ≠ 0) (h : qm_a E i = qm_a E j) : i = j := by
  rw [qm_a_eq E hi, qm_a_eq E hj] at h
  have h2 : qm_off i = qm_off j := by omega
  rw [← (qm_inv_off i (qm_kind_big hi) hi).1, ← (qm_inv_off j (qm_kind_big hj) hj).1, h2]
def qm_fs (E : qm_E) (σ : qm_M) (c id : Nat) : List Value := match c with
  | 0 => [.int (σ.1 id 0), .int (σ.1 id 1), .int (σ.1 id 2), .int (σ.1 id 3), .int (σ.1 id 4), .int (σ.1 id 5), .int (σ.1 id 6), .int (σ.1 id 7), .int (σ.1 id 8), .int (σ.1 id 9), .int (σ.1 id 10), .int (σ.1 id 11), .long (σ.2 id 12), .long (σ.2 id 13)]
  | 1 => [.ref (qm_a E (id + 1)), .int (σ.1 id 1), .int (σ.1 id 2), .int (σ.1 id 3), .int (σ.1 id 4), .int (σ.1 id 5), .int (σ.1 id 6), .int (σ.1 id 7), .int (σ.1 id 8), .int (σ.1 id 9)]
  | 2 => [.ref (qm_a E 209), .int (σ.1 id 1)]
  | 3 => [.ref (qm_a E 203), .int (σ.1 id 1), .ref (qm_a E 204), .ref (qm_a E 205), .ref (qm_a E 206), .int (σ.1 id 5), .ref (qm_a E 207), .int (σ.1 id 7), .int (σ.1 id 8), .int (σ.1 id 9)]
  | 4 => [.ref (qm_a E 0), .ref (qm_a E 201), .int (σ.1 id 2), .int (σ.1 id 3), .ref (qm_a E 202), .ref (qm_a E 208), .int (σ.1 id 6), .int (σ.1 id 7), .int (σ.1 id 8)]
  | _ => [.ref (qm_a E 211), .ref (qm_a E 212), .int (σ.1 id 2), .ref (qm_a E 213), .long (σ.2 id 4), .long (σ.2 id 5), .ref (qm_a E 214), .int (σ.1 id 7), .int (σ.1 id 8), .int (σ.1 id 9), .int (σ.1 id 10), .ref (qm_a E 215), .ref (qm_a E 216), .ref (qm_a E 217), .int (σ.1 id 14), .int (σ.1 id 15), .int (σ.1 id 16)]
def qm_lay (E : qm_E) (σ : qm_M) (id : Nat) : va_E :=
  if qm_kind id < 7 then .inr (qm_kind id - 1, qm_fs E σ (qm_kind id - 1) id)
  else if qm_kind id = 7 then .inl (E.2.1 0, qm_len id, .inl (σ.1 id))
  else if qm_kind id = 8 then .inl (E.2.1 1, qm_len id, .inr (.inl (σ.2 id)))
  else if qm_kind id = 9 then .inl (E.2.1 2, 13, .inr (.inr (.inr (.inr fun j => some (qm_a E (id + 1 + j))))))
  else .inl (E.2.1 3, 5, .inr (.inr (.inr (.inr fun j => some (qm_a E (32 * (j + 1)))))))
def qm_H (E : qm_E) (σ : qm_M) (H : Heap) : Prop := ∀ id, qm_kind id ≠ 0 → va_at E.1 vwCl (qm_a E id, qm_lay E σ id) H
def qm_A (E : qm_E) : Nat → Prop := fun q => E.2.2.1 ≤ q
/-- writing an int, a long -/
def qm_si (σ : qm_M) (id k : Nat) (x : Int32) : qm_M := (fun i j => if i = id ∧ j = k then x else σ.1 i j, σ.2)
def qm_sl (σ : qm_M) (id k : Nat) (x : Int64) : qm_M := (σ.1, fun i j => if i = id ∧ j = k then x else σ.2 i j)
theorem qm_si_row (σ : qm_M) (id k : Nat) (x : Int32) : (qm_si σ id k x).1 id = upd (σ.1 id) k x := by
  funext j; simp [qm_si, upd]
theorem qm_si_at (σ : qm_M) (id k : Nat) (x : Int32) (j : Nat) : (qm_si σ id k x).1 id j = if j = k then x else σ.1 id j := by simp [qm_si]
theorem qm_si_ne (σ : qm_M) {id i : Nat} (k : Nat) (x : Int32) (h : i ≠ id) : (qm_si σ id k x).1 i = σ.1 i := by
  funext j; simp [qm_si, h]
theorem qm_sl_row (σ : qm_M) (id k : Nat) (x : Int64) : (qm_sl σ id k x).2 id = vp_updL (σ.2 id) k x := by
  funext j; simp [qm_sl, vp_updL]
theorem qm_sl_at (σ : qm_M) (id k : Nat) (x : Int64) (j : Nat) : (qm_sl σ id k x).2 id j = if j = k then x else σ.2 id j := by simp [qm_sl]
theorem qm_sl_ne (σ : qm_M) {id i : Nat} (k : Nat) (x : Int64) (h : i ≠ id) : (qm_sl σ id k x).2 i = σ.2 i := by
  funext j; simp [qm_sl, h]
theorem qm_si_2 (σ : qm_M) (id k : Nat) (x : Int32) : (qm_si σ id k x).2 = σ.2 := rfl
theorem qm_sl_1 (σ : qm_M) (id k : Nat) (x : Int64) : (qm_sl σ id k x).1 = σ.1 := rfl
theorem qm_fs_cong (E : qm_E) {σ τ : qm_M} {id : Nat} (h1 : τ.1 id = σ.1 id) (h2 : τ.2 id = σ.2 id) (c : Nat) : qm_fs E τ c id = qm_fs E σ c id := by
  unfold qm_fs
  rw [h1, h2]
theorem qm_lay_cong (E : qm_E) {σ τ : qm_M} {id : Nat} (h1 : τ.1 id = σ.1 id) (h2 : τ.2 id = σ.2 id) : qm_lay E τ id = qm_lay E σ id := by
  unfold qm_lay
  rw [h1, h2, qm_fs_cong E h1 h2]
theorem qm_H_set {E : qm_E} {σ τ : qm_M} {H H1 : Heap} {id : Nat} (h : qm_H E σ H) (hid : qm_kind id ≠ 0) (hn : va_at E.1 vwCl (qm_a E id, qm_lay E τ id) H1) (oq : ∀ q, q ≠ qm_a E id → H1[q]? = H[q]?) (h1 : ∀ i, i ≠ id → τ.1 i = σ.1 i) (h2 : ∀ i, i ≠ id → τ.2 i = σ.2 i) : qm_H E τ H1 := by
  intro i hi
  by_cases e : i = id
  · subst e; exact hn
  · rw [qm_lay_cong E (h1 i e) (h2 i e)]
    exact va_at.kept (h i hi) (oq _ (fun q => e (qm_a_inj hi hid q)))
theorem qm_H_A {E : qm_E} {id : Nat} (hid : qm_kind id ≠ 0) : qm_A E (qm_a E id) := by
  unfold qm_A; rw [qm_a_eq E hid]; exact Nat.le_add_right _ _
theorem qm_lay_obj (E : qm_E) (σ : qm_M) {id c : Nat} (h : qm_kind id = c + 1) (hc : c < 6) : qm_lay E σ id = .inr (c, qm_fs E σ c id) := by
  unfold qm_lay; rw [if_pos (by omega), h]; rfl
theorem qm_lay_ai (E : qm_E) (σ : qm_M) {id : Nat} (h : qm_kind id = 7) : qm_lay E σ id = .inl (E.2.1 0, qm_len id, .inl (σ.1 id)) := by
  unfold qm_lay; rw [if_neg (by omega), if_pos h]
theorem qm_lay_al (E : qm_E) (σ : qm_M) {id : Nat} (h : qm_kind id = 8) : qm_lay E σ id = .inl (E.2.1 1, qm_len id, .inr (.inl (σ.2 id))) := by
  unfold qm_lay; rw [if_neg (by omega), if_neg (by omega), if_pos h]
theorem qm_lay_as (E : qm_E) (σ : qm_M) {id : Nat} (h : qm_kind id = 9) : qm_lay E σ id = .inl (E.2.1 2, 13, .inr (.inr (.inr (.inr fun j => some (qm_a E (id + 1 + j)))))) := by
  unfold qm_lay; rw [if_neg (by omega), if_neg (by omega), if_neg (by omega), if_pos h]
theorem qm_lay_at (E : qm_E) (σ : qm_M) {id : Nat} (h : qm_kind id = 10) : qm_lay E σ id = .inl (E.2.1 3, 5, .inr (.inr (.inr (.inr fun j => some (qm_a E (32 * (j + 1))))))) := by
  unfold qm_lay; rw [if_neg (by omega), if_neg (by omega), if_neg (by omega), if_neg (by omega)]
