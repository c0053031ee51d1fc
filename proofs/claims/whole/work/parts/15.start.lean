-- the first memory
def qm_0 : qm_M := (fun id k => if id < 192 ∧ id % 32 = 0 then (if k = 3 then 10000 else if k = 4 then 100 else if k = 5 then 10 else if k = 9 then (-1) else 0) else 0, fun id => if id = 211 then qc_f0 else fun _ => 0)
def qh_m (E : qm_E) : Nat → va_E := qc_md E (va_up (qh_w E) 100 (.inr (5, qe_X7))) 100 101 qc_f0
theorem qf_arr {D : va_G} {cl : List vw_C} {a N : Nat} {c : ClassId} {f g : Nat → Option Nat} {H : Heap} (h : ∀ j, j < N → f j = g j) (hf : va_at D cl (a, .inl (c, N, .inr (.inr (.inr (.inr f))))) H) : va_at D cl (a, .inl (c, N, .inr (.inr (.inr (.inr g))))) H := by
  have hf : H[a]? = some (arrV c N (fun j => va_rf (f j))) := hf
  show H[a]? = some (arrV c N (fun j => va_rf (g j)))
  rw [hf]
  unfold arrV
  congr 3
  funext j
  show va_rf (f j.val) = va_rf (g j.val)
  rw [h j.val j.isLt]
abbrev qf_P (E : qm_E) (id : Nat) : Prop := ∀ H, va_at E.1 vwCl (E.2.2.1 + qm_off id, qh_m E (qm_off id)) H → va_at E.1 vwCl (qm_a E id, qm_lay E qm_0 id) H
theorem qf_eq {E : qm_E} {id : Nat} (h : qm_kind id ≠ 0) (he : qh_m E (qm_off id) = qm_lay E qm_0 id) : qf_P E id := fun H hh => by rw [qm_a_eq E h, ← he]; exact hh
theorem qf_as {E : qm_E} (id r : Nat) (hk : qm_kind id = 9) (he : qh_m E (qm_off id) = qe_arr E (E.2.2.1 + r) 13) (hr : ∀ j, j < 13 → qm_kind (id + 1 + j) ≠ 0 ∧ qm_off (id + 1 + j) = r + j) : qf_P E id := fun H hh => by
  rw [qm_a_eq E (by omega), qm_lay_as E qm_0 hk]
  rw [he] at hh
  refine qf_arr (fun j hj => ?_) hh
  rw [if_pos hj, qm_a_eq E (hr j hj).1, (hr j hj).2]
  congr 1
  omega
theorem qh_f5 (E : qm_E) : ∀ i j, j < i → qh_f E i j = some (E.2.2.1 + (17 + 15 * j))
  | 0, j, h => absurd h (by omega)
  | i + 1, j, h => by
    unfold qh_f va_up
    by_cases e : j = i
    · rw [if_pos e, e]
    · rw [if_neg e]; exact qh_f5 E i j (by omega)
theorem qf_201 {E : qm_E} : qf_P E 201 := fun H hh => by
  rw [qm_a_eq E (by decide), qm_lay_at E qm_0 (by decide)]
  have he : qh_m E (qm_off 201) = .inl (E.2.1 3, 5, .inr (.inr (.inr (.inr (qh_f E 5))))) := rfl
  rw [he] at hh
  refine qf_arr (fun j hj => ?_) hh
  rw [qh_f5 E 5 j hj, qm_a_eq E ((show ∀ j, j < 5 → qm_kind (32 * (j + 1)) ≠ 0 by decide) j hj), (show ∀ j, j < 5 → qm_off (32 * (j + 1)) = 17 + 15 * j by decide) j hj]
theorem qf_0 {E : qm_E} : qf_P E 0 := qf_eq (by decide) rfl
theorem qf_1 {E : qm_E} : qf_P E 1 := qf_as 1 3 (by decide) rfl (by decide)
theorem qf_2 {E : qm_E} : qf_P E 2 := qf_eq (by decide) rfl
theorem qf_3 {E : qm_E} : qf_P E 3 := qf_eq (by decide) rfl
theorem qf_4 {E : qm_E} : qf_P E 4 := qf_eq (by decide) rfl
theorem qf_5 {E : qm_E} : qf_P E 5 := qf_eq (by decide) rfl
theorem qf_6 {E : qm_E} : qf_P E 6 := qf_eq (by decide) rfl
theorem qf_7 {E : qm_E} : qf_P E 7 := qf_eq (by decide) rfl
theorem qf_8 {E : qm_E} : qf_P E 8 := qf_eq (by decide) rfl
theorem qf_9 {E : qm_E} : qf_P E 9 := qf_eq (by decide) rfl
theorem qf_10 {E : qm_E} : qf_P E 10 := qf_eq (by decide) rfl
theorem qf_11 {E : qm_E} : qf_P E 11 := qf_eq (by decide) rfl
theorem qf_12 {E : qm_E} : qf_P E 12 := qf_eq (by decide) rfl
theorem qf_13 {E : qm_E} : qf_P E 13 := qf_eq (by decide) rfl
theorem qf_14 {E : qm_E} : qf_P E 14 := qf_eq (by decide) rfl
theorem qf_32 {E : qm_E} : qf_P E 32 := qf_eq (by decide) rfl
theorem qf_33 {E : qm_E} : qf_P E 33 := qf_as 33 19 (by decide) rfl (by decide)
theorem qf_34 {E : qm_E} : qf_P E 34 := qf_eq (by decide) rfl
theorem qf_35 {E : qm_E} : qf_P E 35 := qf_eq (by decide) rfl
theorem qf_36 {E : qm_E} : qf_P E 36 := qf_eq (by decide) rfl
theorem qf_37 {E : qm_E} : qf_P E 37 := qf_eq (by decide) rfl
theorem qf_38 {E : qm_E} : qf_P E 38 := qf_eq (by decide) rfl
theorem qf_39 {E : qm_E} : qf_P E 39 := qf_eq (by decide) rfl
theorem qf_40 {E : qm_E} : qf_P E 40 := qf_eq (by decide) rfl
theorem qf_41 {E : qm_E} : qf_P E 41 := qf_eq (by decide) rfl
theorem qf_42 {E : qm_E} : qf_P E 42 := qf_eq (by decide) rfl
theorem qf_43 {E : qm_E} : qf_P E 43 := qf_eq (by decide) rfl
theorem qf_44 {E : qm_E} : qf_P E 44 := qf_eq (by decide) rfl
theorem qf_45 {E : qm_E} : qf_P E 45 := qf_eq (by decide) rfl
theorem qf_46 {E : qm_E} : qf_P E 46 := qf_eq (by decide) rfl
theorem qf_64 {E : qm_E} : qf_P E 64 := qf_eq (by decide) rfl
theorem qf_65 {E : qm_E} : qf_P E 65 := qf_as 65 34 (by decide) rfl (by decide)
theorem qf_66 {E : qm_E} : qf_P E 66 := qf_eq (by decide) rfl
theorem qf_67 {E : qm_E} : qf_P E 67 := qf_eq (by decide) rfl
theorem qf_68 {E : qm_E} : qf_P E 68 := qf_eq (by decide) rfl
theorem qf_69 {E : qm_E} : qf_P E 69 := qf_eq (by decide) rfl
theorem qf_70 {E : qm_E} : qf_P E 70 := qf_eq (by decide) rfl
theorem qf_71 {E : qm_E} : qf_P E 71 := qf_eq (by decide) rfl
theorem qf_72 {E : qm_E} : qf_P E 72 := qf_eq (by decide) rfl
theorem qf_73 {E : qm_E} : qf_P E 73 := qf_eq (by decide) rfl
theorem qf_74 {E : qm_E} : qf_P E 74 := qf_eq (by decide) rfl
theorem qf_75 {E : qm_E} : qf_P E 75 := qf_eq (by decide) rfl
theorem qf_76 {E : qm_E} : qf_P E 76 := qf_eq (by decide) rfl
theorem qf_77 {E : qm_E} : qf_P E 77 := qf_eq (by decide) rfl
theorem qf_78 {E : qm_E} : qf_P E 78 := qf_eq (by decide) rfl
theorem qf_96 {E : qm_E} : qf_P E 96 := qf_eq (by decide) rfl
theorem qf_97 {E : qm_E} : qf_P E 97 := qf_as 97 49 (by decide) rfl (by decide)
theorem qf_98 {E : qm_E} : qf_P E 98 := qf_eq (by decide) rfl
theorem qf_99 {E : qm_E} : qf_P E 99 := qf_eq (by decide) rfl
theorem qf_100 {E : qm_E} : qf_P E 100 := qf_eq (by decide) rfl
theorem qf_101 {E : qm_E} : qf_P E 101 := qf_eq (by decide) rfl
theorem qf_102 {E : qm_E} : qf_P E 102 := qf_eq (by decide) rfl
theorem qf_103 {E : qm_E} : qf_P E 103 := qf_eq (by decide) rfl
theorem qf_104 {E : qm_E} : qf_P E 104 := qf_eq (by decide) rfl
theorem qf_105 {E : qm_E} : qf_P E 105 := qf_eq (by decide) rfl
theorem qf_106 {E : qm_E} : qf_P E 106 := qf_eq (by decide) rfl
theorem qf_107 {E : qm_E} : qf_P E 107 := qf_eq (by decide) rfl
theorem qf_108 {E : qm_E} : qf_P E 108 := qf_eq (by decide) rfl
theorem qf_109 {E : qm_E} : qf_P E 109 := qf_eq (by decide) rfl
theorem qf_110 {E : qm_E} : qf_P E 110 := qf_eq (by decide) rfl
theorem qf_128 {E : qm_E} : qf_P E 128 := qf_eq (by decide) rfl
theorem qf_129 {E : qm_E} : qf_P E 129 := qf_as 129 64 (by decide) rfl (by decide)
theorem qf_130 {E : qm_E} : qf_P E 130 := qf_eq (by decide) rfl
theorem qf_131 {E : qm_E} : qf_P E 131 := qf_eq (by decide) rfl
theorem qf_132 {E : qm_E} : qf_P E 132 := qf_eq (by decide) rfl
theorem qf_133 {E : qm_E} : qf_P E 133 := qf_eq (by decide) rfl
theorem qf_134 {E : qm_E} : qf_P E 134 := qf_eq (by decide) rfl
theorem qf_135 {E : qm_E} : qf_P E 135 := qf_eq (by decide) rfl
theorem qf_136 {E : qm_E} : qf_P E 136 := qf_eq (by decide) rfl
theorem qf_137 {E : qm_E} : qf_P E 137 := qf_eq (by decide) rfl
theorem qf_138 {E : qm_E} : qf_P E 138 := qf_eq (by decide) rfl
theorem qf_139 {E : qm_E} : qf_P E 139 := qf_eq (by decide) rfl
theorem qf_140 {E : qm_E} : qf_P E 140 := qf_eq (by decide) rfl
theorem qf_141 {E : qm_E} : qf_P E 141 := qf_eq (by decide) rfl
theorem qf_142 {E : qm_E} : qf_P E 142 := qf_eq (by decide) rfl
theorem qf_160 {E : qm_E} : qf_P E 160 := qf_eq (by decide) rfl
theorem qf_161 {E : qm_E} : qf_P E 161 := qf_as 161 79 (by decide) rfl (by decide)
theorem qf_162 {E : qm_E} : qf_P E 162 := qf_eq (by decide) rfl
theorem qf_163 {E : qm_E} : qf_P E 163 := qf_eq (by decide) rfl
theorem qf_164 {E : qm_E} : qf_P E 164 := qf_eq (by decide) rfl
theorem qf_165 {E : qm_E} : qf_P E 165 := qf_eq (by decide) rfl
theorem qf_166 {E : qm_E} : qf_P E 166 := qf_eq (by decide) rfl
theorem qf_167 {E : qm_E} : qf_P E 167 := qf_eq (by decide) rfl
theorem qf_168 {E : qm_E} : qf_P E 168 := qf_eq (by decide) rfl
theorem qf_169 {E : qm_E} : qf_P E 169 := qf_eq (by decide) rfl
theorem qf_170 {E : qm_E} : qf_P E 170 := qf_eq (by decide) rfl
theorem qf_171 {E : qm_E} : qf_P E 171 := qf_eq (by decide) rfl
theorem qf_172 {E : qm_E} : qf_P E 172 := qf_eq (by decide) rfl
theorem qf_173 {E : qm_E} : qf_P E 173 := qf_eq (by decide) rfl
theorem qf_174 {E : qm_E} : qf_P E 174 := qf_eq (by decide) rfl
theorem qf_200 {E : qm_E} : qf_P E 200 := qf_eq (by decide) rfl
theorem qf_202 {E : qm_E} : qf_P E 202 := qf_eq (by decide) rfl
theorem qf_203 {E : qm_E} : qf_P E 203 := qf_eq (by decide) rfl
theorem qf_204 {E : qm_E} : qf_P E 204 := qf_eq (by decide) rfl
theorem qf_205 {E : qm_E} : qf_P E 205 := qf_eq (by decide) rfl
theorem qf_206 {E : qm_E} : qf_P E 206 := qf_eq (by decide) rfl
theorem qf_207 {E : qm_E} : qf_P E 207 := qf_eq (by decide) rfl
theorem qf_208 {E : qm_E} : qf_P E 208 := qf_eq (by decide) rfl
theorem qf_209 {E : qm_E} : qf_P E 209 := qf_eq (by decide) rfl
theorem qf_210 {E : qm_E} : qf_P E 210 := qf_eq (by decide) rfl
theorem qf_211 {E : qm_E} : qf_P E 211 := qf_eq (by decide) rfl
theorem qf_212 {E : qm_E} : qf_P E 212 := qf_eq (by decide) rfl
theorem qf_213 {E : qm_E} : qf_P E 213 := qf_eq (by decide) rfl
theorem qf_214 {E : qm_E} : qf_P E 214 := qf_eq (by decide) rfl
theorem qf_215 {E : qm_E} : qf_P E 215 := qf_eq (by decide) rfl
theorem qf_216 {E : qm_E} : qf_P E 216 := qf_eq (by decide) rfl
theorem qf_217 {E : qm_E} : qf_P E 217 := qf_eq (by decide) rfl
theorem qf_c0 {E : qm_E} : ∀ id ∈ ([0, 1, 2, 3, 4, 5, 6, 7, 8, 9, 10, 11, 12, 13, 14] : List Nat), qf_P E id := List.forall_mem_cons.mpr ⟨qf_0, List.forall_mem_cons.mpr ⟨qf_1, List.forall_mem_cons.mpr ⟨qf_2, List.forall_mem_cons.mpr ⟨qf_3, List.forall_mem_cons.mpr ⟨qf_4, List.forall_mem_cons.mpr ⟨qf_5, List.forall_mem_cons.mpr ⟨qf_6, List.forall_mem_cons.mpr ⟨qf_7, List.forall_mem_cons.mpr ⟨qf_8, List.forall_mem_cons.mpr ⟨qf_9, List.forall_mem_cons.mpr ⟨qf_10, List.forall_mem_cons.mpr ⟨qf_11, List.forall_mem_cons.mpr ⟨qf_12, List.forall_mem_cons.mpr ⟨qf_13, List.forall_mem_cons.mpr ⟨qf_14, (fun _ h => absurd h List.not_mem_nil)⟩⟩⟩⟩⟩⟩⟩⟩⟩⟩⟩⟩⟩⟩⟩
theorem qf_c1 {E : qm_E} : ∀ id ∈ ([32, 33, 34, 35, 36, 37, 38, 39, 40, 41, 42, 43, 44, 45, 46] : List Nat), qf_P E id := List.forall_mem_cons.mpr ⟨qf_32, List.forall_mem_cons.mpr ⟨qf_33, List.forall_mem_cons.mpr ⟨qf_34, List.forall_mem_cons.mpr ⟨qf_35, List.forall_mem_cons.mpr ⟨qf_36, List.forall_mem_cons.mpr ⟨qf_37, List.forall_mem_cons.mpr ⟨qf_38, List.forall_mem_cons.mpr ⟨qf_39, List.forall_mem_cons.mpr ⟨qf_40, List.forall_mem_cons.mpr ⟨qf_41, List.forall_mem_cons.mpr ⟨qf_42, List.forall_mem_cons.mpr ⟨qf_43, List.forall_mem_cons.mpr ⟨qf_44, List.forall_mem_cons.mpr ⟨qf_45, List.forall_mem_cons.mpr ⟨qf_46, (fun _ h => absurd h List.not_mem_nil)⟩⟩⟩⟩⟩⟩⟩⟩⟩⟩⟩⟩⟩⟩⟩
theorem qf_c2 {E : qm_E} : ∀ id ∈ ([64, 65, 66, 67, 68, 69, 70, 71, 72, 73, 74, 75, 76, 77, 78] : List Nat), qf_P E id := List.forall_mem_cons.mpr ⟨qf_64, List.forall_mem_cons.mpr ⟨qf_65, List.forall_mem_cons.mpr ⟨qf_66, List.forall_mem_cons.mpr ⟨qf_67, List.forall_mem_cons.mpr ⟨qf_68, List.forall_mem_cons.mpr ⟨qf_69, List.forall_mem_cons.mpr ⟨qf_70, List.forall_mem_cons.mpr ⟨qf_71, List.forall_mem_cons.mpr ⟨qf_72, List.forall_mem_cons.mpr ⟨qf_73, List.forall_mem_cons.mpr ⟨qf_74, List.forall_mem_cons.mpr ⟨qf_75, List.forall_mem_cons.mpr ⟨qf_76, List.forall_mem_cons.mpr ⟨qf_77, List.forall_mem_cons.mpr ⟨qf_78, (fun _ h => absurd h List.not_mem_nil)⟩⟩⟩⟩⟩⟩⟩⟩⟩⟩⟩⟩⟩⟩⟩
theorem qf_c3 {E : qm_E} : ∀ id ∈ ([96, 97, 98, 99, 100, 101, 102, 103, 104, 105, 106, 107, 108, 109, 110] : List Nat), qf_P E id := List.forall_mem_cons.mpr ⟨qf_96, List.forall_mem_cons.mpr ⟨qf_97, List.forall_mem_cons.mpr ⟨qf_98, List.forall_mem_cons.mpr ⟨qf_99, List.forall_mem_cons.mpr ⟨qf_100, List.forall_mem_cons.mpr ⟨qf_101, List.forall_mem_cons.mpr ⟨qf_102, List.forall_mem_cons.mpr ⟨qf_103, List.forall_mem_cons.mpr ⟨qf_104, List.forall_mem_cons.mpr ⟨qf_105, List.forall_mem_cons.mpr ⟨qf_106, List.forall_mem_cons.mpr ⟨qf_107, List.forall_mem_cons.mpr ⟨qf_108, List.forall_mem_cons.mpr ⟨qf_109, List.forall_mem_cons.mpr ⟨qf_110, (fun _ h => absurd h List.not_mem_nil)⟩⟩⟩⟩⟩⟩⟩⟩⟩⟩⟩⟩⟩⟩⟩
theorem qf_c4 {E : qm_E} : ∀ id ∈ ([128, 129, 130, 131, 132, 133, 134, 135, 136, 137, 138, 139, 140, 141, 142] : List Nat), qf_P E id := List.forall_mem_cons.mpr ⟨qf_128, List.forall_mem_cons.mpr ⟨qf_129, List.forall_mem_cons.mpr ⟨qf_130, List.forall_mem_cons.mpr ⟨qf_131, List.forall_mem_cons.mpr ⟨qf_132, List.forall_mem_cons.mpr ⟨qf_133, List.forall_mem_cons.mpr ⟨qf_134, List.forall_mem_cons.mpr ⟨qf_135, List.forall_mem_cons.mpr ⟨qf_136, List.forall_mem_cons.mpr ⟨qf_137, List.forall_mem_cons.mpr ⟨qf_138, List.forall_mem_cons.mpr ⟨qf_139, List.forall_mem_cons.mpr ⟨qf_140, List.forall_mem_cons.mpr ⟨qf_141, List.forall_mem_cons.mpr ⟨qf_142, (fun _ h => absurd h List.not_mem_nil)⟩⟩⟩⟩⟩⟩⟩⟩⟩⟩⟩⟩⟩⟩⟩
theorem qf_c5 {E : qm_E} : ∀ id ∈ ([160, 161, 162, 163, 164, 165, 166, 167, 168, 169, 170, 171, 172, 173, 174] : List Nat), qf_P E id := List.forall_mem_cons.mpr ⟨qf_160, List.forall_mem_cons.mpr ⟨qf_161, List.forall_mem_cons.mpr ⟨qf_162, List.forall_mem_cons.mpr ⟨qf_163, List.forall_mem_cons.mpr ⟨qf_164, List.forall_mem_cons.mpr ⟨qf_165, List.forall_mem_cons.mpr ⟨qf_166, List.forall_mem_cons.mpr ⟨qf_167, List.forall_mem_cons.mpr ⟨qf_168, List.forall_mem_cons.mpr ⟨qf_169, List.forall_mem_cons.mpr ⟨qf_170, List.forall_mem_cons.mpr ⟨qf_171, List.forall_mem_cons.mpr ⟨qf_172, List.forall_mem_cons.mpr ⟨qf_173, List.forall_mem_cons.mpr ⟨qf_174, (fun _ h => absurd h List.not_mem_nil)⟩⟩⟩⟩⟩⟩⟩⟩⟩⟩⟩⟩⟩⟩⟩
theorem qf_c6 {E : qm_E} : ∀ id ∈ ([200, 201, 202, 203, 204, 205, 206, 207, 208, 209, 210, 211, 212, 213, 214] : List Nat), qf_P E id := List.forall_mem_cons.mpr ⟨qf_200, List.forall_mem_cons.mpr ⟨qf_201, List.forall_mem_cons.mpr ⟨qf_202, List.forall_mem_cons.mpr ⟨qf_203, List.forall_mem_cons.mpr ⟨qf_204, List.forall_mem_cons.mpr ⟨qf_205, List.forall_mem_cons.mpr ⟨qf_206, List.forall_mem_cons.mpr ⟨qf_207, List.forall_mem_cons.mpr ⟨qf_208, List.forall_mem_cons.mpr ⟨qf_209, List.forall_mem_cons.mpr ⟨qf_210, List.forall_mem_cons.mpr ⟨qf_211, List.forall_mem_cons.mpr ⟨qf_212, List.forall_mem_cons.mpr ⟨qf_213, List.forall_mem_cons.mpr ⟨qf_214, (fun _ h => absurd h List.not_mem_nil)⟩⟩⟩⟩⟩⟩⟩⟩⟩⟩⟩⟩⟩⟩⟩
theorem qf_c7 {E : qm_E} : ∀ id ∈ ([215, 216, 217] : List Nat), qf_P E id := List.forall_mem_cons.mpr ⟨qf_215, List.forall_mem_cons.mpr ⟨qf_216, List.forall_mem_cons.mpr ⟨qf_217, (fun _ h => absurd h List.not_mem_nil)⟩⟩⟩
def qf_ids : List Nat := ([0, 1, 2, 3, 4, 5, 6, 7, 8, 9, 10, 11, 12, 13, 14] : List Nat) ++ (([32, 33, 34, 35, 36, 37, 38, 39, 40, 41, 42, 43, 44, 45, 46] : List Nat) ++ (([64, 65, 66, 67, 68, 69, 70, 71, 72, 73, 74, 75, 76, 77, 78] : List Nat) ++ (([96, 97, 98, 99, 100, 101, 102, 103, 104, 105, 106, 107, 108, 109, 110] : List Nat) ++ (([128, 129, 130, 131, 132, 133, 134, 135, 136, 137, 138, 139, 140, 141, 142] : List Nat) ++ (([160, 161, 162, 163, 164, 165, 166, 167, 168, 169, 170, 171, 172, 173, 174] : List Nat) ++ (([200, 201, 202, 203, 204, 205, 206, 207, 208, 209, 210, 211, 212, 213, 214] : List Nat) ++ (([215, 216, 217] : List Nat))))))))
theorem qf_all {E : qm_E} : ∀ id ∈ qf_ids, qf_P E id := List.forall_mem_append.mpr ⟨qf_c0, List.forall_mem_append.mpr ⟨qf_c1, List.forall_mem_append.mpr ⟨qf_c2, List.forall_mem_append.mpr ⟨qf_c3, List.forall_mem_append.mpr ⟨qf_c4, List.forall_mem_append.mpr ⟨qf_c5, List.forall_mem_append.mpr ⟨qf_c6, qf_c7⟩⟩⟩⟩⟩⟩⟩
theorem qf_mem : ∀ id, id < 218 → qm_kind id ≠ 0 → id ∈ qf_ids := by decide +kernel
theorem qf_fin {E : qm_E} {H : Heap} (h : qc_W E 108 (qh_m E) H) : qm_H E qm_0 H := fun id hid => qf_all id (qf_mem id (qm_kind_big hid) hid) H (h.2 _ (qm_inv_off id (qm_kind_big hid) hid).2)
