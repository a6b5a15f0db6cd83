/-! the words: all good ones of the Statement's tables, and 'selects' of the private methods -/
def am_ws : List Cond := lw_tbl.filter goodWord
theorem am_ws_in {w : Cond} (h : w ∈ am_ws) : w ∈ lw_tbl := (List.mem_filter.mp h).1
theorem am_good (w : Cond) (h : w ∈ am_ws) : (w.onTables && w.keeps) = true ∨ ∃ ty, w = .arrayClass ty := good_of_word (List.mem_filter.mp h).2
theorem am_in1 {w : Cond} (i : Nat) (h : tables_1[i]? = some w) (hg : goodWord w = true) : w ∈ am_ws := List.mem_filter.mpr ⟨List.mem_append_right _ (List.mem_of_getElem? h), hg⟩
theorem am_in2 {w : Cond} {q : MethodName × Nat} (hq : q ∈ lw_privs) (h : w = Cond.selects q.1.cls q.1 q.1) (hg : goodWord w = true) : w ∈ am_ws := List.mem_filter.mpr ⟨List.mem_append_left _ (List.mem_map.mpr ⟨q, hq, h.symm⟩), hg⟩
theorem am_fk0 {ci j : Nat} (h : am_fk ci j = 0) : am_T ci j = .int := by
  unfold am_fk at h
  split at h
  · assumption
  · cases h
  · cases h
theorem am_fk1 {ci j : Nat} (h : am_fk ci j = 1) : am_T ci j = .boolean := by
  unfold am_fk at h
  split at h
  · cases h
  · assumption
  · cases h
theorem am_l_0_0 : u_lay (am_cn 0) (am_F 0) 0 ∈ am_ws := am_in1 256 (by decide +kernel) (by decide +kernel)
theorem am_l_0_1 : u_lay (am_cn 0) (am_F 0) 1 ∈ am_ws := am_in1 258 (by decide +kernel) (by decide +kernel)
theorem am_l_0_2 : u_lay (am_cn 0) (am_F 0) 2 ∈ am_ws := am_in1 260 (by decide +kernel) (by decide +kernel)
theorem am_l_0_3 : u_lay (am_cn 0) (am_F 0) 3 ∈ am_ws := am_in1 262 (by decide +kernel) (by decide +kernel)
theorem am_l_0_4 : u_lay (am_cn 0) (am_F 0) 4 ∈ am_ws := am_in1 264 (by decide +kernel) (by decide +kernel)
theorem am_l_0_5 : u_lay (am_cn 0) (am_F 0) 5 ∈ am_ws := am_in1 266 (by decide +kernel) (by decide +kernel)
theorem am_l_0_6 : u_lay (am_cn 0) (am_F 0) 6 ∈ am_ws := am_in1 268 (by decide +kernel) (by decide +kernel)
theorem am_u_0 : ∀ w ∈ u_ws (am_cn 0) (am_F 0) 7, w ∈ am_ws := by
  intro w hw
  obtain ⟨k, hk, rfl⟩ := List.mem_map.mp hw
  have hk := List.mem_range.mp hk
  match k, hk with
  | 0, _ => exact am_l_0_0
  | 1, _ => exact am_l_0_1
  | 2, _ => exact am_l_0_2
  | 3, _ => exact am_l_0_3
  | 4, _ => exact am_l_0_4
  | 5, _ => exact am_l_0_5
  | 6, _ => exact am_l_0_6
  | k + 7, hk => exact absurd hk (by omega)
theorem am_y_0 : ∀ k, k < 7 → parseFieldDescriptor (am_F 0 k).2.2.1 = some (am_T 0 k) := by decide +kernel
theorem am_n_0 : ∀ a, a < 7 → ∀ b, b < 7 → a ≠ b → (am_F 0 a).2.1 ≠ (am_F 0 b).2.1 := by decide +kernel
theorem am_l_1_0 : u_lay (am_cn 1) (am_F 1) 0 ∈ am_ws := am_in1 286 (by decide +kernel) (by decide +kernel)
theorem am_l_1_1 : u_lay (am_cn 1) (am_F 1) 1 ∈ am_ws := am_in1 288 (by decide +kernel) (by decide +kernel)
theorem am_l_1_2 : u_lay (am_cn 1) (am_F 1) 2 ∈ am_ws := am_in1 290 (by decide +kernel) (by decide +kernel)
theorem am_l_1_3 : u_lay (am_cn 1) (am_F 1) 3 ∈ am_ws := am_in1 292 (by decide +kernel) (by decide +kernel)
theorem am_l_1_4 : u_lay (am_cn 1) (am_F 1) 4 ∈ am_ws := am_in1 294 (by decide +kernel) (by decide +kernel)
theorem am_l_1_5 : u_lay (am_cn 1) (am_F 1) 5 ∈ am_ws := am_in1 296 (by decide +kernel) (by decide +kernel)
theorem am_l_1_6 : u_lay (am_cn 1) (am_F 1) 6 ∈ am_ws := am_in1 298 (by decide +kernel) (by decide +kernel)
theorem am_l_1_7 : u_lay (am_cn 1) (am_F 1) 7 ∈ am_ws := am_in1 300 (by decide +kernel) (by decide +kernel)
theorem am_l_1_8 : u_lay (am_cn 1) (am_F 1) 8 ∈ am_ws := am_in1 302 (by decide +kernel) (by decide +kernel)
theorem am_u_1 : ∀ w ∈ u_ws (am_cn 1) (am_F 1) 9, w ∈ am_ws := by
  intro w hw
  obtain ⟨k, hk, rfl⟩ := List.mem_map.mp hw
  have hk := List.mem_range.mp hk
  match k, hk with
  | 0, _ => exact am_l_1_0
  | 1, _ => exact am_l_1_1
  | 2, _ => exact am_l_1_2
  | 3, _ => exact am_l_1_3
  | 4, _ => exact am_l_1_4
  | 5, _ => exact am_l_1_5
  | 6, _ => exact am_l_1_6
  | 7, _ => exact am_l_1_7
  | 8, _ => exact am_l_1_8
  | k + 9, hk => exact absurd hk (by omega)
theorem am_y_1 : ∀ k, k < 9 → parseFieldDescriptor (am_F 1 k).2.2.1 = some (am_T 1 k) := by decide +kernel
theorem am_n_1 : ∀ a, a < 9 → ∀ b, b < 9 → a ≠ b → (am_F 1 a).2.1 ≠ (am_F 1 b).2.1 := by decide +kernel
theorem am_l_2_0 : u_lay (am_cn 2) (am_F 2) 0 ∈ am_ws := am_in1 32 (by decide +kernel) (by decide +kernel)
theorem am_l_2_1 : u_lay (am_cn 2) (am_F 2) 1 ∈ am_ws := am_in1 34 (by decide +kernel) (by decide +kernel)
theorem am_l_2_2 : u_lay (am_cn 2) (am_F 2) 2 ∈ am_ws := am_in1 36 (by decide +kernel) (by decide +kernel)
theorem am_l_2_3 : u_lay (am_cn 2) (am_F 2) 3 ∈ am_ws := am_in1 38 (by decide +kernel) (by decide +kernel)
theorem am_l_2_4 : u_lay (am_cn 2) (am_F 2) 4 ∈ am_ws := am_in1 40 (by decide +kernel) (by decide +kernel)
theorem am_l_2_5 : u_lay (am_cn 2) (am_F 2) 5 ∈ am_ws := am_in1 42 (by decide +kernel) (by decide +kernel)
theorem am_l_2_6 : u_lay (am_cn 2) (am_F 2) 6 ∈ am_ws := am_in1 44 (by decide +kernel) (by decide +kernel)
theorem am_l_2_7 : u_lay (am_cn 2) (am_F 2) 7 ∈ am_ws := am_in1 46 (by decide +kernel) (by decide +kernel)
theorem am_u_2 : ∀ w ∈ u_ws (am_cn 2) (am_F 2) 8, w ∈ am_ws := by
  intro w hw
  obtain ⟨k, hk, rfl⟩ := List.mem_map.mp hw
  have hk := List.mem_range.mp hk
  match k, hk with
  | 0, _ => exact am_l_2_0
  | 1, _ => exact am_l_2_1
  | 2, _ => exact am_l_2_2
  | 3, _ => exact am_l_2_3
  | 4, _ => exact am_l_2_4
  | 5, _ => exact am_l_2_5
  | 6, _ => exact am_l_2_6
  | 7, _ => exact am_l_2_7
  | k + 8, hk => exact absurd hk (by omega)
theorem am_y_2 : ∀ k, k < 8 → parseFieldDescriptor (am_F 2 k).2.2.1 = some (am_T 2 k) := by decide +kernel
theorem am_n_2 : ∀ a, a < 8 → ∀ b, b < 8 → a ≠ b → (am_F 2 a).2.1 ≠ (am_F 2 b).2.1 := by decide +kernel
theorem am_l_3_0 : u_lay (am_cn 3) (am_F 3) 0 ∈ am_ws := am_in1 581 (by decide +kernel) (by decide +kernel)
theorem am_l_3_1 : u_lay (am_cn 3) (am_F 3) 1 ∈ am_ws := am_in1 583 (by decide +kernel) (by decide +kernel)
theorem am_l_3_2 : u_lay (am_cn 3) (am_F 3) 2 ∈ am_ws := am_in1 585 (by decide +kernel) (by decide +kernel)
theorem am_l_3_3 : u_lay (am_cn 3) (am_F 3) 3 ∈ am_ws := am_in1 587 (by decide +kernel) (by decide +kernel)
theorem am_l_3_4 : u_lay (am_cn 3) (am_F 3) 4 ∈ am_ws := am_in1 589 (by decide +kernel) (by decide +kernel)
theorem am_l_3_5 : u_lay (am_cn 3) (am_F 3) 5 ∈ am_ws := am_in1 591 (by decide +kernel) (by decide +kernel)
theorem am_l_3_6 : u_lay (am_cn 3) (am_F 3) 6 ∈ am_ws := am_in1 593 (by decide +kernel) (by decide +kernel)
theorem am_l_3_7 : u_lay (am_cn 3) (am_F 3) 7 ∈ am_ws := am_in1 595 (by decide +kernel) (by decide +kernel)
theorem am_l_3_8 : u_lay (am_cn 3) (am_F 3) 8 ∈ am_ws := am_in1 597 (by decide +kernel) (by decide +kernel)
theorem am_l_3_9 : u_lay (am_cn 3) (am_F 3) 9 ∈ am_ws := am_in1 599 (by decide +kernel) (by decide +kernel)
theorem am_l_3_10 : u_lay (am_cn 3) (am_F 3) 10 ∈ am_ws := am_in1 601 (by decide +kernel) (by decide +kernel)
theorem am_l_3_11 : u_lay (am_cn 3) (am_F 3) 11 ∈ am_ws := am_in1 603 (by decide +kernel) (by decide +kernel)
theorem am_l_3_12 : u_lay (am_cn 3) (am_F 3) 12 ∈ am_ws := am_in1 605 (by decide +kernel) (by decide +kernel)
theorem am_l_3_13 : u_lay (am_cn 3) (am_F 3) 13 ∈ am_ws := am_in1 607 (by decide +kernel) (by decide +kernel)
theorem am_l_3_14 : u_lay (am_cn 3) (am_F 3) 14 ∈ am_ws := am_in1 609 (by decide +kernel) (by decide +kernel)
theorem am_l_3_15 : u_lay (am_cn 3) (am_F 3) 15 ∈ am_ws := am_in1 611 (by decide +kernel) (by decide +kernel)
theorem am_l_3_16 : u_lay (am_cn 3) (am_F 3) 16 ∈ am_ws := am_in1 613 (by decide +kernel) (by decide +kernel)
theorem am_l_3_17 : u_lay (am_cn 3) (am_F 3) 17 ∈ am_ws := am_in1 615 (by decide +kernel) (by decide +kernel)
theorem am_l_3_18 : u_lay (am_cn 3) (am_F 3) 18 ∈ am_ws := am_in1 617 (by decide +kernel) (by decide +kernel)
theorem am_l_3_19 : u_lay (am_cn 3) (am_F 3) 19 ∈ am_ws := am_in1 619 (by decide +kernel) (by decide +kernel)
theorem am_l_3_20 : u_lay (am_cn 3) (am_F 3) 20 ∈ am_ws := am_in1 621 (by decide +kernel) (by decide +kernel)
theorem am_l_3_21 : u_lay (am_cn 3) (am_F 3) 21 ∈ am_ws := am_in1 623 (by decide +kernel) (by decide +kernel)
theorem am_l_3_22 : u_lay (am_cn 3) (am_F 3) 22 ∈ am_ws := am_in1 625 (by decide +kernel) (by decide +kernel)
theorem am_l_3_23 : u_lay (am_cn 3) (am_F 3) 23 ∈ am_ws := am_in1 627 (by decide +kernel) (by decide +kernel)
theorem am_l_3_24 : u_lay (am_cn 3) (am_F 3) 24 ∈ am_ws := am_in1 629 (by decide +kernel) (by decide +kernel)
theorem am_l_3_25 : u_lay (am_cn 3) (am_F 3) 25 ∈ am_ws := am_in1 631 (by decide +kernel) (by decide +kernel)
theorem am_l_3_26 : u_lay (am_cn 3) (am_F 3) 26 ∈ am_ws := am_in1 633 (by decide +kernel) (by decide +kernel)
theorem am_l_3_27 : u_lay (am_cn 3) (am_F 3) 27 ∈ am_ws := am_in1 635 (by decide +kernel) (by decide +kernel)
theorem am_l_3_28 : u_lay (am_cn 3) (am_F 3) 28 ∈ am_ws := am_in1 637 (by decide +kernel) (by decide +kernel)
theorem am_l_3_29 : u_lay (am_cn 3) (am_F 3) 29 ∈ am_ws := am_in1 639 (by decide +kernel) (by decide +kernel)
theorem am_l_3_30 : u_lay (am_cn 3) (am_F 3) 30 ∈ am_ws := am_in1 641 (by decide +kernel) (by decide +kernel)
theorem am_u_3 : ∀ w ∈ u_ws (am_cn 3) (am_F 3) 31, w ∈ am_ws := by
  intro w hw
  obtain ⟨k, hk, rfl⟩ := List.mem_map.mp hw
  have hk := List.mem_range.mp hk
  match k, hk with
  | 0, _ => exact am_l_3_0
  | 1, _ => exact am_l_3_1
  | 2, _ => exact am_l_3_2
  | 3, _ => exact am_l_3_3
  | 4, _ => exact am_l_3_4
  | 5, _ => exact am_l_3_5
  | 6, _ => exact am_l_3_6
  | 7, _ => exact am_l_3_7
  | 8, _ => exact am_l_3_8
  | 9, _ => exact am_l_3_9
  | 10, _ => exact am_l_3_10
  | 11, _ => exact am_l_3_11
  | 12, _ => exact am_l_3_12
  | 13, _ => exact am_l_3_13
  | 14, _ => exact am_l_3_14
  | 15, _ => exact am_l_3_15
  | 16, _ => exact am_l_3_16
  | 17, _ => exact am_l_3_17
  | 18, _ => exact am_l_3_18
  | 19, _ => exact am_l_3_19
  | 20, _ => exact am_l_3_20
  | 21, _ => exact am_l_3_21
  | 22, _ => exact am_l_3_22
  | 23, _ => exact am_l_3_23
  | 24, _ => exact am_l_3_24
  | 25, _ => exact am_l_3_25
  | 26, _ => exact am_l_3_26
  | 27, _ => exact am_l_3_27
  | 28, _ => exact am_l_3_28
  | 29, _ => exact am_l_3_29
  | 30, _ => exact am_l_3_30
  | k + 31, hk => exact absurd hk (by omega)
theorem am_y_3 : ∀ k, k < 31 → parseFieldDescriptor (am_F 3 k).2.2.1 = some (am_T 3 k) := by decide +kernel
theorem am_n_3 : ∀ a, a < 31 → ∀ b, b < 31 → a ≠ b → (am_F 3 a).2.1 ≠ (am_F 3 b).2.1 := by decide +kernel
def am_FP (m idx ci j : Nat) : Prop := ∃ (C : String) (T : u_T) (N : Nat) (ty0 : Nat → FieldType), am_cl[ci]? = some (C, T, N) ∧ N = am_nf ci ∧ j < N ∧ (∀ w ∈ u_ws C T N, w ∈ am_ws) ∧ (Cond.fieldLink (am_y m).cls idx (T j).1 (T j).2.1 (T j).2.2.1 ∈ am_ws) ∧ (∀ k, k < N → parseFieldDescriptor (T k).2.2.1 = some (ty0 k)) ∧ (∀ a, a < N → ∀ b, b < N → a ≠ b → (T a).2.1 ≠ (T b).2.1) ∧ (am_wr ci j = true → (T j).2.2.2 = false) ∧ (am_fk ci j = 0 → ty0 j = .int) ∧ (am_fk ci j = 1 → ty0 j = .boolean)
theorem am_FPo {m idx ci j oc : Nat} (hm : (am_y m).cls = am_cn oc) (h4 : ci < 4) (hj : j < am_nf ci) (hl : Cond.fieldLink (am_cn oc) idx (am_F ci j).1 (am_F ci j).2.1 (am_F ci j).2.2.1 ∈ am_ws) : am_FP m idx ci j := by
  have hw : am_wr ci j = true → (am_F ci j).2.2.2 = false := fun h => by simpa [am_wr] using h
  rw [← hm] at hl
  rcases (show ci = 0 ∨ ci = 1 ∨ ci = 2 ∨ ci = 3 by omega) with rfl | rfl | rfl | rfl
  · exact ⟨_, _, _, _, rfl, rfl, hj, am_u_0, hl, am_y_0, am_n_0, hw, am_fk0, am_fk1⟩
  · exact ⟨_, _, _, _, rfl, rfl, hj, am_u_1, hl, am_y_1, am_n_1, hw, am_fk0, am_fk1⟩
  · exact ⟨_, _, _, _, rfl, rfl, hj, am_u_2, hl, am_y_2, am_n_2, hw, am_fk0, am_fk1⟩
  · exact ⟨_, _, _, _, rfl, rfl, hj, am_u_3, hl, am_y_3, am_n_3, hw, am_fk0, am_fk1⟩
theorem am_oc_ok : ∀ m, m < 122 → (am_y m).cls = am_cn (am_oc m) := by decide +kernel
theorem am_row_out {m : Nat} (h : 122 ≤ m) : am_row m = (⟨"", "", ""⟩, ⟨#[]⟩, 0, none, [], 99, 99, 0) := by
  unfold am_row
  have h1 : am_tb[m]? = none := List.getElem?_eq_none (Nat.le_trans (show am_tb.length ≤ 122 by decide +kernel) h)
  rw [List.getD_eq_getElem?_getD, h1]
  rfl
theorem am_find_mem {α : Type} {l : List (Nat × α)} {i : Nat} {v : α} (h : (l.find? (fun e => e.1 == i)).map (fun e => e.2) = some v) : (i, v) ∈ l := by
  cases hf : l.find? (fun e => e.1 == i) with
  | none => rw [hf] at h; cases h
  | some e =>
    rw [hf] at h
    have h1 := List.find?_some hf
    have h2 := List.mem_of_find?_eq_some hf
    cases h
    have h3 : e.1 = i := by simpa using h1
    rw [← h3]
    exact h2
theorem am_f_2_9 : Cond.fieldLink (am_cn 2) 9 (am_F 2 0).1 (am_F 2 0).2.1 (am_F 2 0).2.2.1 ∈ am_ws := am_in1 24 (by decide +kernel) (by decide +kernel)
theorem am_f_2_15 : Cond.fieldLink (am_cn 2) 15 (am_F 2 1).1 (am_F 2 1).2.1 (am_F 2 1).2.2.1 ∈ am_ws := am_in1 25 (by decide +kernel) (by decide +kernel)
theorem am_f_2_19 : Cond.fieldLink (am_cn 2) 19 (am_F 2 2).1 (am_F 2 2).2.1 (am_F 2 2).2.2.1 ∈ am_ws := am_in1 26 (by decide +kernel) (by decide +kernel)
theorem am_f_2_22 : Cond.fieldLink (am_cn 2) 22 (am_F 2 3).1 (am_F 2 3).2.1 (am_F 2 3).2.2.1 ∈ am_ws := am_in1 27 (by decide +kernel) (by decide +kernel)
theorem am_f_2_38 : Cond.fieldLink (am_cn 2) 38 (am_F 2 4).1 (am_F 2 4).2.1 (am_F 2 4).2.2.1 ∈ am_ws := am_in1 28 (by decide +kernel) (by decide +kernel)
theorem am_f_2_133 : Cond.fieldLink (am_cn 2) 133 (am_F 2 5).1 (am_F 2 5).2.1 (am_F 2 5).2.2.1 ∈ am_ws := am_in1 29 (by decide +kernel) (by decide +kernel)
theorem am_f_2_130 : Cond.fieldLink (am_cn 2) 130 (am_F 2 6).1 (am_F 2 6).2.1 (am_F 2 6).2.2.1 ∈ am_ws := am_in1 30 (by decide +kernel) (by decide +kernel)
theorem am_f_2_47 : Cond.fieldLink (am_cn 2) 47 (am_F 2 7).1 (am_F 2 7).2.1 (am_F 2 7).2.2.1 ∈ am_ws := am_in1 31 (by decide +kernel) (by decide +kernel)
theorem am_f_0_9 : Cond.fieldLink (am_cn 0) 9 (am_F 0 0).1 (am_F 0 0).2.1 (am_F 0 0).2.2.1 ∈ am_ws := am_in1 244 (by decide +kernel) (by decide +kernel)
theorem am_f_2_94 : Cond.fieldLink (am_cn 2) 94 (am_F 0 0).1 (am_F 0 0).2.1 (am_F 0 0).2.2.1 ∈ am_ws := am_in1 245 (by decide +kernel) (by decide +kernel)
theorem am_f_0_15 : Cond.fieldLink (am_cn 0) 15 (am_F 0 1).1 (am_F 0 1).2.1 (am_F 0 1).2.2.1 ∈ am_ws := am_in1 246 (by decide +kernel) (by decide +kernel)
theorem am_f_1_50 : Cond.fieldLink (am_cn 1) 50 (am_F 0 1).1 (am_F 0 1).2.1 (am_F 0 1).2.2.1 ∈ am_ws := am_in1 247 (by decide +kernel) (by decide +kernel)
theorem am_f_2_148 : Cond.fieldLink (am_cn 2) 148 (am_F 0 1).1 (am_F 0 1).2.1 (am_F 0 1).2.2.1 ∈ am_ws := am_in1 248 (by decide +kernel) (by decide +kernel)
theorem am_f_0_19 : Cond.fieldLink (am_cn 0) 19 (am_F 0 2).1 (am_F 0 2).2.1 (am_F 0 2).2.2.1 ∈ am_ws := am_in1 249 (by decide +kernel) (by decide +kernel)
theorem am_f_1_89 : Cond.fieldLink (am_cn 1) 89 (am_F 0 2).1 (am_F 0 2).2.1 (am_F 0 2).2.2.1 ∈ am_ws := am_in1 250 (by decide +kernel) (by decide +kernel)
theorem am_f_2_160 : Cond.fieldLink (am_cn 2) 160 (am_F 0 2).1 (am_F 0 2).2.1 (am_F 0 2).2.2.1 ∈ am_ws := am_in1 251 (by decide +kernel) (by decide +kernel)
theorem am_f_1_80 : Cond.fieldLink (am_cn 1) 80 (am_F 0 3).1 (am_F 0 3).2.1 (am_F 0 3).2.2.1 ∈ am_ws := am_in1 252 (by decide +kernel) (by decide +kernel)
theorem am_f_1_74 : Cond.fieldLink (am_cn 1) 74 (am_F 0 4).1 (am_F 0 4).2.1 (am_F 0 4).2.2.1 ∈ am_ws := am_in1 253 (by decide +kernel) (by decide +kernel)
theorem am_f_1_77 : Cond.fieldLink (am_cn 1) 77 (am_F 0 5).1 (am_F 0 5).2.1 (am_F 0 5).2.2.1 ∈ am_ws := am_in1 254 (by decide +kernel) (by decide +kernel)
theorem am_f_1_86 : Cond.fieldLink (am_cn 1) 86 (am_F 0 6).1 (am_F 0 6).2.1 (am_F 0 6).2.2.1 ∈ am_ws := am_in1 255 (by decide +kernel) (by decide +kernel)
theorem am_f_1_15 : Cond.fieldLink (am_cn 1) 15 (am_F 1 0).1 (am_F 1 0).2.1 (am_F 1 0).2.2.1 ∈ am_ws := am_in1 271 (by decide +kernel) (by decide +kernel)
theorem am_f_2_182 : Cond.fieldLink (am_cn 2) 182 (am_F 1 0).1 (am_F 1 0).2.1 (am_F 1 0).2.2.1 ∈ am_ws := am_in1 272 (by decide +kernel) (by decide +kernel)
theorem am_f_1_19 : Cond.fieldLink (am_cn 1) 19 (am_F 1 1).1 (am_F 1 1).2.1 (am_F 1 1).2.2.1 ∈ am_ws := am_in1 273 (by decide +kernel) (by decide +kernel)
theorem am_f_2_139 : Cond.fieldLink (am_cn 2) 139 (am_F 1 1).1 (am_F 1 1).2.1 (am_F 1 1).2.2.1 ∈ am_ws := am_in1 274 (by decide +kernel) (by decide +kernel)
theorem am_f_1_22 : Cond.fieldLink (am_cn 1) 22 (am_F 1 2).1 (am_F 1 2).2.1 (am_F 1 2).2.2.1 ∈ am_ws := am_in1 275 (by decide +kernel) (by decide +kernel)
theorem am_f_1_25 : Cond.fieldLink (am_cn 1) 25 (am_F 1 3).1 (am_F 1 3).2.1 (am_F 1 3).2.2.1 ∈ am_ws := am_in1 276 (by decide +kernel) (by decide +kernel)
theorem am_f_2_236 : Cond.fieldLink (am_cn 2) 236 (am_F 1 3).1 (am_F 1 3).2.1 (am_F 1 3).2.2.1 ∈ am_ws := am_in1 277 (by decide +kernel) (by decide +kernel)
theorem am_f_1_28 : Cond.fieldLink (am_cn 1) 28 (am_F 1 4).1 (am_F 1 4).2.1 (am_F 1 4).2.2.1 ∈ am_ws := am_in1 278 (by decide +kernel) (by decide +kernel)
theorem am_f_2_220 : Cond.fieldLink (am_cn 2) 220 (am_F 1 4).1 (am_F 1 4).2.1 (am_F 1 4).2.2.1 ∈ am_ws := am_in1 279 (by decide +kernel) (by decide +kernel)
theorem am_f_1_34 : Cond.fieldLink (am_cn 1) 34 (am_F 1 5).1 (am_F 1 5).2.1 (am_F 1 5).2.2.1 ∈ am_ws := am_in1 280 (by decide +kernel) (by decide +kernel)
theorem am_f_2_102 : Cond.fieldLink (am_cn 2) 102 (am_F 1 5).1 (am_F 1 5).2.1 (am_F 1 5).2.2.1 ∈ am_ws := am_in1 281 (by decide +kernel) (by decide +kernel)
theorem am_f_1_39 : Cond.fieldLink (am_cn 1) 39 (am_F 1 6).1 (am_F 1 6).2.1 (am_F 1 6).2.2.1 ∈ am_ws := am_in1 282 (by decide +kernel) (by decide +kernel)
theorem am_f_1_9 : Cond.fieldLink (am_cn 1) 9 (am_F 1 7).1 (am_F 1 7).2.1 (am_F 1 7).2.2.1 ∈ am_ws := am_in1 283 (by decide +kernel) (by decide +kernel)
theorem am_f_2_127 : Cond.fieldLink (am_cn 2) 127 (am_F 1 7).1 (am_F 1 7).2.1 (am_F 1 7).2.2.1 ∈ am_ws := am_in1 284 (by decide +kernel) (by decide +kernel)
theorem am_f_1_96 : Cond.fieldLink (am_cn 1) 96 (am_F 1 8).1 (am_F 1 8).2.1 (am_F 1 8).2.2.1 ∈ am_ws := am_in1 285 (by decide +kernel) (by decide +kernel)
theorem am_f_3_83 : Cond.fieldLink (am_cn 3) 83 (am_F 3 0).1 (am_F 3 0).2.1 (am_F 3 0).2.2.1 ∈ am_ws := am_in1 550 (by decide +kernel) (by decide +kernel)
theorem am_f_3_131 : Cond.fieldLink (am_cn 3) 131 (am_F 3 1).1 (am_F 3 1).2.1 (am_F 3 1).2.2.1 ∈ am_ws := am_in1 551 (by decide +kernel) (by decide +kernel)
theorem am_f_3_177 : Cond.fieldLink (am_cn 3) 177 (am_F 3 2).1 (am_F 3 2).2.1 (am_F 3 2).2.2.1 ∈ am_ws := am_in1 552 (by decide +kernel) (by decide +kernel)
theorem am_f_3_7 : Cond.fieldLink (am_cn 3) 7 (am_F 3 3).1 (am_F 3 3).2.1 (am_F 3 3).2.2.1 ∈ am_ws := am_in1 553 (by decide +kernel) (by decide +kernel)
theorem am_f_3_13 : Cond.fieldLink (am_cn 3) 13 (am_F 3 4).1 (am_F 3 4).2.1 (am_F 3 4).2.2.1 ∈ am_ws := am_in1 554 (by decide +kernel) (by decide +kernel)
theorem am_f_3_16 : Cond.fieldLink (am_cn 3) 16 (am_F 3 5).1 (am_F 3 5).2.1 (am_F 3 5).2.2.1 ∈ am_ws := am_in1 555 (by decide +kernel) (by decide +kernel)
theorem am_f_3_19 : Cond.fieldLink (am_cn 3) 19 (am_F 3 6).1 (am_F 3 6).2.1 (am_F 3 6).2.2.1 ∈ am_ws := am_in1 556 (by decide +kernel) (by decide +kernel)
theorem am_f_3_22 : Cond.fieldLink (am_cn 3) 22 (am_F 3 7).1 (am_F 3 7).2.1 (am_F 3 7).2.2.1 ∈ am_ws := am_in1 557 (by decide +kernel) (by decide +kernel)
theorem am_f_3_26 : Cond.fieldLink (am_cn 3) 26 (am_F 3 8).1 (am_F 3 8).2.1 (am_F 3 8).2.2.1 ∈ am_ws := am_in1 558 (by decide +kernel) (by decide +kernel)
theorem am_f_3_29 : Cond.fieldLink (am_cn 3) 29 (am_F 3 9).1 (am_F 3 9).2.1 (am_F 3 9).2.2.1 ∈ am_ws := am_in1 559 (by decide +kernel) (by decide +kernel)
theorem am_f_3_32 : Cond.fieldLink (am_cn 3) 32 (am_F 3 10).1 (am_F 3 10).2.1 (am_F 3 10).2.2.1 ∈ am_ws := am_in1 560 (by decide +kernel) (by decide +kernel)
theorem am_f_3_35 : Cond.fieldLink (am_cn 3) 35 (am_F 3 11).1 (am_F 3 11).2.1 (am_F 3 11).2.2.1 ∈ am_ws := am_in1 561 (by decide +kernel) (by decide +kernel)
theorem am_f_3_38 : Cond.fieldLink (am_cn 3) 38 (am_F 3 12).1 (am_F 3 12).2.1 (am_F 3 12).2.2.1 ∈ am_ws := am_in1 562 (by decide +kernel) (by decide +kernel)
theorem am_f_3_41 : Cond.fieldLink (am_cn 3) 41 (am_F 3 13).1 (am_F 3 13).2.1 (am_F 3 13).2.2.1 ∈ am_ws := am_in1 563 (by decide +kernel) (by decide +kernel)
theorem am_f_3_44 : Cond.fieldLink (am_cn 3) 44 (am_F 3 14).1 (am_F 3 14).2.1 (am_F 3 14).2.2.1 ∈ am_ws := am_in1 564 (by decide +kernel) (by decide +kernel)
theorem am_f_3_47 : Cond.fieldLink (am_cn 3) 47 (am_F 3 15).1 (am_F 3 15).2.1 (am_F 3 15).2.2.1 ∈ am_ws := am_in1 565 (by decide +kernel) (by decide +kernel)
theorem am_f_3_50 : Cond.fieldLink (am_cn 3) 50 (am_F 3 16).1 (am_F 3 16).2.1 (am_F 3 16).2.2.1 ∈ am_ws := am_in1 566 (by decide +kernel) (by decide +kernel)
theorem am_f_3_91 : Cond.fieldLink (am_cn 3) 91 (am_F 3 17).1 (am_F 3 17).2.1 (am_F 3 17).2.2.1 ∈ am_ws := am_in1 567 (by decide +kernel) (by decide +kernel)
theorem am_f_3_53 : Cond.fieldLink (am_cn 3) 53 (am_F 3 18).1 (am_F 3 18).2.1 (am_F 3 18).2.2.1 ∈ am_ws := am_in1 568 (by decide +kernel) (by decide +kernel)
theorem am_f_3_134 : Cond.fieldLink (am_cn 3) 134 (am_F 3 19).1 (am_F 3 19).2.1 (am_F 3 19).2.2.1 ∈ am_ws := am_in1 569 (by decide +kernel) (by decide +kernel)
theorem am_f_3_154 : Cond.fieldLink (am_cn 3) 154 (am_F 3 20).1 (am_F 3 20).2.1 (am_F 3 20).2.2.1 ∈ am_ws := am_in1 570 (by decide +kernel) (by decide +kernel)
theorem am_f_3_56 : Cond.fieldLink (am_cn 3) 56 (am_F 3 21).1 (am_F 3 21).2.1 (am_F 3 21).2.2.1 ∈ am_ws := am_in1 571 (by decide +kernel) (by decide +kernel)
theorem am_f_3_59 : Cond.fieldLink (am_cn 3) 59 (am_F 3 22).1 (am_F 3 22).2.1 (am_F 3 22).2.2.1 ∈ am_ws := am_in1 572 (by decide +kernel) (by decide +kernel)
theorem am_f_3_102 : Cond.fieldLink (am_cn 3) 102 (am_F 3 23).1 (am_F 3 23).2.1 (am_F 3 23).2.2.1 ∈ am_ws := am_in1 573 (by decide +kernel) (by decide +kernel)
theorem am_f_3_62 : Cond.fieldLink (am_cn 3) 62 (am_F 3 24).1 (am_F 3 24).2.1 (am_F 3 24).2.2.1 ∈ am_ws := am_in1 574 (by decide +kernel) (by decide +kernel)
theorem am_f_3_65 : Cond.fieldLink (am_cn 3) 65 (am_F 3 25).1 (am_F 3 25).2.1 (am_F 3 25).2.2.1 ∈ am_ws := am_in1 575 (by decide +kernel) (by decide +kernel)
theorem am_f_3_68 : Cond.fieldLink (am_cn 3) 68 (am_F 3 26).1 (am_F 3 26).2.1 (am_F 3 26).2.2.1 ∈ am_ws := am_in1 576 (by decide +kernel) (by decide +kernel)
theorem am_f_3_71 : Cond.fieldLink (am_cn 3) 71 (am_F 3 27).1 (am_F 3 27).2.1 (am_F 3 27).2.2.1 ∈ am_ws := am_in1 577 (by decide +kernel) (by decide +kernel)
theorem am_f_3_74 : Cond.fieldLink (am_cn 3) 74 (am_F 3 28).1 (am_F 3 28).2.1 (am_F 3 28).2.2.1 ∈ am_ws := am_in1 578 (by decide +kernel) (by decide +kernel)
theorem am_f_3_77 : Cond.fieldLink (am_cn 3) 77 (am_F 3 29).1 (am_F 3 29).2.1 (am_F 3 29).2.2.1 ∈ am_ws := am_in1 579 (by decide +kernel) (by decide +kernel)
theorem am_f_3_80 : Cond.fieldLink (am_cn 3) 80 (am_F 3 30).1 (am_F 3 30).2.1 (am_F 3 30).2.2.1 ∈ am_ws := am_in1 580 (by decide +kernel) (by decide +kernel)
theorem am_fact_f {m idx ci j : Nat} (h : am_fl m idx = some (ci, j)) : am_FP m idx ci j := by
  have hm : m < 122 := by
    rcases Nat.lt_or_ge m 122 with hm | hm
    · exact hm
    · have : am_oc m = 99 := by unfold am_oc; rw [am_row_out hm]
      unfold am_fl at h
      rw [this] at h
      cases h
  have hc := am_oc_ok m hm
  have h1 := am_find_mem h
  revert hc h1
  generalize am_oc m = oc
  intro hc h1
  match oc, h1 with
  | 0, h1 =>
    simp only [am_ft, List.mem_cons, List.not_mem_nil, or_false, Prod.mk.injEq] at h1
    rcases h1 with ⟨rfl, rfl, rfl⟩ | ⟨rfl, rfl, rfl⟩ | ⟨rfl, rfl, rfl⟩
    · exact am_FPo hc (by decide) (by decide) am_f_0_9
    · exact am_FPo hc (by decide) (by decide) am_f_0_15
    · exact am_FPo hc (by decide) (by decide) am_f_0_19
  | 1, h1 =>
    simp only [am_ft, List.mem_cons, List.not_mem_nil, or_false, Prod.mk.injEq] at h1
    rcases h1 with ⟨rfl, rfl, rfl⟩ | ⟨rfl, rfl, rfl⟩ | ⟨rfl, rfl, rfl⟩ | ⟨rfl, rfl, rfl⟩ | ⟨rfl, rfl, rfl⟩ | ⟨rfl, rfl, rfl⟩ | ⟨rfl, rfl, rfl⟩ | ⟨rfl, rfl, rfl⟩ | ⟨rfl, rfl, rfl⟩ | ⟨rfl, rfl, rfl⟩ | ⟨rfl, rfl, rfl⟩ | ⟨rfl, rfl, rfl⟩ | ⟨rfl, rfl, rfl⟩ | ⟨rfl, rfl, rfl⟩ | ⟨rfl, rfl, rfl⟩
    · exact am_FPo hc (by decide) (by decide) am_f_1_50
    · exact am_FPo hc (by decide) (by decide) am_f_1_89
    · exact am_FPo hc (by decide) (by decide) am_f_1_80
    · exact am_FPo hc (by decide) (by decide) am_f_1_74
    · exact am_FPo hc (by decide) (by decide) am_f_1_77
    · exact am_FPo hc (by decide) (by decide) am_f_1_86
    · exact am_FPo hc (by decide) (by decide) am_f_1_15
    · exact am_FPo hc (by decide) (by decide) am_f_1_19
    · exact am_FPo hc (by decide) (by decide) am_f_1_22
    · exact am_FPo hc (by decide) (by decide) am_f_1_25
    · exact am_FPo hc (by decide) (by decide) am_f_1_28
    · exact am_FPo hc (by decide) (by decide) am_f_1_34
    · exact am_FPo hc (by decide) (by decide) am_f_1_39
    · exact am_FPo hc (by decide) (by decide) am_f_1_9
    · exact am_FPo hc (by decide) (by decide) am_f_1_96
  | 2, h1 =>
    simp only [am_ft, List.mem_cons, List.not_mem_nil, or_false, Prod.mk.injEq] at h1
    rcases h1 with ⟨rfl, rfl, rfl⟩ | ⟨rfl, rfl, rfl⟩ | ⟨rfl, rfl, rfl⟩ | ⟨rfl, rfl, rfl⟩ | ⟨rfl, rfl, rfl⟩ | ⟨rfl, rfl, rfl⟩ | ⟨rfl, rfl, rfl⟩ | ⟨rfl, rfl, rfl⟩ | ⟨rfl, rfl, rfl⟩ | ⟨rfl, rfl, rfl⟩ | ⟨rfl, rfl, rfl⟩ | ⟨rfl, rfl, rfl⟩ | ⟨rfl, rfl, rfl⟩ | ⟨rfl, rfl, rfl⟩ | ⟨rfl, rfl, rfl⟩ | ⟨rfl, rfl, rfl⟩ | ⟨rfl, rfl, rfl⟩
    · exact am_FPo hc (by decide) (by decide) am_f_2_9
    · exact am_FPo hc (by decide) (by decide) am_f_2_15
    · exact am_FPo hc (by decide) (by decide) am_f_2_19
    · exact am_FPo hc (by decide) (by decide) am_f_2_22
    · exact am_FPo hc (by decide) (by decide) am_f_2_38
    · exact am_FPo hc (by decide) (by decide) am_f_2_133
    · exact am_FPo hc (by decide) (by decide) am_f_2_130
    · exact am_FPo hc (by decide) (by decide) am_f_2_47
    · exact am_FPo hc (by decide) (by decide) am_f_2_94
    · exact am_FPo hc (by decide) (by decide) am_f_2_148
    · exact am_FPo hc (by decide) (by decide) am_f_2_160
    · exact am_FPo hc (by decide) (by decide) am_f_2_182
    · exact am_FPo hc (by decide) (by decide) am_f_2_139
    · exact am_FPo hc (by decide) (by decide) am_f_2_236
    · exact am_FPo hc (by decide) (by decide) am_f_2_220
    · exact am_FPo hc (by decide) (by decide) am_f_2_102
    · exact am_FPo hc (by decide) (by decide) am_f_2_127
  | 3, h1 =>
    simp only [am_ft, List.mem_cons, List.not_mem_nil, or_false, Prod.mk.injEq] at h1
    rcases h1 with ⟨rfl, rfl, rfl⟩ | ⟨rfl, rfl, rfl⟩ | ⟨rfl, rfl, rfl⟩ | ⟨rfl, rfl, rfl⟩ | ⟨rfl, rfl, rfl⟩ | ⟨rfl, rfl, rfl⟩ | ⟨rfl, rfl, rfl⟩ | ⟨rfl, rfl, rfl⟩ | ⟨rfl, rfl, rfl⟩ | ⟨rfl, rfl, rfl⟩ | ⟨rfl, rfl, rfl⟩ | ⟨rfl, rfl, rfl⟩ | ⟨rfl, rfl, rfl⟩ | ⟨rfl, rfl, rfl⟩ | ⟨rfl, rfl, rfl⟩ | ⟨rfl, rfl, rfl⟩ | ⟨rfl, rfl, rfl⟩ | ⟨rfl, rfl, rfl⟩ | ⟨rfl, rfl, rfl⟩ | ⟨rfl, rfl, rfl⟩ | ⟨rfl, rfl, rfl⟩ | ⟨rfl, rfl, rfl⟩ | ⟨rfl, rfl, rfl⟩ | ⟨rfl, rfl, rfl⟩ | ⟨rfl, rfl, rfl⟩ | ⟨rfl, rfl, rfl⟩ | ⟨rfl, rfl, rfl⟩ | ⟨rfl, rfl, rfl⟩ | ⟨rfl, rfl, rfl⟩ | ⟨rfl, rfl, rfl⟩ | ⟨rfl, rfl, rfl⟩
    · exact am_FPo hc (by decide) (by decide) am_f_3_83
    · exact am_FPo hc (by decide) (by decide) am_f_3_131
    · exact am_FPo hc (by decide) (by decide) am_f_3_177
    · exact am_FPo hc (by decide) (by decide) am_f_3_7
    · exact am_FPo hc (by decide) (by decide) am_f_3_13
    · exact am_FPo hc (by decide) (by decide) am_f_3_16
    · exact am_FPo hc (by decide) (by decide) am_f_3_19
    · exact am_FPo hc (by decide) (by decide) am_f_3_22
    · exact am_FPo hc (by decide) (by decide) am_f_3_26
    · exact am_FPo hc (by decide) (by decide) am_f_3_29
    · exact am_FPo hc (by decide) (by decide) am_f_3_32
    · exact am_FPo hc (by decide) (by decide) am_f_3_35
    · exact am_FPo hc (by decide) (by decide) am_f_3_38
    · exact am_FPo hc (by decide) (by decide) am_f_3_41
    · exact am_FPo hc (by decide) (by decide) am_f_3_44
    · exact am_FPo hc (by decide) (by decide) am_f_3_47
    · exact am_FPo hc (by decide) (by decide) am_f_3_50
    · exact am_FPo hc (by decide) (by decide) am_f_3_91
    · exact am_FPo hc (by decide) (by decide) am_f_3_53
    · exact am_FPo hc (by decide) (by decide) am_f_3_134
    · exact am_FPo hc (by decide) (by decide) am_f_3_154
    · exact am_FPo hc (by decide) (by decide) am_f_3_56
    · exact am_FPo hc (by decide) (by decide) am_f_3_59
    · exact am_FPo hc (by decide) (by decide) am_f_3_102
    · exact am_FPo hc (by decide) (by decide) am_f_3_62
    · exact am_FPo hc (by decide) (by decide) am_f_3_65
    · exact am_FPo hc (by decide) (by decide) am_f_3_68
    · exact am_FPo hc (by decide) (by decide) am_f_3_71
    · exact am_FPo hc (by decide) (by decide) am_f_3_74
    · exact am_FPo hc (by decide) (by decide) am_f_3_77
    · exact am_FPo hc (by decide) (by decide) am_f_3_80
