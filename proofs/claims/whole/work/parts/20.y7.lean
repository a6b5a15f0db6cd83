-- the world at the head of the law's loop
section YH
variable {L b qc q1 q2 q3 q4 qm qo : Nat} {q : Nat → Nat} {D : va_G} {ca : Nat → ClassId} {xs : Nat → Int32} {A : Nat → Prop}
def w0d : List am_K := [(0, 0, 0), (1, 0, 0), (2, 0, 0), (3, 0, 0), (4, 0, 0), (20, 0, 0), (21, 3, 0), (21, 4, 0), (21, 5, 0), (21, 6, 0), (21, 7, 0), (21, 8, 0), (21, 9, 0), (21, 10, 0), (21, 11, 0), (21, 12, 0), (21, 13, 0), (21, 14, 0), (21, 15, 0), (21, 16, 0), (21, 18, 0), (21, 21, 0), (21, 22, 0), (21, 24, 0), (21, 25, 0), (21, 26, 0), (21, 27, 0), (21, 28, 0), (21, 29, 0), (21, 30, 0), (30, 0, 0)]
def w0A (b qc q1 q2 q3 q4 qm qo : Nat) (q : Nat → Nat) : am_K → Nat := fun k => match k with
  | (0, _, _) => qc
  | (1, _, _) => q1
  | (2, _, _) => q2
  | (3, _, _) => q3
  | (4, _, _) => q4
  | (20, _, _) => qm
  | (21, j, _) => q j
  | (30, _, _) => qo
  | _ => b
def w0M (xs : Nat → Int32) : am_M := fun k j => match k with
  | (21, 10, _) => mbl 256 j
  | (31, _, _) => xs j
  | _ => 0
abbrev w0s (L : Nat) : am_Sh := (0, (fun _ => 0), (fun _ => 0), L)
abbrev w0 (L b qc q1 q2 q3 q4 qm qo : Nat) (q : Nat → Nat) (D : va_G) (ca : Nat → ClassId) : am_Ω := (w0s L, w0d, w0A b qc q1 q2 q3 q4 qm qo q, D, ca)
theorem w0e_0 : am_e (w0 L b qc q1 q2 q3 q4 qm qo q D ca) (w0M xs) (0, 0, 0) = .inr (2, [.ref q1, .ref q2, .ref q3, .ref q4, .int 0, .int 0, .int 0, .int 0]) := rfl
theorem w0e_1 : am_e (w0 L b qc q1 q2 q3 q4 qm qo q D ca) (w0M xs) (1, 0, 0) = .inl (ca 0, 1024, .inl (fun _ => 0)) := rfl
theorem w0e_2 : am_e (w0 L b qc q1 q2 q3 q4 qm qo q D ca) (w0M xs) (2, 0, 0) = .inl (ca 2, 4, .inr (.inr (.inr (.inr (fun _ => none))))) := by
  have e : (fun j => (am_rf (w0s L) (2, 0, 0) j).map (w0A b qc q1 q2 q3 q4 qm qo q)) = (fun _ => none : Nat → Option Nat) := by
    funext j
    have f1 : am_rf (w0s L) (2, 0, 0) j = if j < 0 then some (5, j, 0) else none := rfl
    rw [f1, if_neg (Nat.not_lt_zero _)]
    rfl
  show Sum.inl (ca 2, 4, Sum.inr (Sum.inr (Sum.inr (Sum.inr (fun j => (am_rf (w0s L) (2, 0, 0) j).map (w0A b qc q1 q2 q3 q4 qm qo q)))))) = _
  rw [e]
theorem w0e_3 : am_e (w0 L b qc q1 q2 q3 q4 qm qo q D ca) (w0M xs) (3, 0, 0) = .inl (ca 0, 4, .inl (fun _ => 0)) := rfl
theorem w0e_4 : am_e (w0 L b qc q1 q2 q3 q4 qm qo q D ca) (w0M xs) (4, 0, 0) = .inl (ca 0, 4, .inl (fun _ => 0)) := rfl
theorem w0e_5 : am_e (w0 L b qc q1 q2 q3 q4 qm qo q D ca) (w0M xs) (20, 0, 0) = .inr (3, [.int 0, .int 0, .int 0, .ref (q 3), .ref (q 4), .ref (q 5), .ref (q 6), .ref (q 7), .ref (q 8), .ref (q 9), .ref (q 10), .ref (q 11), .ref (q 12), .ref (q 13), .ref (q 14), .ref (q 15), .ref (q 16), .int 0, .ref (q 18), .int 0, .int 0, .ref (q 21), .ref (q 22), .int 0, .ref (q 24), .ref (q 25), .ref (q 26), .ref (q 27), .ref (q 28), .ref (q 29), .ref (q 30)]) := rfl
theorem w0e_6 : am_e (w0 L b qc q1 q2 q3 q4 qm qo q D ca) (w0M xs) (21, 3, 0) = .inl (ca 0, 4, .inl (fun _ => 0)) := rfl
theorem w0e_7 : am_e (w0 L b qc q1 q2 q3 q4 qm qo q D ca) (w0M xs) (21, 4, 0) = .inl (ca 0, 4, .inl (fun _ => 0)) := rfl
theorem w0e_8 : am_e (w0 L b qc q1 q2 q3 q4 qm qo q D ca) (w0M xs) (21, 5, 0) = .inl (ca 0, 4, .inl (fun _ => 0)) := rfl
theorem w0e_9 : am_e (w0 L b qc q1 q2 q3 q4 qm qo q D ca) (w0M xs) (21, 6, 0) = .inl (ca 0, 4, .inl (fun _ => 0)) := rfl
theorem w0e_10 : am_e (w0 L b qc q1 q2 q3 q4 qm qo q D ca) (w0M xs) (21, 7, 0) = .inl (ca 1, 4, .inl (fun _ => 0)) := rfl
theorem w0e_11 : am_e (w0 L b qc q1 q2 q3 q4 qm qo q D ca) (w0M xs) (21, 8, 0) = .inl (ca 0, 24, .inl (fun _ => 0)) := rfl
theorem w0e_12 : am_e (w0 L b qc q1 q2 q3 q4 qm qo q D ca) (w0M xs) (21, 9, 0) = .inl (ca 0, 64, .inl (fun _ => 0)) := rfl
theorem w0e_13 : am_e (w0 L b qc q1 q2 q3 q4 qm qo q D ca) (w0M xs) (21, 10, 0) = .inl (ca 0, 256, .inl (mbl 256)) := rfl
theorem w0e_14 : am_e (w0 L b qc q1 q2 q3 q4 qm qo q D ca) (w0M xs) (21, 11, 0) = .inl (ca 0, 256, .inl (fun _ => 0)) := rfl
theorem w0e_15 : am_e (w0 L b qc q1 q2 q3 q4 qm qo q D ca) (w0M xs) (21, 12, 0) = .inl (ca 0, 256, .inl (fun _ => 0)) := rfl
theorem w0e_16 : am_e (w0 L b qc q1 q2 q3 q4 qm qo q D ca) (w0M xs) (21, 13, 0) = .inl (ca 0, 256, .inl (fun _ => 0)) := rfl
theorem w0e_17 : am_e (w0 L b qc q1 q2 q3 q4 qm qo q D ca) (w0M xs) (21, 14, 0) = .inl (ca 0, 256, .inl (fun _ => 0)) := rfl
theorem w0e_18 : am_e (w0 L b qc q1 q2 q3 q4 qm qo q D ca) (w0M xs) (21, 15, 0) = .inl (ca 1, 256, .inl (fun _ => 0)) := rfl
theorem w0e_19 : am_e (w0 L b qc q1 q2 q3 q4 qm qo q D ca) (w0M xs) (21, 16, 0) = .inl (ca 0, 1024, .inl (fun _ => 0)) := rfl
theorem w0e_20 : am_e (w0 L b qc q1 q2 q3 q4 qm qo q D ca) (w0M xs) (21, 18, 0) = .inl (ca 0, 1024, .inl (fun _ => 0)) := rfl
theorem w0e_21 : am_e (w0 L b qc q1 q2 q3 q4 qm qo q D ca) (w0M xs) (21, 21, 0) = .inl (ca 0, 20, .inl (fun _ => 0)) := rfl
theorem w0e_22 : am_e (w0 L b qc q1 q2 q3 q4 qm qo q D ca) (w0M xs) (21, 22, 0) = .inl (ca 0, 20, .inl (fun _ => 0)) := rfl
theorem w0e_23 : am_e (w0 L b qc q1 q2 q3 q4 qm qo q D ca) (w0M xs) (21, 24, 0) = .inl (ca 0, 64, .inl (fun _ => 0)) := rfl
theorem w0e_24 : am_e (w0 L b qc q1 q2 q3 q4 qm qo q D ca) (w0M xs) (21, 25, 0) = .inl (ca 0, 64, .inl (fun _ => 0)) := rfl
theorem w0e_25 : am_e (w0 L b qc q1 q2 q3 q4 qm qo q D ca) (w0M xs) (21, 26, 0) = .inl (ca 0, 64, .inl (fun _ => 0)) := rfl
theorem w0e_26 : am_e (w0 L b qc q1 q2 q3 q4 qm qo q D ca) (w0M xs) (21, 27, 0) = .inl (ca 0, 64, .inl (fun _ => 0)) := rfl
theorem w0e_27 : am_e (w0 L b qc q1 q2 q3 q4 qm qo q D ca) (w0M xs) (21, 28, 0) = .inl (ca 0, 64, .inl (fun _ => 0)) := rfl
theorem w0e_28 : am_e (w0 L b qc q1 q2 q3 q4 qm qo q D ca) (w0M xs) (21, 29, 0) = .inl (ca 0, 64, .inl (fun _ => 0)) := rfl
theorem w0e_29 : am_e (w0 L b qc q1 q2 q3 q4 qm qo q D ca) (w0M xs) (21, 30, 0) = .inl (ca 0, 1024, .inl (fun _ => 0)) := rfl
theorem w0e_30 : am_e (w0 L b qc q1 q2 q3 q4 qm qo q D ca) (w0M xs) (30, 0, 0) = .inl (ca 3, 1, .inr (.inl (fun _ => 0))) := by
  have e : (fun j => (w0M xs (30, 0, 0) j).toInt64) = (fun _ => 0 : Nat → Int64) := by
    funext j
    show (0 : Int32).toInt64 = 0
    decide
  show Sum.inl (ca 3, 1, Sum.inr (Sum.inl (fun j => (w0M xs (30, 0, 0) j).toInt64))) = _
  rw [e]
abbrev w5 (ca : Nat → ClassId) (qc q1 q2 q3 q4 : Nat) : va_W := [(qc, .inr (2, [.ref q1, .ref q2, .ref q3, .ref q4, .int 0, .int 0, .int 0, .int 0])), (q1, .inl (ca 0, 1024, .inl (fun _ => 0))), (q2, .inl (ca 2, 4, .inr (.inr (.inr (.inr (fun _ => none)))))), (q3, .inl (ca 0, 4, .inl (fun _ => 0))), (q4, .inl (ca 0, 4, .inl (fun _ => 0)))]
theorem w0_w : am_w (w0 L b qc q1 q2 q3 q4 qm qo q D ca) (w0M xs) = w5 ca qc q1 q2 q3 q4 ++ mow (ca 0) (ca 1) qm q (mbl 256) ++ ([(qo, .inl (ca 3, 1, .inr (.inl (fun _ => 0))))] : va_W) := by
  have hF : am_w (w0 L b qc q1 q2 q3 q4 qm qo q D ca) (w0M xs) = [(qc, am_e (w0 L b qc q1 q2 q3 q4 qm qo q D ca) (w0M xs) (0, 0, 0)), (q1, am_e (w0 L b qc q1 q2 q3 q4 qm qo q D ca) (w0M xs) (1, 0, 0)), (q2, am_e (w0 L b qc q1 q2 q3 q4 qm qo q D ca) (w0M xs) (2, 0, 0)), (q3, am_e (w0 L b qc q1 q2 q3 q4 qm qo q D ca) (w0M xs) (3, 0, 0)), (q4, am_e (w0 L b qc q1 q2 q3 q4 qm qo q D ca) (w0M xs) (4, 0, 0)), (qm, am_e (w0 L b qc q1 q2 q3 q4 qm qo q D ca) (w0M xs) (20, 0, 0)), (q 3, am_e (w0 L b qc q1 q2 q3 q4 qm qo q D ca) (w0M xs) (21, 3, 0)), (q 4, am_e (w0 L b qc q1 q2 q3 q4 qm qo q D ca) (w0M xs) (21, 4, 0)), (q 5, am_e (w0 L b qc q1 q2 q3 q4 qm qo q D ca) (w0M xs) (21, 5, 0)), (q 6, am_e (w0 L b qc q1 q2 q3 q4 qm qo q D ca) (w0M xs) (21, 6, 0)), (q 7, am_e (w0 L b qc q1 q2 q3 q4 qm qo q D ca) (w0M xs) (21, 7, 0)), (q 8, am_e (w0 L b qc q1 q2 q3 q4 qm qo q D ca) (w0M xs) (21, 8, 0)), (q 9, am_e (w0 L b qc q1 q2 q3 q4 qm qo q D ca) (w0M xs) (21, 9, 0)), (q 10, am_e (w0 L b qc q1 q2 q3 q4 qm qo q D ca) (w0M xs) (21, 10, 0)), (q 11, am_e (w0 L b qc q1 q2 q3 q4 qm qo q D ca) (w0M xs) (21, 11, 0)), (q 12, am_e (w0 L b qc q1 q2 q3 q4 qm qo q D ca) (w0M xs) (21, 12, 0)), (q 13, am_e (w0 L b qc q1 q2 q3 q4 qm qo q D ca) (w0M xs) (21, 13, 0)), (q 14, am_e (w0 L b qc q1 q2 q3 q4 qm qo q D ca) (w0M xs) (21, 14, 0)), (q 15, am_e (w0 L b qc q1 q2 q3 q4 qm qo q D ca) (w0M xs) (21, 15, 0)), (q 16, am_e (w0 L b qc q1 q2 q3 q4 qm qo q D ca) (w0M xs) (21, 16, 0)), (q 18, am_e (w0 L b qc q1 q2 q3 q4 qm qo q D ca) (w0M xs) (21, 18, 0)), (q 21, am_e (w0 L b qc q1 q2 q3 q4 qm qo q D ca) (w0M xs) (21, 21, 0)), (q 22, am_e (w0 L b qc q1 q2 q3 q4 qm qo q D ca) (w0M xs) (21, 22, 0)), (q 24, am_e (w0 L b qc q1 q2 q3 q4 qm qo q D ca) (w0M xs) (21, 24, 0)), (q 25, am_e (w0 L b qc q1 q2 q3 q4 qm qo q D ca) (w0M xs) (21, 25, 0)), (q 26, am_e (w0 L b qc q1 q2 q3 q4 qm qo q D ca) (w0M xs) (21, 26, 0)), (q 27, am_e (w0 L b qc q1 q2 q3 q4 qm qo q D ca) (w0M xs) (21, 27, 0)), (q 28, am_e (w0 L b qc q1 q2 q3 q4 qm qo q D ca) (w0M xs) (21, 28, 0)), (q 29, am_e (w0 L b qc q1 q2 q3 q4 qm qo q D ca) (w0M xs) (21, 29, 0)), (q 30, am_e (w0 L b qc q1 q2 q3 q4 qm qo q D ca) (w0M xs) (21, 30, 0)), (qo, am_e (w0 L b qc q1 q2 q3 q4 qm qo q D ca) (w0M xs) (30, 0, 0))] := rfl
  rw [hF, w0e_0, w0e_1, w0e_2, w0e_3, w0e_4, w0e_5, w0e_6, w0e_7, w0e_8, w0e_9, w0e_10, w0e_11, w0e_12, w0e_13, w0e_14, w0e_15, w0e_16, w0e_17, w0e_18, w0e_19, w0e_20, w0e_21, w0e_22, w0e_23, w0e_24, w0e_25, w0e_26, w0e_27, w0e_28, w0e_29, w0e_30]
  rfl
theorem mk_mem {t : Nat} {c : Nat ⊕ (Nat × Nat)} (h : am_mk t = some c) : (21, t, 0) ∈ w0d := by
  unfold am_mk at h
  split at h <;> first | decide | cases h
theorem ct0_mem {k : am_K} {c : Nat ⊕ (Nat × Nat)} (h : am_ct (w0s L) k = some c) (h5 : ∀ N, c ≠ Sum.inr (5, N)) : k ∈ w0d := by
  obtain ⟨a, t, i⟩ := k
  by_cases hr : 5 ≤ a ∧ a ≤ 10
  · exact absurd (ct_in h hr.1 hr.2).1 (Nat.not_lt_zero _)
  by_cases h31 : a = 31
  · subst h31
    have q := if_in (show (if t = 0 ∧ i = 0 then some (Sum.inr (5, L)) else none) = some c from h)
    have h' : (if t = 0 ∧ i = 0 then some (Sum.inr (5, L)) else none) = some c := h
    rw [if_pos q] at h'
    exact absurd (Option.some.inj h').symm (h5 L)
  by_cases h20 : a = 20
  · subst h20
    obtain ⟨rfl, rfl⟩ := if_in (show (if t = 0 ∧ i = 0 then some (Sum.inl 3) else none) = some c from h)
    decide
  by_cases h30 : a = 30
  · subst h30
    obtain ⟨rfl, rfl⟩ := if_in (show (if t = 0 ∧ i = 0 then some (Sum.inr (3, 1)) else none) = some c from h)
    decide
  by_cases h21 : a = 21
  · subst h21
    have h' : (if i = 0 then am_mk t else none) = some c := h
    by_cases hi : i = 0
    · rw [if_pos hi] at h'
      rw [hi]
      exact mk_mem h'
    · rw [if_neg hi] at h'
      cases h'
  by_cases hl : 10 < a
  · rw [ct_none hl h20 h21 h30 h31] at h
    cases h
  rcases (show a = 0 ∨ a = 1 ∨ a = 2 ∨ a = 3 ∨ a = 4 by omega) with rfl | rfl | rfl | rfl | rfl
  · obtain ⟨rfl, rfl⟩ := if_in (show (if t = 0 ∧ i = 0 then some (Sum.inl 2) else none) = some c from h)
    decide
  · obtain ⟨rfl, rfl⟩ := if_in (show (if t = 0 ∧ i = 0 then some (Sum.inr (0, 1024)) else none) = some c from h)
    decide
  · obtain ⟨rfl, rfl⟩ := if_in (show (if t = 0 ∧ i = 0 then some (Sum.inr (2, 4)) else none) = some c from h)
    decide
  · obtain ⟨rfl, rfl⟩ := if_in (show (if t = 0 ∧ i = 0 then some (Sum.inr (0, 4)) else none) = some c from h)
    decide
  · obtain ⟨rfl, rfl⟩ := if_in (show (if t = 0 ∧ i = 0 then some (Sum.inr (0, 4)) else none) = some c from h)
    decide
theorem scr0 {k : am_K} {N : Nat} (h : am_ct (w0s L) k = some (Sum.inr (5, N))) : k = (31, 0, 0) := by
  obtain ⟨a, t, i⟩ := k
  by_cases h31 : a = 31
  · subst h31
    obtain ⟨rfl, rfl⟩ := if_in (show (if t = 0 ∧ i = 0 then some (Sum.inr (5, L)) else none) = some (Sum.inr (5, N)) from h)
    rfl
  exfalso
  have hm : am_ct (w0s 0) (a, t, i) = some (Sum.inr (5, N)) ∨ True := Or.inr trivial
  by_cases hr : 5 ≤ a ∧ a ≤ 10
  · exact absurd (ct_in h hr.1 hr.2).1 (Nat.not_lt_zero _)
  by_cases h20 : a = 20
  · subst h20
    have h' : (if t = 0 ∧ i = 0 then some (Sum.inl 3) else none) = some (Sum.inr (5, N)) := h
    rw [if_pos (if_in h')] at h'
    cases h'
  by_cases h30 : a = 30
  · subst h30
    have h' : (if t = 0 ∧ i = 0 then some (Sum.inr (3, 1)) else none) = some (Sum.inr (5, N)) := h
    rw [if_pos (if_in h')] at h'
    cases h'
  by_cases h21 : a = 21
  · subst h21
    have h' : (if i = 0 then am_mk t else none) = some (Sum.inr (5, N)) := h
    by_cases hi : i = 0
    · rw [if_pos hi] at h'
      unfold am_mk at h'
      split at h' <;> cases h'
    · rw [if_neg hi] at h'
      cases h'
  by_cases hl : 10 < a
  · rw [ct_none hl h20 h21 h30 h31] at h
    cases h
  rcases (show a = 0 ∨ a = 1 ∨ a = 2 ∨ a = 3 ∨ a = 4 by omega) with rfl | rfl | rfl | rfl | rfl
  · have h' : (if t = 0 ∧ i = 0 then some (Sum.inl 2) else none) = some (Sum.inr (5, N)) := h
    rw [if_pos (if_in h')] at h'
    cases h'
  · have h' : (if t = 0 ∧ i = 0 then some (Sum.inr (0, 1024)) else none) = some (Sum.inr (5, N)) := h
    rw [if_pos (if_in h')] at h'
    cases h'
  · have h' : (if t = 0 ∧ i = 0 then some (Sum.inr (2, 4)) else none) = some (Sum.inr (5, N)) := h
    rw [if_pos (if_in h')] at h'
    cases h'
  · have h' : (if t = 0 ∧ i = 0 then some (Sum.inr (0, 4)) else none) = some (Sum.inr (5, N)) := h
    rw [if_pos (if_in h')] at h'
    cases h'
  · have h' : (if t = 0 ∧ i = 0 then some (Sum.inr (0, 4)) else none) = some (Sum.inr (5, N)) := h
    rw [if_pos (if_in h')] at h'
    cases h'
theorem w0_in (hD : va_D A (am_w (w0 L b qc q1 q2 q3 q4 qm qo q D ca) (w0M xs))) (hb : ¬ A b) : am_in (w0 L b qc q1 q2 q3 q4 qm qo q D ca) := by
  have hinj : ∀ k1 k2, k1 ∈ w0d → k2 ∈ w0d → am_ad (w0 L b qc q1 q2 q3 q4 qm qo q D ca) k1 = am_ad (w0 L b qc q1 q2 q3 q4 qm qo q D ca) k2 → k1 = k2 := fun k1 k2 h1 h2 e => by
    obtain ⟨i, i1, i2⟩ := am_w_get (Ω := (w0 L b qc q1 q2 q3 q4 qm qo q D ca)) (w0M xs) h1
    obtain ⟨j, j1, j2⟩ := am_w_get (Ω := (w0 L b qc q1 q2 q3 q4 qm qo q D ca)) (w0M xs) h2
    have := hD.1 i j _ _ i2 j2 e
    subst this
    exact Option.some.inj (i1.symm.trans j1)
  have hAn : ∀ k, k ∈ w0d → A (am_ad (w0 L b qc q1 q2 q3 q4 qm qo q D ca) k) := fun k hk => by
    obtain ⟨i, -, i2⟩ := am_w_get (Ω := (w0 L b qc q1 q2 q3 q4 qm qo q D ca)) (w0M xs) hk
    exact hD.2 i _ i2
  refine ⟨fun k c hc h5 => ct0_mem hc h5, fun k hk => ?_, by show w0d.Nodup; decide, fun k1 k2 c1 c2 h1 h2 e => ?_⟩
  · have hk' : k ∈ w0d := hk
    simp only [w0d, List.mem_cons, List.not_mem_nil, or_false] at hk'
    rcases hk' with rfl | rfl | rfl | rfl | rfl | rfl | rfl | rfl | rfl | rfl | rfl | rfl | rfl | rfl | rfl | rfl | rfl | rfl | rfl | rfl | rfl | rfl | rfl | rfl | rfl | rfl | rfl | rfl | rfl | rfl | rfl <;> exact ⟨_, rfl, fun N h => by cases h⟩
  · by_cases s1 : ∃ N, c1 = Sum.inr (5, N)
    · obtain ⟨N1, rfl⟩ := s1
      have e1 := scr0 h1
      by_cases s2 : ∃ N, c2 = Sum.inr (5, N)
      · obtain ⟨N2, rfl⟩ := s2
        rw [e1, scr0 h2]
      · exfalso
        subst e1
        refine hb ?_
        have h3 := hAn k2 (ct0_mem h2 (fun N q => s2 ⟨N, q⟩))
        rw [← e] at h3
        exact h3
    · by_cases s2 : ∃ N, c2 = Sum.inr (5, N)
      · obtain ⟨N2, rfl⟩ := s2
        exfalso
        have e2 := scr0 h2
        subst e2
        refine hb ?_
        have h3 := hAn k1 (ct0_mem h1 (fun N q => s1 ⟨N, q⟩))
        rw [e] at h3
        exact h3
      · exact hinj k1 k2 (ct0_mem h1 (fun N q => s1 ⟨N, q⟩)) (ct0_mem h2 (fun N q => s2 ⟨N, q⟩)) e
theorem w0_shk : shk (w0s L) := ⟨Nat.zero_le _, fun t => ⟨Nat.zero_le _, Nat.zero_le _⟩, fun t ht => absurd ht (Nat.not_lt_zero _)⟩
theorem w0_Jn : Jn (w0s L) 0 (w0M xs) (w0M xs) := by
  have v : ∀ t, ¬ t < (w0s L).1 := fun t h => absurd h (Nat.not_lt_zero _)
  refine ⟨⟨⟨⟨rfl, fun t ht => absurd ht (v t)⟩, fun t ht => absurd ht (v t)⟩, fun t ht => absurd ht (v t), fun t ht => absurd ht (v t), fun t ht => absurd ht (v t), fun t ht => absurd ht (v t), fun t u _ hu => absurd hu (v u)⟩, fun t ht => absurd ht (v t), ⟨⟨rfl, rfl, rfl, rfl, rfl, fun j _ => rfl⟩, fun t ht => absurd ht (v t), fun t s w ht => absurd ht (v t), fun t ht => absurd ht (v t)⟩, rfl, fun k _ => rfl⟩
theorem w0_prs : prs (w0s L) (w0M xs) (w0M xs) := fun _ => ⟨fun t ht => absurd ht (Nat.not_lt_zero _), fun j _ hj => if_pos hj, fun j _ _ => rfl, fun j _ _ => rfl⟩
end YH
