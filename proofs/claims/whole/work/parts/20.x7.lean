-- the world with one tier more
section XG
variable {Ω : am_Ω} {sh : am_Sh} {Z Wy : Nat}
theorem ct5e {t i : Nat} : am_ct sh (5, t, i) = if t < sh.1 ∧ i = 0 then some (Sum.inl 1) else none := rfl
theorem ct6e {t i : Nat} : am_ct sh (6, t, i) = if t < sh.1 ∧ i = 0 then some (Sum.inr (4, sh.2.1 t)) else none := rfl
theorem ct7e {t i : Nat} : am_ct sh (7, t, i) = if t < sh.1 ∧ i = 0 then some (Sum.inr (0, sh.2.2.1 t)) else none := rfl
theorem ct8e {t i : Nat} : am_ct sh (8, t, i) = if t < sh.1 ∧ i = 0 then some (Sum.inr (0, 6)) else none := rfl
theorem ct9e {t i : Nat} : am_ct sh (9, t, i) = if t < sh.1 ∧ i < sh.2.1 t then some (Sum.inl 0) else none := rfl
theorem ct10e {t i : Nat} : am_ct sh (10, t, i) = if t < sh.1 ∧ i < sh.2.1 t then some (Sum.inr (0, 4)) else none := rfl
theorem if_in {α : Type} {q : Prop} {d : Decidable q} {x y : α} (h : (if q then some x else none) = some y) : q := Decidable.byContradiction fun n => by rw [if_neg n] at h; cases h
theorem ct_in {k : am_K} {c : Nat ⊕ (Nat × Nat)} (h : am_ct sh k = some c) (h5 : 5 ≤ k.1) (h10 : k.1 ≤ 10) : k.2.1 < sh.1 ∧ (k.1 ≤ 8 → k.2.2 = 0) ∧ (9 ≤ k.1 → k.2.2 < sh.2.1 k.2.1) := by
  obtain ⟨a, t, i⟩ := k
  dsimp only at h5 h10 ⊢
  rcases (show a = 5 ∨ a = 6 ∨ a = 7 ∨ a = 8 ∨ a = 9 ∨ a = 10 by omega) with rfl | rfl | rfl | rfl | rfl | rfl
  · have q := if_in (ct5e.symm.trans h); exact ⟨q.1, fun _ => q.2, fun z => absurd z (by decide)⟩
  · have q := if_in (ct6e.symm.trans h); exact ⟨q.1, fun _ => q.2, fun z => absurd z (by decide)⟩
  · have q := if_in (ct7e.symm.trans h); exact ⟨q.1, fun _ => q.2, fun z => absurd z (by decide)⟩
  · have q := if_in (ct8e.symm.trans h); exact ⟨q.1, fun _ => q.2, fun z => absurd z (by decide)⟩
  · have q := if_in (ct9e.symm.trans h); exact ⟨q.1, fun z => absurd z (by decide), fun _ => q.2⟩
  · have q := if_in (ct10e.symm.trans h); exact ⟨q.1, fun z => absurd z (by decide), fun _ => q.2⟩
theorem ct_none {a t i : Nat} (h : 10 < a) (h1 : ¬ a = 20) (h2 : ¬ a = 21) (h3 : ¬ a = 30) (h4 : ¬ a = 31) : am_ct sh (a, t, i) = none := by
  unfold am_ct
  split
  all_goals first | rfl | (rename_i q; simp only [Prod.mk.injEq] at q; omega)
theorem ct_out {sh' : am_Sh} {k : am_K} (hk : k.1 < 5 ∨ 10 < k.1) (he : sh'.2.2.2 = sh.2.2.2) : am_ct sh' k = am_ct sh k := by
  obtain ⟨a, t, i⟩ := k
  dsimp only at hk
  by_cases h31 : a = 31
  · subst h31
    show (if t = 0 ∧ i = 0 then some (Sum.inr (5, sh'.2.2.2)) else none) = (if t = 0 ∧ i = 0 then some (Sum.inr (5, sh.2.2.2)) else none)
    rw [he]
  by_cases h20 : a = 20
  · subst h20; rfl
  by_cases h21 : a = 21
  · subst h21; rfl
  by_cases h30 : a = 30
  · subst h30; rfl
  rcases hk with hk | hk
  · rcases (show a = 0 ∨ a = 1 ∨ a = 2 ∨ a = 3 ∨ a = 4 by omega) with rfl | rfl | rfl | rfl | rfl <;> rfl
  · rw [ct_none hk h20 h21 h30 h31, ct_none hk h20 h21 h30 h31]
theorem ct_tier {sh' : am_Sh} {k : am_K} (h5 : 5 ≤ k.1) (h10 : k.1 ≤ 10) (h1 : k.2.1 < sh.1) (h1' : k.2.1 < sh'.1) (h2 : sh'.2.1 k.2.1 = sh.2.1 k.2.1) (h3 : sh'.2.2.1 k.2.1 = sh.2.2.1 k.2.1) : am_ct sh' k = am_ct sh k := by
  obtain ⟨a, t, i⟩ := k
  dsimp only at h5 h10 h1 h1' h2 h3
  rcases (show a = 5 ∨ a = 6 ∨ a = 7 ∨ a = 8 ∨ a = 9 ∨ a = 10 by omega) with rfl | rfl | rfl | rfl | rfl | rfl
  · rw [ct5e, ct5e]; simp [h1, h1']
  · rw [ct6e, ct6e]; simp [h1, h1', h2]
  · rw [ct7e, ct7e]; simp [h1, h1', h3]
  · rw [ct8e, ct8e]; simp [h1, h1']
  · rw [ct9e, ct9e]; simp [h1, h1', h2]
  · rw [ct10e, ct10e]; simp [h1, h1', h2]
theorem ct_grow {k : am_K} {c : Nat ⊕ (Nat × Nat)} (h : am_ct sh k = some c) : am_ct (shg sh Z Wy) k = some c := by
  by_cases hk : k.1 < 5 ∨ 10 < k.1
  · exact (ct_out (sh := sh) (sh' := shg sh Z Wy) hk rfl).trans h
  · have h1 := (ct_in h (by omega) (by omega)).1
    rw [ct_tier (sh := sh) (by omega) (by omega) h1 (Nat.lt_succ_of_lt h1) (shg_N h1) (show (shg sh Z Wy).2.2.1 k.2.1 = sh.2.2.1 k.2.1 from if_neg (by omega))]
    exact h
def og_new (h N : Nat) : List am_K := (5, h, 0) :: (8, h, 0) :: (6, h, 0) :: ((List.range N).flatMap (fun i => [(9, h, i), (10, h, i)]) ++ [(7, h, 0)])
theorem og_mem {h N : Nat} {k : am_K} : k ∈ og_new h N ↔ k = (5, h, 0) ∨ k = (8, h, 0) ∨ k = (6, h, 0) ∨ k = (7, h, 0) ∨ ∃ i, i < N ∧ (k = (9, h, i) ∨ k = (10, h, i)) := by
  unfold og_new
  simp only [List.mem_cons, List.mem_append, List.mem_flatMap, List.mem_range, List.not_mem_nil, or_false]
  constructor
  · rintro (h | h | h | ⟨i, hi, h | h⟩ | h)
    · exact Or.inl h
    · exact Or.inr (Or.inl h)
    · exact Or.inr (Or.inr (Or.inl h))
    · exact Or.inr (Or.inr (Or.inr (Or.inr ⟨i, hi, Or.inl h⟩)))
    · exact Or.inr (Or.inr (Or.inr (Or.inr ⟨i, hi, Or.inr h⟩)))
    · exact Or.inr (Or.inr (Or.inr (Or.inl h)))
  · rintro (h | h | h | h | ⟨i, hi, h | h⟩)
    · exact Or.inl h
    · exact Or.inr (Or.inl h)
    · exact Or.inr (Or.inr (Or.inl h))
    · exact Or.inr (Or.inr (Or.inr (Or.inr h)))
    · exact Or.inr (Or.inr (Or.inr (Or.inl ⟨i, hi, Or.inl h⟩)))
    · exact Or.inr (Or.inr (Or.inr (Or.inl ⟨i, hi, Or.inr h⟩)))
theorem ct_new {k : am_K} (h : k ∈ og_new sh.1 (Z * Wy)) : ∃ c, am_ct (shg sh Z Wy) k = some c ∧ ∀ N, c ≠ Sum.inr (5, N) := by
  have hl : sh.1 < (shg sh Z Wy).1 := Nat.lt_succ_self _
  rcases og_mem.mp h with rfl | rfl | rfl | rfl | ⟨i, hi, rfl | rfl⟩
  · exact ⟨_, am_ct5 hl, fun N h => by cases h⟩
  · exact ⟨_, am_ct8 hl, fun N h => by cases h⟩
  · exact ⟨_, am_ct6 hl, fun N h => by cases h⟩
  · exact ⟨_, am_ct7 hl, fun N h => by cases h⟩
  · exact ⟨_, am_ct9 hl (by rw [shg_N0]; exact hi), fun N h => by cases h⟩
  · exact ⟨_, am_ct10 hl (by rw [shg_N0]; exact hi), fun N h => by cases h⟩
theorem ct_old_or {k : am_K} {c : Nat ⊕ (Nat × Nat)} (h : am_ct (shg sh Z Wy) k = some c) : am_ct sh k = some c ∨ k ∈ og_new sh.1 (Z * Wy) := by
  by_cases hk : k.1 < 5 ∨ 10 < k.1
  · left
    exact (ct_out (sh := sh) (sh' := shg sh Z Wy) hk rfl).symm.trans h
  · obtain ⟨h1, h2, h3⟩ := ct_in h (by omega) (by omega)
    have h1' : k.2.1 < sh.1 + 1 := h1
    by_cases e : k.2.1 = sh.1
    · right
      obtain ⟨a, t, i⟩ := k
      dsimp only at hk e h2 h3
      subst e
      rw [shg_N0] at h3
      apply og_mem.mpr
      rcases (show a = 5 ∨ a = 6 ∨ a = 7 ∨ a = 8 ∨ a = 9 ∨ a = 10 by omega) with rfl | rfl | rfl | rfl | rfl | rfl
      · rw [h2 (by decide)]; exact Or.inl rfl
      · rw [h2 (by decide)]; exact Or.inr (Or.inr (Or.inl rfl))
      · rw [h2 (by decide)]; exact Or.inr (Or.inr (Or.inr (Or.inl rfl)))
      · rw [h2 (by decide)]; exact Or.inr (Or.inl rfl)
      · exact Or.inr (Or.inr (Or.inr (Or.inr ⟨i, h3 (by decide), Or.inl rfl⟩)))
      · exact Or.inr (Or.inr (Or.inr (Or.inr ⟨i, h3 (by decide), Or.inr rfl⟩)))
    · left
      have hl : k.2.1 < sh.1 := by omega
      rw [← ct_tier (sh := sh) (sh' := shg sh Z Wy) (by omega) (by omega) hl h1 (shg_N hl) (show (shg sh Z Wy).2.2.1 k.2.1 = sh.2.2.1 k.2.1 from if_neg e)]
      exact h
theorem ct_new_none {k : am_K} (h : k ∈ og_new sh.1 (Z * Wy)) : am_ct sh k = none := by
  cases hc : am_ct sh k with
  | none => rfl
  | some c =>
    exfalso
    rcases og_mem.mp h with rfl | rfl | rfl | rfl | ⟨i, hi, rfl | rfl⟩ <;> exact Nat.lt_irrefl _ (ct_in hc (Nat.le_of_ble_eq_true rfl) (Nat.le_of_ble_eq_true rfl)).1
def og_ad (ad : am_K → Nat) (h a5 a6 a7 a8 : Nat) (ps : List (Nat × Nat)) : am_K → Nat := fun k => if k.2.1 = h ∧ 5 ≤ k.1 ∧ k.1 ≤ 10 then (if k.1 = 5 then a5 else if k.1 = 6 then a6 else if k.1 = 7 then a7 else if k.1 = 8 then a8 else if k.1 = 9 then (ps.getD k.2.2 (0, 0)).1 else (ps.getD k.2.2 (0, 0)).2) else ad k
def og (Ω : am_Ω) (Z Wy a5 a6 a7 a8 : Nat) (ps : List (Nat × Nat)) : am_Ω := (shg (am_sh Ω) Z Wy, am_dom Ω ++ og_new (am_sh Ω).1 (Z * Wy), og_ad (am_ad Ω) (am_sh Ω).1 a5 a6 a7 a8 ps, am_D Ω, am_ca Ω)
theorem og_ad_old {ad : am_K → Nat} {h a5 a6 a7 a8 : Nat} {ps : List (Nat × Nat)} {k : am_K} {c : Nat ⊕ (Nat × Nat)} (hh : h = sh.1) (hc : am_ct sh k = some c) : og_ad ad h a5 a6 a7 a8 ps k = ad k := by
  unfold og_ad
  rw [if_neg (fun q => ?_)]
  have := (ct_in hc q.2.1 q.2.2).1
  omega
theorem og_nd {h N : Nat} : (og_new h N).Nodup := by
  have hfl : ∀ n, ((List.range n).flatMap (fun i => [((9, h, i) : am_K), (10, h, i)])).Nodup := by
    intro n
    induction n with
    | zero => exact List.nodup_nil
    | succ n ih =>
      rw [List.range_succ, List.flatMap_append, List.nodup_append]
      refine ⟨ih, by simp, fun x hx y hy e => ?_⟩
      subst e
      simp only [List.mem_flatMap, List.mem_range, List.mem_cons, List.not_mem_nil, or_false] at hx hy
      obtain ⟨i, hi, hx⟩ := hx
      obtain ⟨j, hj, hy⟩ := hy
      subst hj
      rcases hx with rfl | rfl <;> rcases hy with hy | hy <;> simp at hy <;> omega
  unfold og_new
  simp only [List.nodup_cons, List.nodup_append, List.mem_cons, List.mem_append, List.mem_flatMap, List.mem_range, List.not_mem_nil, or_false]
  refine ⟨?_, ?_, ?_, hfl N, by simp, ?_⟩
  · rintro (h | h | ⟨i, -, h | h⟩ | h) <;> simp at h
  · rintro (h | ⟨i, -, h | h⟩ | h) <;> simp at h
  · rintro (⟨i, -, h | h⟩ | h) <;> simp at h
  · rintro x ⟨i, -, rfl | rfl⟩ y rfl <;> simp
end XG
