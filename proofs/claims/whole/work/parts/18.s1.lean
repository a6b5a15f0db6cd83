/-! What stands in the class's memory between its steps (no machine here). -/
section IV
variable {sh : am_Sh} {X X' X'' : am_M}
def inT (sh : am_Sh) (X : am_M) (t b : Nat) : Prop := ∃ i, i < sh.2.1 t ∧ X (9, t, i) 1 = nI b
/-- no block twice in a tier -/
def uq (sh : am_Sh) (X : am_M) : Prop := ∀ t, t < sh.1 → ∀ i i', i < sh.2.1 t → i' < sh.2.1 t → X (9, t, i) 1 = X (9, t, i') 1 → ¬ X (9, t, i) 1 = -1 → i = i'
/-- each block in its set -/
def sr (sh : am_Sh) (X : am_M) : Prop := ∀ t, t < sh.1 → ∀ s w, s < zs sh t → w < wy sh t → ∀ b, b < 256 → X (9, t, s * wy sh t + w) 1 = nI b → b % zs sh t = s
def dr (sh : am_Sh) (X : am_M) : Prop := ∀ t, t < sh.1 → ∀ i, i < sh.2.1 t → ∃ m, m < 16 ∧ X (9, t, i) 2 = nI m
/-- dirty words in tiers that write back, nowhere else -/
def d0 (sh : am_Sh) (X : am_M) : Prop := ∀ t, t < sh.1 → ¬ X (5, t, 0) 3 = 1 → ∀ i, i < sh.2.1 t → X (9, t, i) 2 = 0
/-- closed tiers keep what is above -/
def inn (sh : am_Sh) (X : am_M) : Prop := ∀ t u, t < u → u < sh.1 → ¬ X (5, u, 0) 4 = 0 → ∀ b, b < 256 → inT sh X t b → inT sh X u b
def II (sh : am_Sh) (X : am_M) : Prop := cI sh X ∧ uq sh X ∧ sr sh X ∧ dr sh X ∧ d0 sh X ∧ inn sh X
theorem ix_split (hs : shk sh) {t i : Nat} (ht : t < sh.1) (hi : i < sh.2.1 t) : ∃ s w, s < zs sh t ∧ w < wy sh t ∧ i = s * wy sh t + w := by
  have h := (hs.2.2 t ht)
  refine ⟨i / wy sh t, i % wy sh t, ?_, Nat.mod_lt _ (by omega), ?_⟩
  · rw [h.2.2.2] at hi
    exact Nat.div_lt_of_lt_mul (by rw [Nat.mul_comm]; exact hi)
  · have := Nat.div_add_mod i (wy sh t)
    rw [Nat.mul_comm] at this
    exact this.symm
theorem ci_inj {t s w s' w' : Nat} (hw : w < wy sh t) (hw' : w' < wy sh t) (h : s * wy sh t + w = s' * wy sh t + w') : s = s' ∧ w = w' := by
  have h1 : (s * wy sh t + w) / wy sh t = s := by rw [Nat.add_comm, Nat.add_mul_div_right _ _ (by omega), Nat.div_eq_of_lt hw, Nat.zero_add]
  have h2 : (s' * wy sh t + w') / wy sh t = s' := by rw [Nat.add_comm, Nat.add_mul_div_right _ _ (by omega), Nat.div_eq_of_lt hw', Nat.zero_add]
  have h3 : s = s' := by rw [← h1, ← h2, h]
  subst h3
  exact ⟨rfl, by omega⟩
theorem fnd_in (hs : shk sh) {t b i : Nat} (ht : t < sh.1) (h : fnd sh X t b = some i) : inT sh X t b := ⟨i, fnd_lt hs ht h, fnd_blk h⟩
theorem fnd_none (hs : shk sh) (hr : sr sh X) {t b : Nat} (ht : t < sh.1) (hb : b < 256) (h : fnd sh X t b = none) : ¬ inT sh X t b := by
  intro ⟨i, hi, hk⟩
  obtain ⟨s, w, h1, h2, rfl⟩ := ix_split hs ht hi
  have e := hr t ht s w h1 h2 b hb hk
  unfold fnd at h
  cases hq : ff (hasB sh X t (b % zs sh t) (nI b)) 0 (wy sh t) with
  | some w' => rw [hq] at h; cases h
  | none =>
    have := ff_none hq w (Nat.zero_le _) (by omega)
    unfold hasB at this
    rw [e] at this
    exact absurd hk (of_decide_eq_false this)
theorem fnd_of (hs : shk sh) (hu : uq sh X) (hr : sr sh X) {t b i : Nat} (ht : t < sh.1) (hb : b < 256) (hi : i < sh.2.1 t) (hk : X (9, t, i) 1 = nI b) : fnd sh X t b = some i := by
  cases h : fnd sh X t b with
  | none => exact absurd ⟨i, hi, hk⟩ (fnd_none hs hr ht hb h)
  | some i' =>
    have := hu t ht i' i (fnd_lt hs ht h) hi (by rw [fnd_blk h, hk]) (by rw [fnd_blk h]; exact nI_ne_m1 (by omega))
    rw [this]
theorem II_right (hs : shk sh) (h : II sh X) : right sh X := by
  intro t ht i hi b hb hk
  refine ⟨fnd_of hs h.2.1 h.2.2.1 ht hb hi hk, fun u htu hu hc hn => ?_⟩
  exact fnd_none hs h.2.2.1 hu hb hn (h.2.2.2.2.2 t u htu hu hc b hb ⟨i, hi, hk⟩)
theorem II_of (h : II sh X) (e : ∀ k j, (k.1 = 0 ∧ j = 4 ∨ k.1 = 5 ∧ j < 5 ∨ k.1 = 7 ∨ k.1 = 9 ∧ (j = 1 ∨ j = 2)) → X' k j = X k j) : II sh X' := by
  have e1 : ∀ t i, X' (9, t, i) 1 = X (9, t, i) 1 := fun t i => e _ _ (Or.inr (Or.inr (Or.inr ⟨rfl, Or.inl rfl⟩)))
  have e2 : ∀ t i, X' (9, t, i) 2 = X (9, t, i) 2 := fun t i => e _ _ (Or.inr (Or.inr (Or.inr ⟨rfl, Or.inr rfl⟩)))
  have e5 : ∀ t j, j < 5 → X' (5, t, 0) j = X (5, t, 0) j := fun t j hj => e _ _ (Or.inr (Or.inl ⟨rfl, hj⟩))
  obtain ⟨a, b, c, d, f, g⟩ := h
  refine ⟨cI_of a (fun k j q => e k j (by omega)), ?_, ?_, ?_, ?_, ?_⟩
  · intro t ht i i' hi hi'
    rw [e1, e1]; exact b t ht i i' hi hi'
  · intro t ht s w h1 h2 b' hb'
    rw [e1]; exact c t ht s w h1 h2 b' hb'
  · intro t ht i hi
    rw [e2]; exact d t ht i hi
  · intro t ht
    rw [e5 t 3 (by omega)]
    intro hc i hi
    rw [e2]; exact f t ht hc i hi
  · intro t u htu hu hc b' hb'
    rw [e5 u 4 (by omega)] at hc
    intro ⟨i, hi, hk⟩
    rw [e1] at hk
    obtain ⟨i', hi', hk'⟩ := g t u htu hu hc b' hb' ⟨i, hi, hk⟩
    exact ⟨i', hi', by rw [e1]; exact hk'⟩
theorem II_up (h : II sh X) {k : am_K} {j : Nat} {v : Int32} (hk : ¬ (k.1 = 0 ∧ j = 4 ∨ k.1 = 5 ∧ j < 5 ∨ k.1 = 7 ∨ k.1 = 9 ∧ (j = 1 ∨ j = 2))) : II sh (am_up X k j v) :=
  II_of h (fun k' j' q => am_up_n (fun e => hk (by rw [← e.1, ← e.2]; exact q)))
theorem II_inc8 (h : II sh X) (t j : Nat) : II sh (inc8 X t j) := II_up h (by simp)
theorem II_nuse (h : II sh X) (t i : Nat) : II sh (nuse X t i) := II_up (II_up (II_up (II_up h (by simp)) (by simp)) (by simp)) (by simp)
theorem II_cp (h : II sh X) {k0 k1 : am_K} {a b q : Nat} (hk : k1.1 = 3 ∨ k1.1 = 4 ∨ k1.1 = 10 ∨ k1.1 = 1) : II sh (am_cp X k0 k1 a b q) :=
  II_of h (fun k' j' r => am_cp_else (fun e => by subst e; omega))
theorem II_cpw (h : II sh X) {bits : Int32} {k0 k1 : am_K} {st i k : Nat} (hk : k1.1 = 3 ∨ k1.1 = 4 ∨ k1.1 = 10 ∨ k1.1 = 1) : II sh (cpw bits k0 k1 st i k X) :=
  II_of h (fun k' j' r => cpw_else (fun e => by subst e; omega) _ _ _)
/-- what does not depend on hands -/
theorem II_rest (h : II sh X) (hc : cI sh X') (e1 : ∀ t i, X' (9, t, i) 1 = X (9, t, i) 1) (e2 : ∀ t i, X' (9, t, i) 2 = X (9, t, i) 2) (e5 : ∀ t j, j < 5 → X' (5, t, 0) j = X (5, t, 0) j) : II sh X' := by
  obtain ⟨a, b, c, d, f, g⟩ := h
  refine ⟨hc, ?_, ?_, ?_, ?_, ?_⟩
  · intro t ht i i' hi hi'
    rw [e1, e1]; exact b t ht i i' hi hi'
  · intro t ht s w h1 h2 b' hb'
    rw [e1]; exact c t ht s w h1 h2 b' hb'
  · intro t ht i hi
    rw [e2]; exact d t ht i hi
  · intro t ht
    rw [e5 t 3 (by omega)]
    intro hc i hi
    rw [e2]; exact f t ht hc i hi
  · intro t u htu hu hc b' hb'
    rw [e5 u 4 (by omega)] at hc
    intro ⟨i, hi, hk⟩
    rw [e1] at hk
    obtain ⟨i', hi', hk'⟩ := g t u htu hu hc b' hb' ⟨i, hi, hk⟩
    exact ⟨i', hi', by rw [e1]; exact hk'⟩
/-- a dirty set of a line -/
theorem II_dirty (h : II sh X) {t i m : Nat} (hm : m < 16) (hd : ¬ X (5, t, 0) 3 = 1 → m = 0) : II sh (am_up X (9, t, i) 2 (nI m)) := by
  have e1 : ∀ t' i', am_up X (9, t, i) 2 (nI m) (9, t', i') 1 = X (9, t', i') 1 := fun t' i' => am_up_j (by decide)
  have e5 : ∀ t' j, am_up X (9, t, i) 2 (nI m) (5, t', 0) j = X (5, t', 0) j := fun t' j => am_up_k (by simp)
  obtain ⟨a, b, c, d, f, g⟩ := h
  refine ⟨cI_up a (by simp), ?_, ?_, ?_, ?_, ?_⟩
  · intro t ht i i' hi hi'
    rw [e1, e1]; exact b t ht i i' hi hi'
  · intro t ht s w h1 h2 b' hb'
    rw [e1]; exact c t ht s w h1 h2 b' hb'
  · intro t' ht i' hi
    rw [am_up_a]
    split
    · exact ⟨m, hm, rfl⟩
    · exact d t' ht i' hi
  · intro t' ht
    rw [e5]
    intro hc i' hi
    rw [am_up_a]
    split
    · rename_i q
      have : t' = t := by have := q.1; simp at this; exact this.1
      subst this
      rw [hd hc]
      rfl
    · exact f t' ht hc i' hi
  · intro t' u htu hu hc b' hb'
    rw [e5] at hc
    intro ⟨i', hi, hk⟩
    rw [e1] at hk
    obtain ⟨i'', hi', hk'⟩ := g t' u htu hu hc b' hb' ⟨i', hi, hk⟩
    exact ⟨i'', hi', by rw [e1]; exact hk'⟩
theorem go1_blk (X : am_M) (t i t' i' : Nat) : go1 X t i (9, t', i') 1 = if t' = t ∧ i' = i then -1 else X (9, t', i') 1 := by
  unfold go1
  rw [am_up_j (by decide), am_up_a]
  simp
theorem go1_drt (X : am_M) (t i t' i' : Nat) : go1 X t i (9, t', i') 2 = if t' = t ∧ i' = i then 0 else X (9, t', i') 2 := by
  unfold go1
  rw [am_up_a, am_up_j (by decide)]
  simp
theorem go1_else {k : am_K} {j : Nat} {t i : Nat} (h : ¬ (k = (9, t, i) ∧ (j = 1 ∨ j = 2))) : go1 X t i k j = X k j := by
  unfold go1
  rw [am_up_n (fun q => h ⟨q.1, Or.inr q.2⟩), am_up_n (fun q => h ⟨q.1, Or.inl q.2⟩)]
theorem II_go1 (h : II sh X) {t i : Nat} (hi : i < sh.2.1 t) (hcl : ¬ X (5, t, 0) 4 = 0 → ∀ b, b < 256 → X (9, t, i) 1 = nI b → ∀ u, u < t → ¬ inT sh X u b) : II sh (go1 X t i) := by
  have e5 : ∀ t' j, go1 X t i (5, t', 0) j = X (5, t', 0) j := fun t' j => go1_else (by simp)
  obtain ⟨a, b, c, d, f, g⟩ := h
  refine ⟨cI_go1 a t i, ?_, ?_, ?_, ?_, ?_⟩
  · intro t' ht i1 i2 h1 h2
    rw [go1_blk, go1_blk]
    split
    · intro _ hn; exact absurd rfl hn
    · split
      · intro he hn; exact absurd he hn
      · exact b t' ht i1 i2 h1 h2
  · intro t' ht s w h1 h2 b' hb'
    rw [go1_blk]
    split
    · intro he; exact absurd he.symm (nI_ne_m1 (by omega))
    · exact c t' ht s w h1 h2 b' hb'
  · intro t' ht i' hi'
    rw [go1_drt]
    split
    · exact ⟨0, by decide, rfl⟩
    · exact d t' ht i' hi'
  · intro t' ht
    rw [e5]
    intro hc i' hi'
    rw [go1_drt]
    split
    · rfl
    · exact f t' ht hc i' hi'
  · intro t' u htu hu hc b' hb'
    rw [e5] at hc
    intro ⟨i', hi', hk⟩
    rw [go1_blk] at hk
    split at hk
    · exact absurd hk.symm (nI_ne_m1 (by omega))
    · obtain ⟨i2, hi2, hk2⟩ := g t' u htu hu hc b' hb' ⟨i', hi', hk⟩
      by_cases hq : u = t ∧ i2 = i
      · obtain ⟨rfl, rfl⟩ := hq
        exact absurd ⟨i', hi', hk⟩ (hcl hc b' hb' hk2 t' htu)
      · exact ⟨i2, hi2, by rw [go1_blk, if_neg hq]; exact hk2⟩
theorem plac_blk (X : am_M) (t i : Nat) (v : Int32) (t' i' : Nat) : plac X t i v (9, t', i') 1 = if t' = t ∧ i' = i then v else X (9, t', i') 1 := by
  unfold plac nuse
  simp [am_up_a]
theorem plac_drt (X : am_M) (t i : Nat) (v : Int32) (t' i' : Nat) : plac X t i v (9, t', i') 2 = if t' = t ∧ i' = i then 0 else X (9, t', i') 2 := by
  unfold plac nuse
  simp [am_up_a]
theorem plac_else {k : am_K} {j : Nat} {t i : Nat} {v : Int32} (h : ¬ (k = (9, t, i) ∧ 1 ≤ j ∧ j < 7)) (h5 : ¬ (k = (5, t, 0) ∧ j = 8)) : plac X t i v k j = X k j := by
  unfold plac nuse
  rw [am_up_n (fun q => h ⟨q.1, by omega⟩), am_up_n (fun q => h ⟨q.1, by omega⟩), am_up_n (fun q => h ⟨q.1, by omega⟩), am_up_n (fun q => h ⟨q.1, by omega⟩), am_up_n h5, am_up_n (fun q => h ⟨q.1, by omega⟩), am_up_n (fun q => h ⟨q.1, by omega⟩), am_up_n (fun q => h ⟨q.1, by omega⟩)]
theorem nuse_else {k : am_K} {j : Nat} {t i : Nat} (h : ¬ (k = (9, t, i) ∧ 4 ≤ j ∧ j < 7)) (h5 : ¬ (k = (5, t, 0) ∧ j = 8)) : nuse X t i k j = X k j := by
  unfold nuse
  rw [am_up_n (fun q => h ⟨q.1, by omega⟩), am_up_n (fun q => h ⟨q.1, by omega⟩), am_up_n (fun q => h ⟨q.1, by omega⟩), am_up_n h5]
/-- placing a block in a free line of its set -/
theorem II_plac (hs : shk sh) (h : II sh X) {t b w : Nat} (ht : t < sh.1) (hw : w < wy sh t) (hb : b < 256) (hn : ¬ inT sh X t b) (hcl : ∀ u, t < u → u < sh.1 → ¬ X (5, u, 0) 4 = 0 → inT sh X u b) (hfree : X (9, t, b % zs sh t * wy sh t + w) 1 = -1) : II sh (plac X t (b % zs sh t * wy sh t + w) (nI b)) := by
  have e5 : ∀ t' j, j < 5 → plac X t (b % zs sh t * wy sh t + w) (nI b) (5, t', 0) j = X (5, t', 0) j := fun t' j hj => plac_else (by simp) (by simp; omega)
  obtain ⟨a, bb, c, d, f, g⟩ := h
  refine ⟨cI_plac a _ _ hb, ?_, ?_, ?_, ?_, ?_⟩
  · intro t' ht' i1 i2 h1 h2
    rw [plac_blk, plac_blk]
    split
    · rename_i q1
      split
      · rename_i q2
        intro _ _; omega
      · intro he hn'
        exact absurd ⟨i2, by rw [← q1.1]; exact h2, by rw [← q1.1]; exact he.symm⟩ hn
    · split
      · rename_i q2
        intro he _
        exact absurd ⟨i1, by rw [← q2.1]; exact h1, by rw [← q2.1]; exact he⟩ hn
      · exact bb t' ht' i1 i2 h1 h2
  · intro t' ht' s w' h1 h2 b' hb'
    rw [plac_blk]
    split
    · rename_i q
      obtain ⟨rfl, q2⟩ := q
      intro he
      have : b = b' := (nI_eq (by omega) (by omega)).mp he
      subst this
      exact (ci_inj h2 hw q2).1.symm
    · exact c t' ht' s w' h1 h2 b' hb'
  · intro t' ht' i' hi'
    rw [plac_drt]
    split
    · exact ⟨0, by decide, rfl⟩
    · exact d t' ht' i' hi'
  · intro t' ht'
    rw [e5 _ _ (by omega)]
    intro hc i' hi'
    rw [plac_drt]
    split
    · rfl
    · exact f t' ht' hc i' hi'
  · have keep : ∀ u b', b' < 256 → inT sh X u b' → inT sh (plac X t (b % zs sh t * wy sh t + w) (nI b)) u b' := by
      intro u b' hb' ⟨i2, hi2, hk2⟩
      refine ⟨i2, hi2, ?_⟩
      rw [plac_blk, if_neg]
      · exact hk2
      · rintro ⟨rfl, rfl⟩
        rw [hfree] at hk2
        exact absurd hk2.symm (nI_ne_m1 (by omega))
    intro t' u htu hu hc b' hb'
    rw [e5 _ _ (by omega)] at hc
    intro ⟨i', hi', hk⟩
    rw [plac_blk] at hk
    split at hk
    · rename_i q
      obtain ⟨rfl, rfl⟩ := q
      have : b = b' := (nI_eq (by omega) (by omega)).mp hk
      subst this
      exact keep u b hb (hcl u htu hu hc)
    · exact keep u b' hb' (g t' u htu hu hc b' hb' ⟨i', hi', hk⟩)
end IV
