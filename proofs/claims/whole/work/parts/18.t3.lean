-- finding, room, choosing: the same on both sides
section RN
variable {sh : am_Sh} {c : Nat} {q : Nat × Nat × Nat} {X X' M M' : am_M} {t s w : Nat}
theorem rel_mcf (hsh : shk sh) (h : rel sh c q X M) (ht : t < sh.1) : mcf M t (zs sh t) (wy sh t) := by
  have h1 := zs_le hsh ht
  have h2 := hsh.2.2 t ht
  have h4 := hsh.1
  exact ⟨by omega, h1.1, h1.2, h2.2.1, h2.2.2.1, (h.2.1 t ht).1.1, (h.2.1 t ht).1.2.1⟩
theorem mfl_none {v : Int32} {f : Nat} : ∀ (k w : Nat) (c : Int32), (∀ u, w ≤ u → u < w + k → ¬ M (21, 10, 0) (f + u) = v) → mfl M v f w k c = c := by
  intro k
  induction k with
  | zero => exact fun _ _ _ => rfl
  | succ k ih =>
    intro w c h
    unfold mfl
    rw [if_neg (h w (Nat.le_refl _) (by omega))]
    exact ih _ _ (fun u a b => h u (by omega) (by omega))
theorem mfl_one {v : Int32} {f x : Nat} : ∀ (k w : Nat) (c : Int32), w ≤ x → x < w + k → M (21, 10, 0) (f + x) = v → (∀ u, w ≤ u → u < w + k → ¬ u = x → ¬ M (21, 10, 0) (f + u) = v) → mfl M v f w k c = nI (f + x) := by
  intro k
  induction k with
  | zero => intro w c h1 h2; omega
  | succ k ih =>
    intro w c h1 h2 h3 h4
    unfold mfl
    by_cases e : w = x
    · subst e
      rw [if_pos h3]
      exact mfl_none _ _ _ (fun u a b => h4 u (by omega) (by omega) (by omega))
    · rw [if_neg (h4 w (Nat.le_refl _) (by omega) e)]
      exact ih _ _ (by omega) (by omega) h3 (fun u a b => h4 u (by omega) (by omega))
theorem rel_blk (h : rel sh c q X M) (ht : t < sh.1) (hs : s < zs sh t) (hw : w < wy sh t) : M (21, 10, 0) (64 * t + 4 * s + w) = X (9, t, ci sh t s w) 1 := (h.2.2.1 t s w ht hs hw).1
/-- find answers the same line -/
theorem rel_find (hsh : shk sh) (h : rel sh c q X M) (hu : uq sh X) (ht : t < sh.1) {b : Nat} (hb : b < 256) : (fnd sh X t b = none ∧ mfl M (nI b) (64 * t + 4 * (b % zs sh t)) 0 (wy sh t) (-1) = -1) ∨ ∃ w, w < wy sh t ∧ fnd sh X t b = some (ci sh t (b % zs sh t) w) ∧ mfl M (nI b) (64 * t + 4 * (b % zs sh t)) 0 (wy sh t) (-1) = nI (mi t (b % zs sh t) w) := by
  have hset := b_set hsh ht b
  unfold fnd
  cases hf : ff (hasB sh X t (b % zs sh t) (nI b)) 0 (wy sh t) with
  | none =>
    left
    refine ⟨rfl, mfl_none _ _ _ (fun u _ hu2 => ?_)⟩
    rw [rel_blk h ht hset (show u < wy sh t by omega)]
    exact of_decide_eq_false (ff_none hf u (Nat.zero_le _) hu2)
  | some w =>
    right
    obtain ⟨-, h2, h3, -⟩ := ff_some hf
    have hk : X (9, t, ci sh t (b % zs sh t) w) 1 = nI b := of_decide_eq_true h3
    refine ⟨w, by omega, rfl, mfl_one _ _ _ (Nat.zero_le _) h2 (by rw [rel_blk h ht hset (show w < wy sh t by omega)]; exact hk) (fun u _ hu2 hne he => hne ?_)⟩
    rw [rel_blk h ht hset (show u < wy sh t by omega)] at he
    have := hu t ht _ _ (lx_lt hsh ht hset (show u < wy sh t by omega)) (lx_lt hsh ht hset (show w < wy sh t by omega)) (he.trans hk.symm) (by rw [he]; exact nI_ne_m1 (by omega))
    exact (ci_inj (show u < wy sh t by omega) (show w < wy sh t by omega) this).2
theorem ff_snoc {p : Nat → Bool} : ∀ (k w : Nat), ff p w (k + 1) = match ff p w k with
    | some v => some v
    | none => if p (w + k) = true then some (w + k) else none := by
  intro k
  induction k with
  | zero => intro w; rfl
  | succ k ih =>
    intro w
    rw [show ff p w (k + 1 + 1) = if p w = true then some w else ff p (w + 1) (k + 1) from rfl, ih, show ff p w (k + 1) = if p w = true then some w else ff p (w + 1) k from rfl]
    by_cases h : p w = true
    · rw [if_pos h, if_pos h]
    · rw [if_neg h, if_neg h, show w + 1 + k = w + (k + 1) by omega]
theorem mfr_eq {f : Nat} : ∀ (k : Nat) (c : Int32), mfr M f k c = match ff (fun u => decide (M (21, 10, 0) (f + u) < 0)) 0 k with
    | some w => nI (f + w)
    | none => c := by
  intro k
  induction k with
  | zero => intro c; rfl
  | succ k ih =>
    intro c
    unfold mfr
    rw [ih, ff_snoc]
    cases hq : ff (fun u => decide (M (21, 10, 0) (f + u) < 0)) 0 k with
    | some w => rfl
    | none =>
      dsimp only
      rw [Nat.zero_add]
      by_cases h : M (21, 10, 0) (f + k) < 0
      · rw [if_pos h, if_pos (decide_eq_true h)]
      · rw [if_neg h, if_neg (by simpa using h)]
theorem rel_free (hsh : shk sh) (h : rel sh c q X M) (hc : cI sh X) (ht : t < sh.1) (hs : s < zs sh t) : mfr M (64 * t + 4 * s) (wy sh t) (-1) = match ff (freeB sh X t s) 0 (wy sh t) with
    | some w => nI (mi t s w)
    | none => -1 := by
  rw [mfr_eq]
  have e : ff (fun u => decide (M (21, 10, 0) (64 * t + 4 * s + u) < 0)) 0 (wy sh t) = ff (freeB sh X t s) 0 (wy sh t) := by
    refine ff_congr (fun u _ hu => ?_)
    unfold freeB
    rw [rel_blk h ht hs (show u < wy sh t by omega)]
    rcases (hc.2 t ht).2 _ (lx_lt hsh ht hs (show u < wy sh t by omega)) with k | ⟨b, hb, k⟩
    · rw [show X (9, t, ci sh t s u) 1 = -1 from k]; decide
    · rw [show X (9, t, ci sh t s u) 1 = nI b from k, decide_eq_false (nI_pos (by omega)), decide_eq_false (nI_ne_m1 (by omega))]
  rw [e]
  rfl
/-- a least one, found from the front and from the back -/
theorem fgo_min {g : Nat → Nat → Bool} (y : Nat) (htr : ∀ a b d, a < y → b < y → d < y → ¬ a = d → g a b = true → g b d = true → g a d = true) (hto : ∀ a b, a < y → b < y → ¬ a = b → g a b = true ∨ g b a = true) (hg : ∀ a b, a < y → b < y → gb X t (ci sh t s a) (ci sh t s b) = g a b) : ∀ (k w f : Nat), w + k = y → f < w → (y = wy sh t) → (∀ u, u < w → ¬ u = f → g f u = true) → fgo sh X t s f w k < y ∧ ∀ u, u < y → ¬ u = fgo sh X t s f w k → g (fgo sh X t s f w k) u = true := by
  intro k
  induction k with
  | zero => intro w f h1 h2 _ h3; exact ⟨by unfold fgo; omega, fun u hu => by unfold fgo; exact h3 u (by omega)⟩
  | succ k ih =>
    intro w f h1 h2 hy h3
    unfold fgo
    rw [show s * wy sh t + w = ci sh t s w from rfl, show s * wy sh t + f = ci sh t s f from rfl, hg w f (by omega) (by omega)]
    by_cases h : g w f = true
    · rw [if_pos h]
      refine ih (w + 1) w (by omega) (by omega) hy (fun u hu hne => ?_)
      by_cases e : u = f
      · subst e; exact h
      · exact htr w f u (by omega) (by omega) (by omega) (by omega) h (h3 u (by omega) e)
    · rw [if_neg h]
      refine ih (w + 1) f (by omega) (by omega) hy (fun u hu hne => ?_)
      by_cases e : u = w
      · subst e
        exact (hto u f (by omega) (by omega) hne).resolve_left h
      · exact h3 u (by omega) hne
theorem mch_min {g : Nat → Nat → Bool} {f a : Nat} (y : Nat) (h2 : ¬ M (21, 5, 0) t = 2) (htr : ∀ a b d, a < y → b < y → d < y → ¬ a = d → g a b = true → g b d = true → g a d = true) (hto : ∀ a b, a < y → b < y → ¬ a = b → g a b = true ∨ g b a = true) (hir : ∀ a, a < y → g a a = false) (hg : ∀ a b, a < y → b < y → mgb M t (f + a) (f + b) = g a b) : ∀ (k e : Nat), k ≤ y → e < y → (∀ u, k ≤ u → u < y → ¬ u = e → g e u = true) → mch M t f y a k e < y ∧ ∀ u, u < y → ¬ u = mch M t f y a k e → g (mch M t f y a k e) u = true := by
  intro k
  induction k with
  | zero => intro e _ he h3; exact ⟨by unfold mch; exact he, fun u hu => by unfold mch; exact h3 u (Nat.zero_le _) hu⟩
  | succ k ih =>
    intro e hk he h3
    unfold mch
    rw [if_neg h2, hg k e (by omega) he]
    by_cases h : g k e = true
    · rw [if_pos h]
      refine ih k (by omega) (by omega) (fun u h4 h5 hne => ?_)
      by_cases e2 : u = e
      · subst e2; exact h
      · exact htr k e u (by omega) he h5 (by omega) h (h3 u (by omega) h5 e2)
    · rw [if_neg h]
      refine ih e (by omega) he (fun u h4 h5 hne => ?_)
      by_cases e2 : u = k
      · subst e2
        exact (hto u e (by omega) he hne).resolve_left h
      · exact h3 u (by omega) h5 hne
theorem i_irr (x : Int32) : ¬ x < x := by rw [Int32.lt_iff_toInt_lt]; omega
theorem i_asy {x y : Int32} (h : x < y) : ¬ y < x := by rw [Int32.lt_iff_toInt_lt] at *; omega
theorem i_trs {x y z : Int32} (h : x < y) (h' : y < z) : x < z := by rw [Int32.lt_iff_toInt_lt] at *; omega
theorem i_tri (x y : Int32) (h : ¬ x = y) : x < y ∨ y < x := by
  rw [Int32.lt_iff_toInt_lt, Int32.lt_iff_toInt_lt]
  have : ¬ x.toInt = y.toInt := fun e => h (Int32.toInt_inj.mp e)
  omega
theorem od_iff {x y a b : Int32} (h : od x y a b) : (decide (x < y) = decide (a < b)) ∧ ¬ x = y ∧ ¬ a = b := by
  rcases h with ⟨h1, h2⟩ | ⟨h1, h2⟩
  · exact ⟨by rw [decide_eq_true h1, decide_eq_true h2], fun e => i_irr y (by rw [e] at h1; exact h1), fun e => i_irr b (by rw [e] at h2; exact h2)⟩
  · exact ⟨by rw [decide_eq_false (i_asy h1), decide_eq_false (i_asy h2)], fun e => i_irr y (by rw [e] at h1; exact h1), fun e => i_irr b (by rw [e] at h2; exact h2)⟩
/-- how lines are chosen is one of four -/
def chk (sh : am_Sh) (X : am_M) : Prop := ∀ t, t < sh.1 → (X (5, t, 0) 2 = 0 ∨ X (5, t, 0) 2 = 1 ∨ X (5, t, 0) 2 = 2 ∨ X (5, t, 0) 2 = 3)
theorem gb_eq (hch : chk sh X) (h : rel sh c q X M) (ht : t < sh.1) (h2 : ¬ X (5, t, 0) 2 = 2) (hs : s < zs sh t) (hp : ∀ w, w < wy sh t → ¬ X (9, t, ci sh t s w) 1 = -1) {a b : Nat} (ha : a < wy sh t) (hb : b < wy sh t) : mgb M t (64 * t + 4 * s + a) (64 * t + 4 * s + b) = gb X t (ci sh t s a) (ci sh t s b) := by
  have e5 := (h.2.1 t ht).1.2.2.1
  obtain ⟨T, -, -, hT⟩ := h.2.2.2 t ht
  have r : ∀ w, w < wy sh t → M (21, 14, 0) (64 * t + 4 * s + w) = X (9, t, ci sh t s w) 5 := fun w hw => ((h.2.2.1 t s w ht hs hw).2 (hp w hw)).2.1
  unfold mgb gb
  rw [e5, r a ha, r b hb]
  by_cases e : a = b
  · subst e
    rcases hch t ht with k | k | k | k
    · rw [k]; simp [i_irr]
    · rw [k]; simp [i_irr]
    · exact absurd k h2
    · rw [k]; simp [i_irr]
  · obtain ⟨o3, o4⟩ := (hT s a hs ha (hp a ha)).2 s b hs hb (hp b hb) (fun q => e q.2)
    have o3' := od_iff o3
    have o4' := od_iff o4
    have e3 : (X (9, t, ci sh t s a) 3 < X (9, t, ci sh t s b) 3) ↔ (M (21, 12, 0) (64 * t + 4 * s + a) < M (21, 12, 0) (64 * t + 4 * s + b)) := by
      have := o3'.1
      constructor
      · intro q; rw [decide_eq_true q] at this; exact of_decide_eq_true this.symm
      · intro q; rw [show decide (M (21, 12, 0) (mi t s a) < M (21, 12, 0) (mi t s b)) = true from decide_eq_true q] at this; exact of_decide_eq_true this
    rcases hch t ht with k | k | k | k
    · rw [k]; simp; exact e3.symm
    · rw [k]; simp
      have := o4'.1
      constructor
      · intro q; rw [show decide (M (21, 13, 0) (mi t s a) < M (21, 13, 0) (mi t s b)) = true from decide_eq_true q] at this; exact of_decide_eq_true this
      · intro q; rw [decide_eq_true q] at this; exact of_decide_eq_true this.symm
    · exact absurd k h2
    · rw [k]
      by_cases e2 : X (9, t, ci sh t s a) 5 = X (9, t, ci sh t s b) 5
      · rw [e2]; simp [i_irr]; exact e3.symm
      · simp [e2]
theorem gb_trans (hch : chk sh X) (ht : t < sh.1) {i j k : Nat} (h1 : gb X t i j = true) (h2 : gb X t j k = true) : gb X t i k = true := by
  unfold gb at *
  rcases hch t ht with e | e | e | e <;> rw [e] at h1 h2 ⊢ <;> simp at h1 h2 ⊢
  · exact i_trs h1 h2
  · exact i_trs h1 h2
  · exact i_trs h1 h2
  · by_cases a : X (9, t, i) 5 = X (9, t, j) 5
    · by_cases b : X (9, t, j) 5 = X (9, t, k) 5
      · simp [a, b] at h1 h2 ⊢; exact i_trs h1 h2
      · simp [a, b] at h1 h2 ⊢; exact h2
    · by_cases b : X (9, t, j) 5 = X (9, t, k) 5
      · simp [← b, a] at h1 h2 ⊢; exact h1
      · simp [a, b] at h1 h2
        have h3 := i_trs h1 h2
        have : ¬ X (9, t, i) 5 = X (9, t, k) 5 := fun e => i_irr _ (by rw [e] at h3; exact h3)
        simp [this]; exact h3
theorem gb_total (hch : chk sh X) (h : rel sh c q X M) (ht : t < sh.1) (hs : s < zs sh t) (hp : ∀ w, w < wy sh t → ¬ X (9, t, ci sh t s w) 1 = -1) {a b : Nat} (ha : a < wy sh t) (hb : b < wy sh t) (hne : ¬ a = b) : gb X t (ci sh t s a) (ci sh t s b) = true ∨ gb X t (ci sh t s b) (ci sh t s a) = true := by
  obtain ⟨T, -, -, hT⟩ := h.2.2.2 t ht
  obtain ⟨o3, o4⟩ := (hT s a hs ha (hp a ha)).2 s b hs hb (hp b hb) (fun q => hne q.2)
  have n3 := i_tri _ _ (od_iff o3).2.1
  have n4 := i_tri _ _ (od_iff o4).2.1
  unfold gb
  rcases hch t ht with e | e | e | e <;> rw [e] <;> simp
  · exact n3
  · exact n4
  · exact n3
  · by_cases k : X (9, t, ci sh t s a) 5 = X (9, t, ci sh t s b) 5
    · simp [k]; exact n3
    · have k' : ¬ X (9, t, ci sh t s b) 5 = X (9, t, ci sh t s a) 5 := fun e => k e.symm
      simp [k, k']; exact i_tri _ _ k
theorem gb_asym (hch : chk sh X) (ht : t < sh.1) {i j : Nat} (h1 : gb X t i j = true) : ¬ gb X t j i = true := by
  intro h2
  have h := gb_trans hch ht h1 h2
  unfold gb at h
  rcases hch t ht with e | e | e | e <;> rw [e] at h <;> simp [i_irr] at h
/-- not by the clock: the same line is chosen -/
theorem rel_first (hsh : shk sh) (hch : chk sh X) (h : rel sh c q X M) (ht : t < sh.1) (h2 : ¬ X (5, t, 0) 2 = 2) (hs : s < zs sh t) (hp : ∀ w, w < wy sh t → ¬ X (9, t, ci sh t s w) 1 = -1) (a : Nat) : mcho M t s (wy sh t) a = fgo sh X t s 0 1 (wy sh t - 1) := by
  have e5 := (h.2.1 t ht).1.2.2.1
  have hw := (hsh.2.2 t ht).2.1
  have htr : ∀ a b d, a < wy sh t → b < wy sh t → d < wy sh t → ¬ a = d → gb X t (ci sh t s a) (ci sh t s b) = true → gb X t (ci sh t s b) (ci sh t s d) = true → gb X t (ci sh t s a) (ci sh t s d) = true := fun a b d _ _ _ _ g1 g2 => gb_trans hch ht g1 g2
  have hto : ∀ a b, a < wy sh t → b < wy sh t → ¬ a = b → gb X t (ci sh t s a) (ci sh t s b) = true ∨ gb X t (ci sh t s b) (ci sh t s a) = true := fun a b g1 g2 g3 => gb_total hch h ht hs hp g1 g2 g3
  have hir : ∀ a, a < wy sh t → gb X t (ci sh t s a) (ci sh t s a) = false := by
    intro a _
    cases hq : gb X t (ci sh t s a) (ci sh t s a) with
    | false => rfl
    | true => exact absurd hq (gb_asym hch ht hq)
  have f1 := fgo_min (X := X) (sh := sh) (t := t) (s := s) (g := fun a b => gb X t (ci sh t s a) (ci sh t s b)) (wy sh t) htr hto (fun _ _ _ _ => rfl) (wy sh t - 1) 1 0 (by omega) (by omega) rfl (fun u hu hne => by omega)
  have f2 := mch_min (M := M) (t := t) (f := 64 * t + 4 * s) (a := a) (g := fun a b => gb X t (ci sh t s a) (ci sh t s b)) (wy sh t) (by rw [e5]; exact h2) htr hto hir (fun a b g1 g2 => gb_eq hch h ht h2 hs hp g1 g2) (wy sh t) 0 (Nat.le_refl _) (by omega) (fun u h4 h5 => by omega)
  unfold mcho
  rw [if_neg (by rw [e5]; exact h2)]
  refine Decidable.byContradiction fun hne => ?_
  exact gb_asym hch ht (f2.2 _ f1.1 (fun e => hne e.symm)) (f1.2 _ f2.1 hne)
end RN
