/-! The class's memory and the reference's: they say the same. -/
def mi (t s w : Nat) : Nat := 64 * t + 4 * s + w
abbrev ci (sh : am_Sh) (t s w : Nat) : Nat := s * wy sh t + w
/-- no line is left out -/
abbrev nol : Nat × Nat × Nat := (9, 9, 9)
def rl (sh : am_Sh) (q : Nat × Nat × Nat) (X M : am_M) (t s w : Nat) : Prop := M (21, 10, 0) (mi t s w) = X (9, t, ci sh t s w) 1 ∧ (¬ X (9, t, ci sh t s w) 1 = -1 → M (21, 11, 0) (mi t s w) = X (9, t, ci sh t s w) 2 ∧ M (21, 14, 0) (mi t s w) = X (9, t, ci sh t s w) 5 ∧ M (21, 15, 0) (mi t s w) = X (9, t, ci sh t s w) 6 ∧ (¬ (t, s, w) = q → ∀ k, k < 4 → M (21, 16, 0) (4 * mi t s w + k) = X (10, t, ci sh t s w) k))
def od (x y a b : Int32) : Prop := (x < y ∧ a < b) ∨ (y < x ∧ b < a)
def rt (sh : am_Sh) (c : Nat) (X M : am_M) (t : Nat) : Prop := ∃ T, T ≤ c ∧ X (5, t, 0) 8 = nI T ∧ ∀ s w, s < zs sh t → w < wy sh t → ¬ X (9, t, ci sh t s w) 1 = -1 → (∃ p u p' u', p ≤ T ∧ u ≤ T ∧ p' ≤ c ∧ u' ≤ c ∧ X (9, t, ci sh t s w) 3 = nI p ∧ X (9, t, ci sh t s w) 4 = nI u ∧ M (21, 12, 0) (mi t s w) = nI p' ∧ M (21, 13, 0) (mi t s w) = nI u') ∧ ∀ s' w', s' < zs sh t → w' < wy sh t → ¬ X (9, t, ci sh t s' w') 1 = -1 → ¬ (s = s' ∧ w = w') → od (X (9, t, ci sh t s w) 3) (X (9, t, ci sh t s' w') 3) (M (21, 12, 0) (mi t s w)) (M (21, 12, 0) (mi t s' w')) ∧ od (X (9, t, ci sh t s w) 4) (X (9, t, ci sh t s' w') 4) (M (21, 13, 0) (mi t s w)) (M (21, 13, 0) (mi t s' w'))
def rA (sh : am_Sh) (c : Nat) (X M : am_M) : Prop := M (20, 0, 0) 1 = nI sh.1 ∧ M (20, 0, 0) 17 = nI c ∧ M (20, 0, 0) 19 = X (0, 0, 0) 5 ∧ M (20, 0, 0) 20 = X (0, 0, 0) 6 ∧ M (20, 0, 0) 2 = X (0, 0, 0) 7 ∧ ∀ j, j < 1024 → M (21, 18, 0) j = X (1, 0, 0) j
def rB (sh : am_Sh) (X M : am_M) : Prop := ∀ t, t < sh.1 → (M (21, 3, 0) t = nI (zs sh t) ∧ M (21, 4, 0) t = nI (wy sh t) ∧ M (21, 5, 0) t = X (5, t, 0) 2 ∧ M (21, 6, 0) t = X (5, t, 0) 3 ∧ M (21, 7, 0) t = X (5, t, 0) 4) ∧ (∀ j, j < 6 → M (21, 8, 0) (6 * t + j) = X (8, t, 0) j) ∧ (∀ s, s < zs sh t → M (21, 9, 0) (16 * t + s) = X (7, t, 0) s)
def rC (sh : am_Sh) (q : Nat × Nat × Nat) (X M : am_M) : Prop := ∀ t s w, t < sh.1 → s < zs sh t → w < wy sh t → rl sh q X M t s w
def rD (sh : am_Sh) (c : Nat) (X M : am_M) : Prop := ∀ t, t < sh.1 → rt sh c X M t
def rel (sh : am_Sh) (c : Nat) (q : Nat × Nat × Nat) (X M : am_M) : Prop := rA sh c X M ∧ rB sh X M ∧ rC sh q X M ∧ rD sh c X M
section RL
variable {sh : am_Sh} {c c' : Nat} {q q' : Nat × Nat × Nat} {X X' M M' : am_M}
theorem mi_inj {t s w t' s' w' : Nat} (hs : s < 16) (hw : w < 4) (hs' : s' < 16) (hw' : w' < 4) (h : mi t s w = mi t' s' w') : t = t' ∧ s = s' ∧ w = w' := by unfold mi at h; omega
theorem mi_lt {t s w : Nat} (ht : t < 4) (hs : s < 16) (hw : w < 4) : mi t s w < 256 := by unfold mi; omega
theorem sw_lt (hs : shk sh) {t s w : Nat} (ht : t < sh.1) (h1 : s < zs sh t) (h2 : w < wy sh t) : s < 16 ∧ w < 4 ∧ t < 4 := by
  have := zs_le hs ht
  have := (hs.2.2 t ht).2.2.1
  have := hs.1
  omega
theorem rt_mono {t : Nat} (h : rt sh c X M t) (hc : c ≤ c') (e8 : X' (5, t, 0) 8 = X (5, t, 0) 8) (e : ∀ s w, s < zs sh t → w < wy sh t → ¬ X' (9, t, ci sh t s w) 1 = -1 → ¬ X (9, t, ci sh t s w) 1 = -1 ∧ X' (9, t, ci sh t s w) 3 = X (9, t, ci sh t s w) 3 ∧ X' (9, t, ci sh t s w) 4 = X (9, t, ci sh t s w) 4 ∧ M' (21, 12, 0) (mi t s w) = M (21, 12, 0) (mi t s w) ∧ M' (21, 13, 0) (mi t s w) = M (21, 13, 0) (mi t s w)) : rt sh c' X' M' t := by
  obtain ⟨T, h1, h2, h3⟩ := h
  refine ⟨T, by omega, by rw [e8]; exact h2, fun s w hs hw hp => ?_⟩
  obtain ⟨p1, p2, p3, p4, p5⟩ := e s w hs hw hp
  obtain ⟨⟨p, u, p', u', a1, a2, a3, a4, a5, a6, a7, a8⟩, h4⟩ := h3 s w hs hw p1
  refine ⟨⟨p, u, p', u', a1, a2, by omega, by omega, p2.trans a5, p3.trans a6, p4.trans a7, p5.trans a8⟩, fun s' w' hs' hw' hp' hne => ?_⟩
  obtain ⟨q1, q2, q3, q4, q5⟩ := e s' w' hs' hw' hp'
  rw [p2, p3, p4, p5, q2, q3, q4, q5]
  exact h4 s' w' hs' hw' q1 hne
/-- the cells of the reference that speak of the class's -/
def mvis (k : am_K) (j : Nat) : Prop := k = (20, 0, 0) ∧ (j = 1 ∨ j = 2 ∨ j = 17 ∨ j = 19 ∨ j = 20) ∨ ∃ a, k = (21, a, 0) ∧ (3 ≤ a ∧ a ≤ 16 ∨ a = 18)
theorem mv20 {j : Nat} (h : j = 1 ∨ j = 2 ∨ j = 17 ∨ j = 19 ∨ j = 20) : mvis (20, 0, 0) j := Or.inl ⟨rfl, h⟩
theorem mv21 {a j : Nat} (h : 3 ≤ a ∧ a ≤ 16 ∨ a = 18) : mvis (21, a, 0) j := Or.inr ⟨a, rfl, h⟩
theorem rel_M (h : rel sh c q X M) (e : ∀ k j, mvis k j → M' k j = M k j) : rel sh c q X M' := by
  obtain ⟨⟨a1, a2, a3, a4, a5, a6⟩, hB, hC, hD⟩ := h
  refine ⟨⟨?_, ?_, ?_, ?_, ?_, ?_⟩, fun t ht => ?_, fun t s w ht hs hw => ?_, fun t ht => ?_⟩
  · rw [e _ _ (mv20 (by omega))]; exact a1
  · rw [e _ _ (mv20 (by omega))]; exact a2
  · rw [e _ _ (mv20 (by omega))]; exact a3
  · rw [e _ _ (mv20 (by omega))]; exact a4
  · rw [e _ _ (mv20 (by omega))]; exact a5
  · intro j hj; rw [e _ _ (mv21 (by omega))]; exact a6 j hj
  · obtain ⟨⟨b1, b2, b3, b4, b5⟩, b6, b7⟩ := hB t ht
    refine ⟨⟨?_, ?_, ?_, ?_, ?_⟩, fun j hj => ?_, fun s hs => ?_⟩
    · rw [e _ _ (mv21 (by omega))]; exact b1
    · rw [e _ _ (mv21 (by omega))]; exact b2
    · rw [e _ _ (mv21 (by omega))]; exact b3
    · rw [e _ _ (mv21 (by omega))]; exact b4
    · rw [e _ _ (mv21 (by omega))]; exact b5
    · rw [e _ _ (mv21 (by omega))]; exact b6 j hj
    · rw [e _ _ (mv21 (by omega))]; exact b7 s hs
  · obtain ⟨r1, r2⟩ := hC t s w ht hs hw
    refine ⟨by rw [e _ _ (mv21 (by omega))]; exact r1, fun hp => ?_⟩
    obtain ⟨r3, r4, r5, r6⟩ := r2 hp
    refine ⟨?_, ?_, ?_, fun hq k hk => ?_⟩
    · rw [e _ _ (mv21 (by omega))]; exact r3
    · rw [e _ _ (mv21 (by omega))]; exact r4
    · rw [e _ _ (mv21 (by omega))]; exact r5
    · rw [e _ _ (mv21 (by omega))]; exact r6 hq k hk
  · exact rt_mono (hD t ht) (Nat.le_refl _) rfl (fun s w _ _ hp => ⟨hp, rfl, rfl, e _ _ (mv21 (by omega)), e _ _ (mv21 (by omega))⟩)
theorem rel_X (h : rel sh c q X M) (e : ∀ k j, (k.1 = 0 ∨ k.1 = 1 ∨ k.1 = 5 ∨ k.1 = 7 ∨ k.1 = 8 ∨ k.1 = 9) → X' k j = X k j) (e10 : ∀ t s w, t < sh.1 → s < zs sh t → w < wy sh t → ¬ X (9, t, ci sh t s w) 1 = -1 → ¬ (t, s, w) = q → ∀ k, k < 4 → X' (10, t, ci sh t s w) k = X (10, t, ci sh t s w) k) : rel sh c q X' M := by
  obtain ⟨⟨a1, a2, a3, a4, a5, a6⟩, hB, hC, hD⟩ := h
  refine ⟨⟨a1, a2, ?_, ?_, ?_, ?_⟩, fun t ht => ?_, fun t s w ht hs hw => ?_, fun t ht => ?_⟩
  · rw [e _ _ (by simp)]; exact a3
  · rw [e _ _ (by simp)]; exact a4
  · rw [e _ _ (by simp)]; exact a5
  · intro j hj; rw [e _ _ (by simp)]; exact a6 j hj
  · obtain ⟨⟨b1, b2, b3, b4, b5⟩, b6, b7⟩ := hB t ht
    refine ⟨⟨b1, b2, ?_, ?_, ?_⟩, fun j hj => ?_, fun s hs => ?_⟩
    · rw [e _ _ (by simp)]; exact b3
    · rw [e _ _ (by simp)]; exact b4
    · rw [e _ _ (by simp)]; exact b5
    · rw [e _ _ (by simp)]; exact b6 j hj
    · rw [e _ _ (by simp)]; exact b7 s hs
  · obtain ⟨r1, r2⟩ := hC t s w ht hs hw
    have e9 : ∀ j, X' (9, t, ci sh t s w) j = X (9, t, ci sh t s w) j := fun j => e _ _ (by simp)
    refine ⟨by rw [e9]; exact r1, fun hp => ?_⟩
    rw [e9] at hp
    obtain ⟨r3, r4, r5, r6⟩ := r2 hp
    refine ⟨by rw [e9]; exact r3, by rw [e9]; exact r4, by rw [e9]; exact r5, fun hq k hk => ?_⟩
    rw [e10 t s w ht hs hw hp hq k hk]
    exact r6 hq k hk
  · exact rt_mono (hD t ht) (Nat.le_refl _) (e _ _ (by simp)) (fun s w _ _ hp => ⟨by rw [e _ _ (by simp)] at hp; exact hp, e _ _ (by simp), e _ _ (by simp), rfl, rfl⟩)
/-- one line changes -/
theorem rel_line (hsh : shk sh) (h : rel sh c q X M) {t0 s0 w0 : Nat} (ht0 : t0 < sh.1) (hs0 : s0 < zs sh t0) (hw0 : w0 < wy sh t0) (hc : c ≤ c') (hq : ∀ p : Nat × Nat × Nat, p.1 < sh.1 → ¬ p = (t0, s0, w0) → ¬ p = q' → ¬ p = q)
    (eX : ∀ k j, (k.1 = 0 ∨ k.1 = 1 ∨ k.1 = 5 ∨ k.1 = 7 ∨ k.1 = 8) → ¬ (k = (5, t0, 0) ∧ j = 8) → X' k j = X k j)
    (eL : ∀ k j, (k.1 = 9 ∨ k.1 = 10) → ¬ (k.2.1 = t0 ∧ k.2.2 = ci sh t0 s0 w0) → X' k j = X k j)
    (eM : ∀ k j, mvis k j → ¬ (k = (20, 0, 0) ∧ j = 17) → ¬ (∃ a, k = (21, a, 0) ∧ (10 ≤ a ∧ a ≤ 15 ∧ j = mi t0 s0 w0 ∨ a = 16 ∧ 4 * mi t0 s0 w0 ≤ j ∧ j < 4 * mi t0 s0 w0 + 4)) → M' k j = M k j)
    (ck : M' (20, 0, 0) 17 = nI c') (hl : rl sh q' X' M' t0 s0 w0) (htm : rt sh c' X' M' t0) : rel sh c' q' X' M' := by
  obtain ⟨⟨a1, a2, a3, a4, a5, a6⟩, hB, hC, hD⟩ := h
  have em20 : ∀ j, (j = 1 ∨ j = 2 ∨ j = 19 ∨ j = 20) → M' (20, 0, 0) j = M (20, 0, 0) j := fun j hj => eM _ _ (mv20 (by omega)) (by simp; omega) (by simp)
  have em21 : ∀ a j, (3 ≤ a ∧ a ≤ 9 ∨ a = 18) → M' (21, a, 0) j = M (21, a, 0) j := fun a j ha => eM _ _ (mv21 (by omega)) (by simp) (by rintro ⟨a', e, r⟩; simp at e; omega)
  have x5 : ∀ t j, ¬ j = 8 → X' (5, t, 0) j = X (5, t, 0) j := fun t j hj => eX _ _ (by simp) (fun r => hj r.2)
  refine ⟨⟨?_, ck, ?_, ?_, ?_, ?_⟩, fun t ht => ?_, fun t s w ht hs hw => ?_, fun t ht => ?_⟩
  · rw [em20 _ (by omega)]; exact a1
  · rw [em20 _ (by omega), eX _ _ (by simp) (by simp)]; exact a3
  · rw [em20 _ (by omega), eX _ _ (by simp) (by simp)]; exact a4
  · rw [em20 _ (by omega), eX _ _ (by simp) (by simp)]; exact a5
  · intro j hj; rw [em21 _ _ (by omega), eX _ _ (by simp) (by simp)]; exact a6 j hj
  · obtain ⟨⟨b1, b2, b3, b4, b5⟩, b6, b7⟩ := hB t ht
    refine ⟨⟨?_, ?_, ?_, ?_, ?_⟩, fun j hj => ?_, fun s hs => ?_⟩
    · rw [em21 _ _ (by omega)]; exact b1
    · rw [em21 _ _ (by omega)]; exact b2
    · rw [em21 _ _ (by omega), x5 _ _ (by omega)]; exact b3
    · rw [em21 _ _ (by omega), x5 _ _ (by omega)]; exact b4
    · rw [em21 _ _ (by omega), x5 _ _ (by omega)]; exact b5
    · rw [em21 _ _ (by omega), eX _ _ (by simp) (by simp)]; exact b6 j hj
    · rw [em21 _ _ (by omega), eX _ _ (by simp) (by simp)]; exact b7 s hs
  · by_cases hp : (t, s, w) = (t0, s0, w0)
    · simp at hp
      obtain ⟨rfl, rfl, rfl⟩ := hp
      exact hl
    · obtain ⟨r1, r2⟩ := hC t s w ht hs hw
      obtain ⟨k1, k2, k3⟩ := sw_lt hsh ht hs hw
      obtain ⟨k4, k5, k6⟩ := sw_lt hsh ht0 hs0 hw0
      have hmi : ¬ mi t s w = mi t0 s0 w0 := fun e => hp (by obtain ⟨e1, e2, e3⟩ := mi_inj k1 k2 k4 k5 e; rw [e1, e2, e3])
      have hci : ¬ (t = t0 ∧ ci sh t s w = ci sh t0 s0 w0) := by
        rintro ⟨rfl, e⟩
        obtain ⟨e2, e3⟩ := ci_inj hw hw0 e
        exact hp (by rw [e2, e3])
      have e9 : ∀ j, X' (9, t, ci sh t s w) j = X (9, t, ci sh t s w) j := fun j => eL _ _ (by simp) hci
      have em : ∀ a, 10 ≤ a → a ≤ 15 → M' (21, a, 0) (mi t s w) = M (21, a, 0) (mi t s w) := fun a h1 h2 => eM _ _ (mv21 (by omega)) (by simp) (by rintro ⟨a', e, r⟩; simp at e; omega)
      refine ⟨by rw [em _ (by omega) (by omega), e9]; exact r1, fun hpr => ?_⟩
      rw [e9] at hpr
      obtain ⟨r3, r4, r5, r6⟩ := r2 hpr
      refine ⟨by rw [em _ (by omega) (by omega), e9]; exact r3, by rw [em _ (by omega) (by omega), e9]; exact r4, by rw [em _ (by omega) (by omega), e9]; exact r5, fun hq2 k hk => ?_⟩
      rw [eL _ _ (by simp) hci, eM _ _ (mv21 (by omega)) (by simp) (by rintro ⟨a', e, r⟩; simp at e; omega)]
      exact r6 (hq _ ht hp hq2) k hk
  · by_cases hp : t = t0
    · subst hp; exact htm
    · refine rt_mono (hD t ht) hc (eX _ _ (by simp) (by simp; exact hp)) (fun s w hs hw hpr => ?_)
      obtain ⟨k1, k2, k3⟩ := sw_lt hsh ht hs hw
      obtain ⟨k4, k5, k6⟩ := sw_lt hsh ht0 hs0 hw0
      have hmi : ¬ mi t s w = mi t0 s0 w0 := fun e => hp (mi_inj k1 k2 k4 k5 e).1
      have e9 : ∀ j, X' (9, t, ci sh t s w) j = X (9, t, ci sh t s w) j := fun j => eL _ _ (by simp) (fun r => hp r.1)
      have em : ∀ a, 10 ≤ a → a ≤ 15 → M' (21, a, 0) (mi t s w) = M (21, a, 0) (mi t s w) := fun a h1 h2 => eM _ _ (mv21 (by omega)) (by simp) (by rintro ⟨a', e, r⟩; simp at e; omega)
      rw [e9] at hpr
      exact ⟨hpr, e9 3, e9 4, em 12 (by omega) (by omega), em 13 (by omega) (by omega)⟩
end RL
