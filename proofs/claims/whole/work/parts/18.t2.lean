-- steps on both sides
section RM
variable {sh : am_Sh} {c : Nat} {q : Nat × Nat × Nat} {X X' M M' : am_M} {t s w : Nat}
theorem rel_B (h : rel sh c q X M) (hB : rB sh X' M') (eX : ∀ k j, ¬ k.1 = 7 → ¬ k.1 = 8 → X' k j = X k j) (eM : ∀ k j, mvis k j → ¬ k = (21, 8, 0) → ¬ k = (21, 9, 0) → M' k j = M k j) : rel sh c q X' M' := by
  obtain ⟨⟨a1, a2, a3, a4, a5, a6⟩, -, hC, hD⟩ := h
  have em20 : ∀ j, (j = 1 ∨ j = 2 ∨ j = 17 ∨ j = 19 ∨ j = 20) → M' (20, 0, 0) j = M (20, 0, 0) j := fun j hj => eM _ _ (mv20 hj) (by simp) (by simp)
  have em21 : ∀ a j, (10 ≤ a ∧ a ≤ 16 ∨ a = 18) → M' (21, a, 0) j = M (21, a, 0) j := fun a j ha => eM _ _ (mv21 (by omega)) (by simp; omega) (by simp; omega)
  have e9 : ∀ t i j, X' (9, t, i) j = X (9, t, i) j := fun t i j => eX _ _ (by simp) (by simp)
  refine ⟨⟨?_, ?_, ?_, ?_, ?_, ?_⟩, hB, fun t s w ht hs hw => ?_, fun t ht => ?_⟩
  · rw [em20 _ (by omega)]; exact a1
  · rw [em20 _ (by omega)]; exact a2
  · rw [em20 _ (by omega), eX _ _ (by simp) (by simp)]; exact a3
  · rw [em20 _ (by omega), eX _ _ (by simp) (by simp)]; exact a4
  · rw [em20 _ (by omega), eX _ _ (by simp) (by simp)]; exact a5
  · intro j hj; rw [em21 _ _ (by omega), eX _ _ (by simp) (by simp)]; exact a6 j hj
  · obtain ⟨r1, r2⟩ := hC t s w ht hs hw
    refine ⟨by rw [em21 _ _ (by omega), e9]; exact r1, fun hp => ?_⟩
    rw [e9] at hp
    obtain ⟨r3, r4, r5, r6⟩ := r2 hp
    refine ⟨by rw [em21 _ _ (by omega), e9]; exact r3, by rw [em21 _ _ (by omega), e9]; exact r4, by rw [em21 _ _ (by omega), e9]; exact r5, fun hq k hk => ?_⟩
    rw [em21 _ _ (by omega), eX _ _ (by simp) (by simp)]
    exact r6 hq k hk
  · exact rt_mono (hD t ht) (Nat.le_refl _) (eX _ _ (by simp) (by simp)) (fun s w _ _ hp => ⟨by rw [e9] at hp; exact hp, e9 _ _ _, e9 _ _ _, em21 _ _ (by omega), em21 _ _ (by omega)⟩)
theorem rel_cnt (h : rel sh c q X M) (ht : t < sh.1) {j : Nat} (hj : j < 6) (v : Int32) : rel sh c q (am_up X (8, t, 0) j v) (am_up M (21, 8, 0) (6 * t + j) v) := by
  refine rel_B h (fun t' ht' => ?_) (fun k j' h7 h8 => am_up_k (fun e => h8 (by rw [e]))) (fun k j' _ h8 h9 => am_up_k h8)
  obtain ⟨b1, b6, b7⟩ := h.2.1 t' ht'
  refine ⟨?_, fun j' hj' => ?_, fun s' hs' => ?_⟩
  · simp only [am_up_a]
    simpa using b1
  · rw [am_up_a, am_up_a]
    by_cases e : t' = t ∧ j' = j
    · rw [if_pos ⟨rfl, by omega⟩, if_pos ⟨by rw [e.1], e.2⟩]
    · rw [if_neg (fun r => e (by omega)), if_neg (fun r => e ⟨by have := r.1; simp at this; exact this, r.2⟩)]
      exact b6 j' hj'
  · rw [am_up_k (by simp), am_up_k (by simp)]; exact b7 s' hs'
theorem rel_hand (hsh : shk sh) (h : rel sh c q X M) (ht : t < sh.1) (hs : s < zs sh t) (v : Int32) : rel sh c q (am_up X (7, t, 0) s v) (am_up M (21, 9, 0) (16 * t + s) v) := by
  refine rel_B h (fun t' ht' => ?_) (fun k j' h7 h8 => am_up_k (fun e => h7 (by rw [e]))) (fun k j' _ h8 h9 => am_up_k h9)
  obtain ⟨b1, b6, b7⟩ := h.2.1 t' ht'
  have z1 := zs_le hsh ht
  refine ⟨?_, fun j' hj' => ?_, fun s' hs' => ?_⟩
  · simp only [am_up_a]
    simpa using b1
  · rw [am_up_k (by simp), am_up_k (by simp)]; exact b6 j' hj'
  · have z2 := zs_le hsh ht'
    rw [am_up_a, am_up_a]
    by_cases e : t' = t ∧ s' = s
    · rw [if_pos ⟨rfl, by omega⟩, if_pos ⟨by rw [e.1], e.2⟩]
    · rw [if_neg (fun r => e (by omega)), if_neg (fun r => e ⟨by have := r.1; simp at this; exact this, r.2⟩)]
      exact b7 s' hs'
theorem lineM {k : am_K} {j l : Nat} (a : Nat) (ha : 10 ≤ a ∧ a ≤ 15) (hn : ¬ (∃ a, k = (21, a, 0) ∧ (10 ≤ a ∧ a ≤ 15 ∧ j = l ∨ a = 16 ∧ 4 * l ≤ j ∧ j < 4 * l + 4))) : ¬ (k = (21, a, 0) ∧ j = l) := fun r => hn ⟨a, r.1, Or.inl ⟨ha.1, ha.2, r.2⟩⟩
/-- a field of a line that does not bear on times or blocks -/
theorem rel_mark (hsh : shk sh) (h : rel sh c q X M) (ht : t < sh.1) (hs : s < zs sh t) (hw : w < wy sh t) (v : Int32) : rel sh c q (am_up X (9, t, ci sh t s w) 6 v) (am_up M (21, 15, 0) (mi t s w) v) := by
  refine rel_line hsh h ht hs hw (Nat.le_refl _) (fun p _ _ a => a) (fun k j hk _ => am_up_k (fun e => by rw [e] at hk; simp at hk)) (fun k j hk hn => am_up_k (fun e => hn (by rw [e]; exact ⟨rfl, rfl⟩))) (fun k j hv _ hn => am_up_n (lineM 15 (by omega) hn)) ?_ ?_ ?_
  · rw [am_up_k (by simp)]; exact h.1.2.1
  · obtain ⟨r1, r2⟩ := h.2.2.1 t s w ht hs hw
    refine ⟨by rw [am_up_k (by simp), am_up_j (by decide)]; exact r1, fun hp => ?_⟩
    rw [am_up_j (by decide)] at hp
    obtain ⟨r3, r4, r5, r6⟩ := r2 hp
    refine ⟨by rw [am_up_k (by simp), am_up_j (by decide)]; exact r3, by rw [am_up_k (by simp), am_up_j (by decide)]; exact r4, by rw [am_up_same, am_up_same], fun hq k hk => ?_⟩
    rw [am_up_k (by simp), am_up_k (by simp)]
    exact r6 hq k hk
  · refine rt_mono (h.2.2.2 t ht) (Nat.le_refl _) (am_up_k (by simp)) (fun s' w' _ _ hp => ⟨by rw [am_up_j (by decide)] at hp; exact hp, am_up_j (by decide), am_up_j (by decide), am_up_k (by simp), am_up_k (by simp)⟩)
theorem rel_drt (hsh : shk sh) (h : rel sh c q X M) (ht : t < sh.1) (hs : s < zs sh t) (hw : w < wy sh t) (v : Int32) : rel sh c q (am_up X (9, t, ci sh t s w) 2 v) (am_up M (21, 11, 0) (mi t s w) v) := by
  refine rel_line hsh h ht hs hw (Nat.le_refl _) (fun p _ _ a => a) (fun k j hk _ => am_up_k (fun e => by rw [e] at hk; simp at hk)) (fun k j hk hn => am_up_k (fun e => hn (by rw [e]; exact ⟨rfl, rfl⟩))) (fun k j hv _ hn => am_up_n (lineM 11 (by omega) hn)) ?_ ?_ ?_
  · rw [am_up_k (by simp)]; exact h.1.2.1
  · obtain ⟨r1, r2⟩ := h.2.2.1 t s w ht hs hw
    refine ⟨by rw [am_up_k (by simp), am_up_j (by decide)]; exact r1, fun hp => ?_⟩
    rw [am_up_j (by decide)] at hp
    obtain ⟨r3, r4, r5, r6⟩ := r2 hp
    refine ⟨by rw [am_up_same, am_up_same], by rw [am_up_k (by simp), am_up_j (by decide)]; exact r4, by rw [am_up_k (by simp), am_up_j (by decide)]; exact r5, fun hq k hk => ?_⟩
    rw [am_up_k (by simp), am_up_k (by simp)]
    exact r6 hq k hk
  · refine rt_mono (h.2.2.2 t ht) (Nat.le_refl _) (am_up_k (by simp)) (fun s' w' _ _ hp => ⟨by rw [am_up_j (by decide)] at hp; exact hp, am_up_j (by decide), am_up_j (by decide), am_up_k (by simp), am_up_k (by simp)⟩)
/-- a line goes; what else the reference writes of it does not count -/
theorem rel_go (hsh : shk sh) (h : rel sh c q X M) (ht : t < sh.1) (hs : s < zs sh t) (hw : w < wy sh t) (e1 : M' (21, 10, 0) (mi t s w) = -1) (eM : ∀ k j, mvis k j → ¬ (k = (21, 10, 0) ∧ j = mi t s w) → ¬ (k = (21, 11, 0) ∧ j = mi t s w) → M' k j = M k j) : rel sh c q (go1 X t (ci sh t s w)) M' := by
  refine rel_line hsh h ht hs hw (Nat.le_refl _) (fun p _ _ a => a) (fun k j hk _ => go1_else (fun e => by rw [e.1] at hk; simp at hk)) (fun k j hk hn => go1_else (fun e => hn (by rw [e.1]; exact ⟨rfl, rfl⟩))) (fun k j hv _ hn => eM k j hv (lineM 10 (by omega) hn) (lineM 11 (by omega) hn)) ?_ ?_ ?_
  · rw [eM _ _ (mv20 (by omega)) (by simp) (by simp)]; exact h.1.2.1
  · have e : go1 X t (ci sh t s w) (9, t, ci sh t s w) 1 = -1 := by rw [go1_blk]; simp
    exact ⟨by rw [e1, e], fun hp => absurd e hp⟩
  · refine rt_mono (h.2.2.2 t ht) (Nat.le_refl _) (go1_else (by simp)) (fun s' w' hs' hw' hp => ⟨?_, go1_else (by simp), go1_else (by simp), eM _ _ (mv21 (by omega)) (by simp) (by simp), eM _ _ (mv21 (by omega)) (by simp) (by simp)⟩)
    rw [go1_blk] at hp
    split at hp
    · exact absurd rfl hp
    · exact hp
/-- the words of a line -/
theorem rel_wds (hsh : shk sh) (h : rel sh c q X M) (hq : q = nol ∨ q = (t, s, w)) (ht : t < sh.1) (hs : s < zs sh t) (hw : w < wy sh t) (eX : ∀ k j, ¬ k = (10, t, ci sh t s w) → X' k j = X k j) (eM : ∀ k j, mvis k j → ¬ (k = (21, 16, 0) ∧ 4 * mi t s w ≤ j ∧ j < 4 * mi t s w + 4) → M' k j = M k j) (e : ¬ X (9, t, ci sh t s w) 1 = -1 → ∀ k, k < 4 → M' (21, 16, 0) (4 * mi t s w + k) = X' (10, t, ci sh t s w) k) : rel sh c nol X' M' := by
  have e9 : ∀ t' i j, X' (9, t', i) j = X (9, t', i) j := fun t' i j => eX _ _ (by simp)
  have em : ∀ a j, 10 ≤ a ∧ a ≤ 15 → M' (21, a, 0) j = M (21, a, 0) j := fun a j ha => eM _ _ (mv21 (by omega)) (by simp; omega)
  refine rel_line hsh h ht hs hw (Nat.le_refl _) (fun p _ h1 h2 => ?_) (fun k j hk _ => eX k j (fun e => by rw [e] at hk; simp at hk)) (fun k j hk hn => eX k j (fun e => hn (by rw [e]; exact ⟨rfl, rfl⟩))) (fun k j hv _ hn => eM k j hv (fun r => hn ⟨16, r.1, Or.inr ⟨rfl, r.2⟩⟩)) ?_ ?_ ?_
  · rcases hq with rfl | rfl
    · exact h2
    · exact h1
  · rw [eM _ _ (mv20 (by omega)) (by simp)]; exact h.1.2.1
  · obtain ⟨r1, r2⟩ := h.2.2.1 t s w ht hs hw
    refine ⟨by rw [em _ _ (by omega), e9]; exact r1, fun hp => ?_⟩
    rw [e9] at hp
    obtain ⟨r3, r4, r5, r6⟩ := r2 hp
    exact ⟨by rw [em _ _ (by omega), e9]; exact r3, by rw [em _ _ (by omega), e9]; exact r4, by rw [em _ _ (by omega), e9]; exact r5, fun _ k hk => e hp k hk⟩
  · exact rt_mono (h.2.2.2 t ht) (Nat.le_refl _) (eX _ _ (by simp)) (fun s' w' _ _ hp => ⟨by rw [e9] at hp; exact hp, e9 _ _ _, e9 _ _ _, em _ _ (by omega), em _ _ (by omega)⟩)
theorem rel_unex (h : rel sh c (t, s, w) X M) (e : ∀ k, k < 4 → M (21, 16, 0) (4 * mi t s w + k) = X (10, t, ci sh t s w) k) : rel sh c nol X M := by
  refine ⟨h.1, h.2.1, fun t' s' w' ht' hs' hw' => ?_, h.2.2.2⟩
  obtain ⟨r1, r2⟩ := h.2.2.1 t' s' w' ht' hs' hw'
  refine ⟨r1, fun hp => ?_⟩
  obtain ⟨r3, r4, r5, r6⟩ := r2 hp
  refine ⟨r3, r4, r5, fun _ => ?_⟩
  by_cases hq : (t', s', w') = (t, s, w)
  · simp at hq
    obtain ⟨rfl, rfl, rfl⟩ := hq
    exact e
  · exact r6 hq
theorem muse_else {k : am_K} {j l : Nat} (h : ∀ a, 13 ≤ a → a ≤ 15 → ¬ (k = (21, a, 0) ∧ j = l)) (h20 : ¬ (k = (20, 0, 0) ∧ j = 17)) : muse M l k j = M k j := by
  unfold muse
  rw [am_up_n (h 15 (by omega) (by omega)), am_up_n (h 14 (by omega) (by omega)), am_up_n (h 13 (by omega) (by omega)), am_up_n h20]
theorem mplc_else {k : am_K} {j l : Nat} {v : Int32} (h : ∀ a, 10 ≤ a → a ≤ 15 → ¬ (k = (21, a, 0) ∧ j = l)) (h20 : ¬ (k = (20, 0, 0) ∧ j = 17)) : mplc M l v k j = M k j := by
  unfold mplc
  rw [am_up_n (h 12 (by omega) (by omega)), muse_else (fun a h1 h2 => h a (by omega) h2) h20, am_up_n (h 14 (by omega) (by omega)), am_up_n (h 11 (by omega) (by omega)), am_up_n (h 10 (by omega) (by omega))]
theorem od_new {T cc p p' : Nat} (hp : p ≤ T) (hp' : p' ≤ cc) (hT : T + 1 < 2 ^ 31) (hc : cc + 1 < 2 ^ 31) : od (nI (T + 1)) (nI p) (nI (cc + 1)) (nI p') ∧ od (nI p) (nI (T + 1)) (nI p') (nI (cc + 1)) :=
  ⟨Or.inr ⟨nI_lt (by omega) hT, nI_lt (by omega) hc⟩, Or.inl ⟨nI_lt (by omega) hT, nI_lt (by omega) hc⟩⟩
theorem rel_use (hsh : shk sh) (h : rel sh c q X M) (ht : t < sh.1) (hs : s < zs sh t) (hw : w < wy sh t) (hp : ¬ X (9, t, ci sh t s w) 1 = -1) (hc : c + 1 < 2 ^ 31) : rel sh (c + 1) q (nuse X t (ci sh t s w)) (muse M (mi t s w)) := by
  obtain ⟨T, hT, e8, hTt⟩ := h.2.2.2 t ht
  have hck := h.1.2.1
  have x4 : ∀ s' w', nuse X t (ci sh t s w) (9, t, ci sh t s' w') 4 = if ci sh t s' w' = ci sh t s w then nI (T + 1) else X (9, t, ci sh t s' w') 4 := by
    intro s' w'
    unfold nuse
    rw [am_up_j (by decide), am_up_j (by decide), am_up_a, am_up_k (by simp), e8, nI_1]
    simp
  have m13 : ∀ l, muse M (mi t s w) (21, 13, 0) l = if l = mi t s w then nI (c + 1) else M (21, 13, 0) l := by
    intro l
    unfold muse
    rw [am_up_k (by simp), am_up_k (by simp), am_up_a, am_up_k (by simp), hck, nI_1]
    simp
  have x3 : ∀ i, nuse X t (ci sh t s w) (9, t, i) 3 = X (9, t, i) 3 := fun i => nuse_else (by omega) (by simp)
  have x1 : ∀ i, nuse X t (ci sh t s w) (9, t, i) 1 = X (9, t, i) 1 := fun i => nuse_else (by omega) (by simp)
  have m12 : ∀ l, muse M (mi t s w) (21, 12, 0) l = M (21, 12, 0) l := fun l => muse_else (fun a h1 h2 r => by have := r.1; simp at this; omega) (by simp)
  refine rel_line hsh h ht hs hw (Nat.le_succ c) (fun p _ _ a => a) (fun k j hk hn => nuse_else (fun e => by rw [e.1] at hk; simp at hk) hn) (fun k j hk hn => nuse_else (fun e => hn (by rw [e.1]; exact ⟨rfl, rfl⟩)) (fun e => by rw [e.1] at hk; simp at hk)) (fun k j hv h17 hn => muse_else (fun a h1 h2 => lineM a (by omega) hn) h17) ?_ ?_ ?_
  · unfold muse
    rw [am_up_k (by simp), am_up_k (by simp), am_up_k (by simp), am_up_same, hck, nI_1]
  · obtain ⟨r1, r2⟩ := h.2.2.1 t s w ht hs hw
    obtain ⟨r3, r4, r5, r6⟩ := r2 hp
    refine ⟨by rw [muse_else (by simp; omega) (by simp), x1]; exact r1, fun _ => ⟨?_, ?_, ?_, fun hq k hk => ?_⟩⟩
    · rw [muse_else (by simp; omega) (by simp), nuse_else (by omega) (by simp)]; exact r3
    · unfold muse nuse
      rw [am_up_k (by simp), am_up_same, am_up_j (by decide), am_up_same, r4]
    · unfold muse nuse
      rw [am_up_same, am_up_same]
    · rw [muse_else (by simp; omega) (by simp), nuse_else (by simp) (by simp)]
      exact r6 hq k hk
  · refine ⟨T + 1, by omega, ?_, fun s1 w1 hs1 hw1 hp1 => ?_⟩
    · unfold nuse
      rw [am_up_k (by simp), am_up_k (by simp), am_up_k (by simp), am_up_same, e8, nI_1]
    · rw [x1] at hp1
      obtain ⟨⟨p, u, p', u', a1, a2, a3, a4, a5, a6, a7, a8⟩, h4⟩ := hTt s1 w1 hs1 hw1 hp1
      obtain ⟨k1, k2, k3⟩ := sw_lt hsh ht hs hw
      obtain ⟨k4, k5, k6⟩ := sw_lt hsh ht hs1 hw1
      have same : ∀ s2 w2, s2 < zs sh t → w2 < wy sh t → (ci sh t s2 w2 = ci sh t s w ↔ mi t s2 w2 = mi t s w) := by
        intro s2 w2 hs2 hw2
        obtain ⟨k7, k8, k9⟩ := sw_lt hsh ht hs2 hw2
        constructor
        · intro e; obtain ⟨rfl, rfl⟩ := ci_inj hw2 hw e; rfl
        · intro e; obtain ⟨-, rfl, rfl⟩ := mi_inj k7 k8 k1 k2 e; rfl
      constructor
      · by_cases e : ci sh t s1 w1 = ci sh t s w
        · exact ⟨p, T + 1, p', c + 1, by omega, by omega, by omega, by omega, by rw [x3]; exact a5, by rw [x4, if_pos e], by rw [m12]; exact a7, by rw [m13, if_pos ((same s1 w1 hs1 hw1).mp e)]⟩
        · exact ⟨p, u, p', u', by omega, by omega, by omega, by omega, by rw [x3]; exact a5, by rw [x4, if_neg e]; exact a6, by rw [m12]; exact a7, by rw [m13, if_neg (fun r => e ((same s1 w1 hs1 hw1).mpr r))]; exact a8⟩
      · intro s2 w2 hs2 hw2 hp2 hne
        rw [x1] at hp2
        obtain ⟨⟨p2, u2, p2', u2', c1, c2, c3, c4, c5, c6, c7, c8⟩, -⟩ := hTt s2 w2 hs2 hw2 hp2
        obtain ⟨o3, o4⟩ := h4 s2 w2 hs2 hw2 hp2 hne
        refine ⟨by rw [x3, x3, m12, m12]; exact o3, ?_⟩
        rw [x4, x4, m13, m13]
        by_cases e : ci sh t s1 w1 = ci sh t s w
        · have e2 : ¬ ci sh t s2 w2 = ci sh t s w := fun r => hne (ci_inj hw1 hw2 (e.trans r.symm))
          rw [if_pos e, if_neg e2, if_pos ((same s1 w1 hs1 hw1).mp e), if_neg (fun r => e2 ((same s2 w2 hs2 hw2).mpr r)), c6, c8]
          exact (od_new c2 c4 (by omega) hc).1
        · rw [if_neg e, if_neg (fun r => e ((same s1 w1 hs1 hw1).mpr r))]
          by_cases e2 : ci sh t s2 w2 = ci sh t s w
          · rw [if_pos e2, if_pos ((same s2 w2 hs2 hw2).mp e2), a6, a8]
            exact (od_new a2 a4 (by omega) hc).2
          · rw [if_neg e2, if_neg (fun r => e2 ((same s2 w2 hs2 hw2).mpr r))]
            exact o4
theorem rel_plc (hsh : shk sh) (h : rel sh c nol X M) (ht : t < sh.1) (hs : s < zs sh t) (hw : w < wy sh t) (hc : c + 1 < 2 ^ 31) (b : Nat) : rel sh (c + 1) (t, s, w) (plac X t (ci sh t s w) (nI b)) (mplc M (mi t s w) (nI b)) := by
  obtain ⟨T, hT, e8, hTt⟩ := h.2.2.2 t ht
  have hck := h.1.2.1
  have x4 : ∀ i, plac X t (ci sh t s w) (nI b) (9, t, i) 4 = if i = ci sh t s w then nI (T + 1) else X (9, t, i) 4 := by
    intro i
    unfold plac nuse
    simp only [am_up_a]
    simp
    rw [e8, nI_1]
  have x3 : ∀ i, plac X t (ci sh t s w) (nI b) (9, t, i) 3 = if i = ci sh t s w then nI (T + 1) else X (9, t, i) 3 := by
    intro i
    unfold plac nuse
    simp only [am_up_a]
    simp
    rw [e8, nI_1]
  have m13 : ∀ l, mplc M (mi t s w) (nI b) (21, 13, 0) l = if l = mi t s w then nI (c + 1) else M (21, 13, 0) l := by
    intro l
    unfold mplc muse
    simp only [am_up_a]
    simp
    rw [hck, nI_1]
  have m12 : ∀ l, mplc M (mi t s w) (nI b) (21, 12, 0) l = if l = mi t s w then nI (c + 1) else M (21, 12, 0) l := by
    intro l
    unfold mplc muse
    simp only [am_up_a]
    simp
    rw [hck, nI_1]
  have x1 : ∀ i, plac X t (ci sh t s w) (nI b) (9, t, i) 1 = if i = ci sh t s w then nI b else X (9, t, i) 1 := by
    intro i
    rw [plac_blk]
    simp
  refine rel_line hsh h ht hs hw (Nat.le_succ c) (fun p h1 _ _ e => by rw [e] at h1; have := hsh.1; have h2 : 9 < sh.1 := h1; omega) (fun k j hk hn => plac_else (fun e => by rw [e.1] at hk; simp at hk) hn) (fun k j hk hn => plac_else (fun e => hn (by rw [e.1]; exact ⟨rfl, rfl⟩)) (fun e => by rw [e.1] at hk; simp at hk)) (fun k j hv h17 hn => mplc_else (fun a h1 h2 => lineM a (by omega) hn) h17) ?_ ?_ ?_
  · unfold mplc muse
    simp only [am_up_a]
    simp
    rw [hck, nI_1]
  · refine ⟨?_, fun _ => ⟨?_, ?_, ?_, fun hq => absurd rfl hq⟩⟩
    · rw [x1, if_pos rfl]
      unfold mplc muse
      simp [am_up_a]
    · rw [plac_drt]
      unfold mplc muse
      simp [am_up_a]
    · unfold mplc muse plac nuse
      simp [am_up_a]
    · unfold mplc muse plac nuse
      simp [am_up_a]
  · refine ⟨T + 1, by omega, ?_, fun s1 w1 hs1 hw1 hp1 => ?_⟩
    · unfold plac nuse
      simp only [am_up_a]
      simp
      rw [e8, nI_1]
    · obtain ⟨k1, k2, k3⟩ := sw_lt hsh ht hs hw
      obtain ⟨k4, k5, k6⟩ := sw_lt hsh ht hs1 hw1
      have same : ∀ s2 w2, s2 < zs sh t → w2 < wy sh t → (ci sh t s2 w2 = ci sh t s w ↔ mi t s2 w2 = mi t s w) := by
        intro s2 w2 hs2 hw2
        obtain ⟨k7, k8, k9⟩ := sw_lt hsh ht hs2 hw2
        constructor
        · intro e; obtain ⟨rfl, rfl⟩ := ci_inj hw2 hw e; rfl
        · intro e; obtain ⟨-, rfl, rfl⟩ := mi_inj k7 k8 k1 k2 e; rfl
      rw [x1] at hp1
      constructor
      · by_cases e : ci sh t s1 w1 = ci sh t s w
        · exact ⟨T + 1, T + 1, c + 1, c + 1, by omega, by omega, by omega, by omega, by rw [x3, if_pos e], by rw [x4, if_pos e], by rw [m12, if_pos ((same s1 w1 hs1 hw1).mp e)], by rw [m13, if_pos ((same s1 w1 hs1 hw1).mp e)]⟩
        · rw [if_neg e] at hp1
          obtain ⟨⟨p, u, p', u', a1, a2, a3, a4, a5, a6, a7, a8⟩, -⟩ := hTt s1 w1 hs1 hw1 hp1
          have e' : ¬ mi t s1 w1 = mi t s w := fun r => e ((same s1 w1 hs1 hw1).mpr r)
          exact ⟨p, u, p', u', by omega, by omega, by omega, by omega, by rw [x3, if_neg e]; exact a5, by rw [x4, if_neg e]; exact a6, by rw [m12, if_neg e']; exact a7, by rw [m13, if_neg e']; exact a8⟩
      · intro s2 w2 hs2 hw2 hp2 hne
        rw [x1] at hp2
        rw [x3, x3, x4, x4, m12, m12, m13, m13]
        by_cases e : ci sh t s1 w1 = ci sh t s w
        · have e2 : ¬ ci sh t s2 w2 = ci sh t s w := fun r => hne (ci_inj hw1 hw2 (e.trans r.symm))
          have e2' : ¬ mi t s2 w2 = mi t s w := fun r => e2 ((same s2 w2 hs2 hw2).mpr r)
          have e' := (same s1 w1 hs1 hw1).mp e
          rw [if_neg e2] at hp2
          obtain ⟨⟨p2, u2, p2', u2', c1, c2, c3, c4, c5, c6, c7, c8⟩, -⟩ := hTt s2 w2 hs2 hw2 hp2
          rw [if_pos e, if_neg e2, if_pos e', if_neg e2', if_pos e, if_neg e2, if_pos e', if_neg e2', c5, c6, c7, c8]
          exact ⟨(od_new c1 c3 (by omega) hc).1, (od_new c2 c4 (by omega) hc).1⟩
        · have e' : ¬ mi t s1 w1 = mi t s w := fun r => e ((same s1 w1 hs1 hw1).mpr r)
          rw [if_neg e] at hp1
          obtain ⟨⟨p, u, p', u', a1, a2, a3, a4, a5, a6, a7, a8⟩, h4⟩ := hTt s1 w1 hs1 hw1 hp1
          by_cases e2 : ci sh t s2 w2 = ci sh t s w
          · have e2' := (same s2 w2 hs2 hw2).mp e2
            rw [if_neg e, if_pos e2, if_neg e', if_pos e2', if_neg e, if_pos e2, if_neg e', if_pos e2', a5, a6, a7, a8]
            exact ⟨(od_new a1 a3 (by omega) hc).2, (od_new a2 a4 (by omega) hc).2⟩
          · have e2' : ¬ mi t s2 w2 = mi t s w := fun r => e2 ((same s2 w2 hs2 hw2).mpr r)
            rw [if_neg e2] at hp2
            rw [if_neg e, if_neg e2, if_neg e', if_neg e2', if_neg e, if_neg e2, if_neg e', if_neg e2']
            exact h4 s2 w2 hs2 hw2 hp2 hne
end RM
