-- what a level leaves alone, and that it keeps what stands
section IW
variable {sh : am_Sh} {X X' X'' : am_M} {t : Nat} {key key' : am_K}
def unch (t : Nat) (k : am_K) (j : Nat) : Prop := k.1 = 0 ∧ (j = 4 ∨ j = 7) ∨ k.1 = 3 ∨ k.1 = 4 ∨ k.1 = 5 ∧ (j < 5 ∨ k.2.1 < t) ∨ k.1 = 7 ∧ k.2.1 < t ∨ k.1 = 8 ∧ k.2.1 < t ∨ k.1 = 9 ∧ 3 ≤ j ∧ k.2.1 < t ∨ k.1 = 10 ∧ k.2.1 < t ∨ 20 ≤ k.1
def cfr (t : Nat) (key : am_K) (X X' : am_M) : Prop := (∀ k j, unch t k j → ¬ k = key → X' k j = X k j) ∧ ∀ u, u < t → ∀ i, (X' (9, u, i) 1 = X (9, u, i) 1 ∧ X' (9, u, i) 2 = X (9, u, i) 2) ∨ (X' (9, u, i) 1 = -1 ∧ X' (9, u, i) 2 = 0)
abbrev nok : am_K := (19, 0, 0)
theorem cfr_refl (t : Nat) (key : am_K) (X : am_M) : cfr t key X X := ⟨fun _ _ _ _ => rfl, fun _ _ _ => Or.inl ⟨rfl, rfl⟩⟩
theorem cfr_trans (h : cfr t key X X') (h' : cfr t key X' X'') : cfr t key X X'' := by
  refine ⟨fun k j u n => (h'.1 k j u n).trans (h.1 k j u n), fun u hu i => ?_⟩
  rcases h'.2 u hu i with ⟨a, b⟩ | q
  · rcases h.2 u hu i with ⟨c, d⟩ | ⟨c, d⟩
    · exact Or.inl ⟨a.trans c, b.trans d⟩
    · exact Or.inr ⟨a.trans c, b.trans d⟩
  · exact Or.inr q
theorem unch_dn {k : am_K} {j : Nat} (h : unch t k j) : unch (t + 1) k j := by unfold unch at *; omega
theorem cfr_dn (h : cfr (t + 1) key X X') (hk : key = key' ∨ ∀ j, ¬ unch t key j) : cfr t key' X X' := by
  refine ⟨fun k j u n => h.1 k j (unch_dn u) (fun e => ?_), fun u hu i => h.2 u (by omega) i⟩
  subst e
  rcases hk with rfl | hk
  · exact n rfl
  · exact hk j u
theorem unch_nok (t j : Nat) : ¬ unch t nok j := by unfold unch; simp
theorem cfr_key (h : cfr t nok X X') : cfr t key X X' := ⟨fun k j u _ => h.1 k j u (fun e => by subst e; exact unch_nok t j u), h.2⟩
theorem cfr_up {k : am_K} {j : Nat} {v : Int32} (h : ¬ unch t k j) (h9 : ¬ (k.1 = 9 ∧ k.2.1 < t)) : cfr t key X (am_up X k j v) := by
  refine ⟨fun k' j' u _ => am_up_n (fun q => h (by rw [← q.1, ← q.2]; exact u)), fun u hu i => Or.inl ⟨am_up_k ?_, am_up_k ?_⟩⟩ <;> (intro e; apply h9; rw [← e]; exact ⟨rfl, hu⟩)
theorem unch_8 (t j : Nat) : ¬ unch t (8, t, 0) j := by unfold unch; simp
theorem unch_9 (t i j : Nat) : ¬ unch t (9, t, i) j := by unfold unch; simp
theorem unch_58 (t : Nat) : ¬ unch t (5, t, 0) 8 := by unfold unch; simp
theorem unch_7 (t j : Nat) : ¬ unch t (7, t, 0) j := by unfold unch; simp
theorem unch_10 (t i j : Nat) : ¬ unch t (10, t, i) j := by unfold unch; simp
theorem cfr_inc8 (j : Nat) : cfr t key X (inc8 X t j) := cfr_up (unch_8 t j) (by simp)
theorem cfr_nuse (i : Nat) : cfr t key X (nuse X t i) := by
  unfold nuse
  exact cfr_trans (cfr_trans (cfr_trans (cfr_up (unch_58 t) (by simp)) (cfr_up (unch_9 t i _) (by simp))) (cfr_up (unch_9 t i _) (by simp))) (cfr_up (unch_9 t i _) (by simp))
theorem cfr_plac (i : Nat) (v : Int32) : cfr t key X (plac X t i v) := by
  unfold plac
  exact cfr_trans (cfr_trans (cfr_trans (cfr_trans (cfr_up (unch_9 t i _) (by simp)) (cfr_up (unch_9 t i _) (by simp))) (cfr_up (unch_9 t i _) (by simp))) (cfr_nuse i)) (cfr_up (unch_9 t i _) (by simp))
theorem cfr_go1 (i : Nat) : cfr t key X (go1 X t i) := by
  unfold go1
  exact cfr_trans (cfr_up (unch_9 t i _) (by simp)) (cfr_up (unch_9 t i _) (by simp))
theorem cfr_cpw {bits : Int32} {k0 k1 : am_K} {st i n : Nat} (h : k1 = key ∨ ∀ j, ¬ unch t k1 j) (h9 : ¬ k1.1 = 9) : cfr t key X (cpw bits k0 k1 st i n X) := by
  refine ⟨fun k' j' u hn => cpw_else (fun q => ?_) _ _ _, fun u hu i => Or.inl ⟨cpw_else (fun e => h9 (by rw [← e])) _ _ _, cpw_else (fun e => h9 (by rw [← e])) _ _ _⟩⟩
  subst q
  rcases h with h | h
  · exact hn h
  · exact h j' u
theorem cfr_cp {k0 k1 : am_K} {a b n : Nat} (h : k1 = key ∨ ∀ j, ¬ unch t k1 j) (h9 : ¬ k1.1 = 9) : cfr t key X (am_cp X k0 k1 a b n) := by
  refine ⟨fun k' j' u hn => am_cp_else (fun q => ?_), fun u hu i => Or.inl ⟨am_cp_else (fun e => h9 (by rw [← e])), am_cp_else (fun e => h9 (by rw [← e]))⟩⟩
  subst q
  rcases h with h | h
  · exact hn h
  · exact h j' u
theorem cfr_thd {s : Nat} : ∀ (k : Nat) (X : am_M) (a c : Nat), cfr t key X (thd sh t s k X a c).1 := by
  intro k
  induction k with
  | zero => exact fun X a c => cfr_refl _ _ _
  | succ k ih =>
    intro X a c
    unfold thd
    split
    · exact cfr_up (unch_7 t s) (by simp)
    · exact cfr_trans (cfr_trans (cfr_up (unch_7 t s) (by simp)) (cfr_up (unch_9 t _ _) (by simp))) (ih _ _ _)
theorem cfr_chs {s a : Nat} : cfr t key X (chs sh X t s a).1 := by
  unfold chs
  split
  · exact cfr_thd _ _ _ _
  · exact cfr_refl _ _ _
theorem thd_else {s : Nat} {k' : am_K} {j' : Nat} (h7 : ¬ k' = (7, t, 0)) (h9 : ¬ (k'.1 = 9 ∧ j' = 6)) : ∀ (k : Nat) (X : am_M) (a c : Nat), (thd sh t s k X a c).1 k' j' = X k' j' := by
  intro k
  induction k with
  | zero => exact fun X a c => rfl
  | succ k ih =>
    intro X a c
    unfold thd
    split
    · dsimp only
      rw [am_up_k h7]
    · rw [ih, am_up_n (fun q => h9 ⟨by rw [q.1], q.2⟩), am_up_k h7]
theorem chs_else {s a : Nat} {k' : am_K} {j' : Nat} (h7 : ¬ k' = (7, t, 0)) (h9 : ¬ (k'.1 = 9 ∧ j' = 6)) : (chs sh X t s a).1 k' j' = X k' j' := by
  unfold chs
  split
  · exact thd_else h7 h9 _ _ _ _
  · rfl
theorem II_chs (hs : shk sh) (h : II sh X) (ht : t < sh.1) {s a : Nat} : II sh (chs sh X t s a).1 :=
  II_rest h (cI_chs hs h.1 ht) (fun _ _ => chs_else (by simp) (by simp)) (fun _ _ => chs_else (by simp) (by simp)) (fun _ _ _ => chs_else (by simp) (by simp))
theorem or16 : ∀ a b : Fin 16, nI a.val ||| nI b.val = nI (a.val ||| b.val) ∧ a.val ||| b.val < 16 := by decide +kernel
/-- what gathering does -/
abbrev gE (sh : am_Sh) (t i b v : Nat) (X X' : am_M) : Prop := (∀ k j, ¬ (k.1 = 9 ∧ (j = 1 ∨ j = 2)) → ¬ k = (10, t, i) → X' k j = X k j) ∧ (∀ u, u < v → ∀ i', i' < sh.2.1 u → X (9, u, i') 1 = nI b → X' (9, u, i') 1 = -1 ∧ X' (9, u, i') 2 = 0) ∧ (∀ u i', u < t → ¬ X (9, u, i') 1 = nI b → X' (9, u, i') 1 = X (9, u, i') 1 ∧ X' (9, u, i') 2 = X (9, u, i') 2) ∧ (∀ u, u < t → ∀ i', (X' (9, u, i') 1 = X (9, u, i') 1 ∧ X' (9, u, i') 2 = X (9, u, i') 2) ∨ (X' (9, u, i') 1 = -1 ∧ X' (9, u, i') 2 = 0)) ∧ (∀ u i', t ≤ u → X' (9, u, i') 1 = X (9, u, i') 1) ∧ (∀ u i', t ≤ u → ¬ (u = t ∧ i' = i) → X' (9, u, i') 2 = X (9, u, i') 2) ∧ (∃ m, m < 16 ∧ X' (9, t, i) 2 = nI m)
theorem gE.oth {sh : am_Sh} {t i b v : Nat} {X X' : am_M} (h : gE sh t i b v X X') : ∀ k j, ¬ (k.1 = 9 ∧ (j = 1 ∨ j = 2)) → ¬ k = (10, t, i) → X' k j = X k j := h.1
theorem gE.gone {sh : am_Sh} {t i b v : Nat} {X X' : am_M} (h : gE sh t i b v X X') : ∀ u, u < v → ∀ i', i' < sh.2.1 u → X (9, u, i') 1 = nI b → X' (9, u, i') 1 = -1 ∧ X' (9, u, i') 2 = 0 := h.2.1
theorem gE.stay {sh : am_Sh} {t i b v : Nat} {X X' : am_M} (h : gE sh t i b v X X') : ∀ u i', u < t → ¬ X (9, u, i') 1 = nI b → X' (9, u, i') 1 = X (9, u, i') 1 ∧ X' (9, u, i') 2 = X (9, u, i') 2 := h.2.2.1
theorem gE.up {sh : am_Sh} {t i b v : Nat} {X X' : am_M} (h : gE sh t i b v X X') : ∀ u, u < t → ∀ i', (X' (9, u, i') 1 = X (9, u, i') 1 ∧ X' (9, u, i') 2 = X (9, u, i') 2) ∨ (X' (9, u, i') 1 = -1 ∧ X' (9, u, i') 2 = 0) := h.2.2.2.1
theorem gE.b1 {sh : am_Sh} {t i b v : Nat} {X X' : am_M} (h : gE sh t i b v X X') : ∀ u i', t ≤ u → X' (9, u, i') 1 = X (9, u, i') 1 := h.2.2.2.2.1
theorem gE.b2 {sh : am_Sh} {t i b v : Nat} {X X' : am_M} (h : gE sh t i b v X X') : ∀ u i', t ≤ u → ¬ (u = t ∧ i' = i) → X' (9, u, i') 2 = X (9, u, i') 2 := h.2.2.2.2.2.1
theorem gE.dd {sh : am_Sh} {t i b v : Nat} {X X' : am_M} (h : gE sh t i b v X X') : ∃ m, m < 16 ∧ X' (9, t, i) 2 = nI m := h.2.2.2.2.2.2
theorem gat1_eff (hs : shk sh) (hu : uq sh X) (hr : sr sh X) (hd : dr sh X) {i b u : Nat} (ht : t < sh.1) (hi : i < sh.2.1 t) (hut : u < t) (hb : b < 256) (hk : X (9, t, i) 1 = nI b) :
    (∀ k j, ¬ (k.1 = 9 ∧ (j = 1 ∨ j = 2)) → ¬ k = (10, t, i) → gat1 sh t i u X k j = X k j) ∧ (∀ i', i' < sh.2.1 u → X (9, u, i') 1 = nI b → gat1 sh t i u X (9, u, i') 1 = -1 ∧ gat1 sh t i u X (9, u, i') 2 = 0) ∧ (∀ u' i', ¬ (u' = u ∧ X (9, u', i') 1 = nI b) → gat1 sh t i u X (9, u', i') 1 = X (9, u', i') 1 ∧ (¬ (u' = t ∧ i' = i) → gat1 sh t i u X (9, u', i') 2 = X (9, u', i') 2)) ∧ (∀ i', (gat1 sh t i u X (9, u, i') 1 = X (9, u, i') 1 ∧ gat1 sh t i u X (9, u, i') 2 = X (9, u, i') 2) ∨ (gat1 sh t i u X (9, u, i') 1 = -1 ∧ gat1 sh t i u X (9, u, i') 2 = 0)) ∧ ∃ m, m < 16 ∧ gat1 sh t i u X (9, t, i) 2 = nI m := by
  have hbn : bkN X t i = b := by unfold bkN; rw [hk]; exact nI_clamp (by omega)
  unfold gat1
  rw [hbn]
  cases hf : fnd sh X u b with
  | none =>
    dsimp only
    exact ⟨fun _ _ _ _ => rfl, fun i' hi' hk' => absurd ⟨i', hi', hk'⟩ (fnd_none hs hr (by omega) hb hf), fun _ _ _ => ⟨rfl, fun _ => rfl⟩, fun _ => Or.inl ⟨rfl, rfl⟩, hd t ht i hi⟩
  | some i0 =>
    dsimp only
    have hi0 := fnd_lt hs (show u < sh.1 by omega) hf
    have hk0 := fnd_blk hf
    have e1 : ∀ u' i', go1 (am_up (cpw (X (9, u, i0) 2) (10, u, i0) (10, t, i) 0 0 4 X) (9, t, i) 2 (X (9, t, i) 2 ||| X (9, u, i0) 2)) u i0 (9, u', i') 1 = if u' = u ∧ i' = i0 then -1 else X (9, u', i') 1 := by
      intro u' i'
      rw [go1_blk, am_up_j (by decide), cpw_else (by simp)]
    have e2 : ∀ u' i', go1 (am_up (cpw (X (9, u, i0) 2) (10, u, i0) (10, t, i) 0 0 4 X) (9, t, i) 2 (X (9, t, i) 2 ||| X (9, u, i0) 2)) u i0 (9, u', i') 2 = if u' = u ∧ i' = i0 then 0 else if u' = t ∧ i' = i then X (9, t, i) 2 ||| X (9, u, i0) 2 else X (9, u', i') 2 := by
      intro u' i'
      rw [go1_drt, am_up_a, cpw_else (by simp)]
      simp
    refine ⟨fun k j h1 h2 => ?_, fun i' hi' hk' => ?_, fun u' i' hn => ?_, fun i' => ?_, ?_⟩
    · rw [go1_else (fun q => h1 ⟨by rw [q.1], q.2⟩), am_up_n (fun q => h1 ⟨by rw [q.1], Or.inr q.2⟩), cpw_else h2]
    · have : i' = i0 := hu u (by omega) i' i0 hi' hi0 (by rw [hk', hk0]) (by rw [hk']; exact nI_ne_m1 (by omega))
      subst this
      rw [e1, e2]
      simp
    · have hne : ¬ (u' = u ∧ i' = i0) := fun q => hn ⟨q.1, by rw [q.1, q.2]; exact hk0⟩
      rw [e1, e2, if_neg hne, if_neg hne]
      exact ⟨rfl, fun q => if_neg q⟩
    · rw [e1, e2]
      by_cases q : i' = i0
      · subst q; right; simp
      · left; rw [if_neg (fun r => q r.2), if_neg (fun r => q r.2), if_neg (fun r => by omega)]; exact ⟨rfl, rfl⟩
    · obtain ⟨m1, h1, g1⟩ := hd t ht i hi
      obtain ⟨m2, h2, g2⟩ := hd u (by omega) i0 hi0
      rw [e2, if_neg (fun r => by omega), if_pos ⟨rfl, rfl⟩, g1, g2]
      have := or16 ⟨m1, h1⟩ ⟨m2, h2⟩
      exact ⟨m1 ||| m2, this.2, this.1⟩
theorem gth_eff (hs : shk sh) {i b : Nat} (ht : t < sh.1) (hi : i < sh.2.1 t) (hb : b < 256) : ∀ (v : Nat) (X : am_M), v ≤ t → uq sh X → sr sh X → dr sh X → X (9, t, i) 1 = nI b → gE sh t i b v X (gth sh t i v X) := by
  intro v
  induction v with
  | zero =>
    intro X _ hu hr hd hk
    exact ⟨fun _ _ _ _ => rfl, fun u hu => absurd hu (Nat.not_lt_zero _), fun _ _ _ _ => ⟨rfl, rfl⟩, fun _ _ _ => Or.inl ⟨rfl, rfl⟩, fun _ _ _ => rfl, fun _ _ _ _ => rfl, hd t ht i hi⟩
  | succ v ih =>
    intro X hv hu hr hd hk
    obtain ⟨g1, g2, g3, g4, g5⟩ := gat1_eff hs hu hr hd ht hi (show v < t by omega) hb hk
    have blk : ∀ u i', (gat1 sh t i v X (9, u, i') 1 = X (9, u, i') 1 ∧ (¬ (u = t ∧ i' = i) → gat1 sh t i v X (9, u, i') 2 = X (9, u, i') 2)) ∨ (u = v ∧ gat1 sh t i v X (9, u, i') 1 = -1 ∧ gat1 sh t i v X (9, u, i') 2 = 0) := by
      intro u i'
      by_cases q : u = v
      · subst q
        rcases g4 i' with h | h
        · exact Or.inl ⟨h.1, fun _ => h.2⟩
        · exact Or.inr ⟨rfl, h⟩
      · exact Or.inl (g3 u i' (fun r => q r.1))
    have hu' : uq sh (gat1 sh t i v X) := by
      intro t' ht' i1 i2 h1 h2
      rcases blk t' i1 with q1 | q1
      · rw [q1.1]
        rcases blk t' i2 with q2 | q2
        · rw [q2.1]; exact hu t' ht' i1 i2 h1 h2
        · rw [q2.2.1]; intro e n; exact absurd e n
      · rw [q1.2.1]; intro _ n; exact absurd rfl n
    have hr' : sr sh (gat1 sh t i v X) := by
      intro t' ht' s w h1 h2 b' hb'
      rcases blk t' (s * wy sh t' + w) with q1 | q1
      · rw [q1.1]; exact hr t' ht' s w h1 h2 b' hb'
      · rw [q1.2.1]; intro e; exact absurd e.symm (nI_ne_m1 (by omega))
    have hd' : dr sh (gat1 sh t i v X) := by
      intro t' ht' i' hi'
      by_cases q : t' = t ∧ i' = i
      · obtain ⟨rfl, rfl⟩ := q; exact g5
      · rcases blk t' i' with q1 | q1
        · rw [q1.2 q]; exact hd t' ht' i' hi'
        · rw [q1.2.2]; exact ⟨0, by decide, rfl⟩
    have hk' : gat1 sh t i v X (9, t, i) 1 = nI b := by rw [bk_gat1 (by omega)]; exact hk
    have h := ih (gat1 sh t i v X) (by omega) hu' hr' hd' hk'
    unfold gth
    refine ⟨fun k j h1 h2 => (h.oth k j h1 h2).trans (g1 k j h1 h2), fun u hu2 i' hi' hkb => ?_, fun u i' hut hn => ?_, fun u hut i' => ?_, fun u i' htu => ?_, fun u i' htu hne => ?_, h.dd⟩
    · by_cases q : u = v
      · subst q
        have hg := g2 i' hi' hkb
        rcases h.up u (by omega) i' with q1 | q1
        · rw [q1.1, q1.2]; exact hg
        · exact q1
      · have hg := g3 u i' (fun r => q r.1)
        exact h.gone u (by omega) i' hi' (by rw [hg.1]; exact hkb)
    · have hg := g3 u i' (fun r => hn r.2)
      have hst := h.stay u i' hut (by rw [hg.1]; exact hn)
      exact ⟨hst.1.trans hg.1, hst.2.trans (hg.2 (fun r => by omega))⟩
    · rcases h.up u hut i' with q1 | q1
      · rcases blk u i' with q2 | q2
        · exact Or.inl ⟨q1.1.trans q2.1, q1.2.trans (q2.2 (fun r => by omega))⟩
        · exact Or.inr ⟨q1.1.trans q2.2.1, q1.2.trans q2.2.2⟩
      · exact Or.inr q1
    · have hg := g3 u i' (fun r => by omega)
      exact (h.b1 u i' htu).trans hg.1
    · have hg := g3 u i' (fun r => by omega)
      exact (h.b2 u i' htu hne).trans (hg.2 hne)
end IW
