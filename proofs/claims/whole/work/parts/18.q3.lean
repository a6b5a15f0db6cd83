-- the levels: what reads and writes do to the memory, as functions; and that the class does so
def bcf (x0 : Int32) : Int32 := ((((((((x0 - (((x0.toUInt32 >>> ((1 : Int32).toUInt32 &&& Int32.toUInt32 31)).toInt32) &&& 1431655765)) &&& 858993459) + ((((x0 - (((x0.toUInt32 >>> ((1 : Int32).toUInt32 &&& Int32.toUInt32 31)).toInt32) &&& 1431655765)).toUInt32 >>> ((2 : Int32).toUInt32 &&& Int32.toUInt32 31)).toInt32) &&& 858993459)) + (((((x0 - (((x0.toUInt32 >>> ((1 : Int32).toUInt32 &&& Int32.toUInt32 31)).toInt32) &&& 1431655765)) &&& 858993459) + ((((x0 - (((x0.toUInt32 >>> ((1 : Int32).toUInt32 &&& Int32.toUInt32 31)).toInt32) &&& 1431655765)).toUInt32 >>> ((2 : Int32).toUInt32 &&& Int32.toUInt32 31)).toInt32) &&& 858993459)).toUInt32 >>> ((4 : Int32).toUInt32 &&& Int32.toUInt32 31)).toInt32)) &&& 252645135) + (((((((x0 - (((x0.toUInt32 >>> ((1 : Int32).toUInt32 &&& Int32.toUInt32 31)).toInt32) &&& 1431655765)) &&& 858993459) + ((((x0 - (((x0.toUInt32 >>> ((1 : Int32).toUInt32 &&& Int32.toUInt32 31)).toInt32) &&& 1431655765)).toUInt32 >>> ((2 : Int32).toUInt32 &&& Int32.toUInt32 31)).toInt32) &&& 858993459)) + (((((x0 - (((x0.toUInt32 >>> ((1 : Int32).toUInt32 &&& Int32.toUInt32 31)).toInt32) &&& 1431655765)) &&& 858993459) + ((((x0 - (((x0.toUInt32 >>> ((1 : Int32).toUInt32 &&& Int32.toUInt32 31)).toInt32) &&& 1431655765)).toUInt32 >>> ((2 : Int32).toUInt32 &&& Int32.toUInt32 31)).toInt32) &&& 858993459)).toUInt32 >>> ((4 : Int32).toUInt32 &&& Int32.toUInt32 31)).toInt32)) &&& 252645135).toUInt32 >>> ((8 : Int32).toUInt32 &&& Int32.toUInt32 31)).toInt32)) + ((((((((x0 - (((x0.toUInt32 >>> ((1 : Int32).toUInt32 &&& Int32.toUInt32 31)).toInt32) &&& 1431655765)) &&& 858993459) + ((((x0 - (((x0.toUInt32 >>> ((1 : Int32).toUInt32 &&& Int32.toUInt32 31)).toInt32) &&& 1431655765)).toUInt32 >>> ((2 : Int32).toUInt32 &&& Int32.toUInt32 31)).toInt32) &&& 858993459)) + (((((x0 - (((x0.toUInt32 >>> ((1 : Int32).toUInt32 &&& Int32.toUInt32 31)).toInt32) &&& 1431655765)) &&& 858993459) + ((((x0 - (((x0.toUInt32 >>> ((1 : Int32).toUInt32 &&& Int32.toUInt32 31)).toInt32) &&& 1431655765)).toUInt32 >>> ((2 : Int32).toUInt32 &&& Int32.toUInt32 31)).toInt32) &&& 858993459)).toUInt32 >>> ((4 : Int32).toUInt32 &&& Int32.toUInt32 31)).toInt32)) &&& 252645135) + (((((((x0 - (((x0.toUInt32 >>> ((1 : Int32).toUInt32 &&& Int32.toUInt32 31)).toInt32) &&& 1431655765)) &&& 858993459) + ((((x0 - (((x0.toUInt32 >>> ((1 : Int32).toUInt32 &&& Int32.toUInt32 31)).toInt32) &&& 1431655765)).toUInt32 >>> ((2 : Int32).toUInt32 &&& Int32.toUInt32 31)).toInt32) &&& 858993459)) + (((((x0 - (((x0.toUInt32 >>> ((1 : Int32).toUInt32 &&& Int32.toUInt32 31)).toInt32) &&& 1431655765)) &&& 858993459) + ((((x0 - (((x0.toUInt32 >>> ((1 : Int32).toUInt32 &&& Int32.toUInt32 31)).toInt32) &&& 1431655765)).toUInt32 >>> ((2 : Int32).toUInt32 &&& Int32.toUInt32 31)).toInt32) &&& 858993459)).toUInt32 >>> ((4 : Int32).toUInt32 &&& Int32.toUInt32 31)).toInt32)) &&& 252645135).toUInt32 >>> ((8 : Int32).toUInt32 &&& Int32.toUInt32 31)).toInt32)).toUInt32 >>> ((16 : Int32).toUInt32 &&& Int32.toUInt32 31)).toInt32)) &&& 63)
theorem bcf_16 : ∀ m : Fin 17, bcf (nI m.val) = nI ([0, 1, 1, 2, 1, 2, 2, 3, 1, 2, 2, 3, 2, 3, 3, 4, 1].getD m.val 0) := by decide +kernel
theorem q_bitCount {sh : am_Sh} {X : am_M} {x : Int32} : am_cq sh 1 59 X [am_I x] (X, Sum.inl (some (am_I (bcf x)))) :=
  am_cq_of (Nat.le_of_ble_eq_true rfl) rfl rfl (fun d _ => sg_59_0 rfl)
abbrev bitz (bits : Int32) (i : Nat) : Prop := bits &&& ((1 : Int32) <<< (nI i &&& 31)) = 0
def cpw (bits : Int32) (k0 k1 : am_K) (st : Nat) : Nat → Nat → am_M → am_M
  | _, 0, X => X
  | i, k + 1, X => cpw bits k0 k1 st (i + 1) k (if bitz bits i then X else am_up X k1 (st + i) (X k0 i))
abbrev clk : am_V := am_R (some (0, 0, 0))
section QL
variable {sh : am_Sh}
theorem cpw_loop {bits : Int32} {k0 k1 : am_K} {N0 N1 st : Nat} (h0 : am_ct sh k0 = some (Sum.inr (0, N0))) (h1 : am_ct sh k1 = some (Sum.inr (0, N1))) (hN0 : 4 ≤ N0) (hz0 : N0 < 2147483648) (hN1 : st + 4 ≤ N1) (hz1 : N1 < 2147483648) {d : Nat} {P : am_S ⊕ am_O → Prop} : ∀ (k i : Nat) (X : am_M), i + k = 4 → P (Sum.inr (cpw bits k0 k1 st i k X, Sum.inl none)) → am_ev sh (am_cr sh d) 36 (3, [some (am_I bits), some (am_R (some k0)), some (am_R (some k1)), some (am_I (nI st)), some (am_I (nI i))], [], X, 0) P := by
  intro k
  induction k with
  | zero =>
    intro i X hi hP
    exact sg_36_3 (fun _ => sg_36_34 hP) (fun h => absurd (nI_le (a := 4) (by omega) (by omega)) h)
  | succ k ih =>
    intro i X hi hP
    refine sg_36_3 (fun h => absurd h (nI_ge (b := 4) (by omega) (by omega))) (fun _ => ?_)
    unfold cpw at hP
    refine sg_36_9 (fun h => ?_) (fun h => ?_)
    · rw [if_pos h] at hP
      refine sg_36_28 ?_
      rw [nI_1]
      exact ih _ _ (by omega) hP
    · rw [if_neg h] at hP
      refine sg_36_18 hz0 rfl (show i < N0 by omega) h0 hz1 (nI_add st i) (show st + i < N1 by omega) h1 (sg_36_28 ?_)
      rw [nI_1]
      exact ih _ _ (by omega) hP
theorem q_copyWords {bits : Int32} {k0 k1 : am_K} {N0 N1 st : Nat} {X : am_M} (h0 : am_ct sh k0 = some (Sum.inr (0, N0))) (h1 : am_ct sh k1 = some (Sum.inr (0, N1))) (hN0 : 4 ≤ N0) (hz0 : N0 < 2147483648) (hN1 : st + 4 ≤ N1) (hz1 : N1 < 2147483648) : am_cq sh 1 36 X [am_I bits, am_R (some k0), am_R (some k1), am_I (nI st)] (cpw bits k0 k1 st 0 4 X, Sum.inl none) :=
  am_cq_of (Nat.le_of_ble_eq_true rfl) rfl rfl (fun d _ => sg_36_0 (cpw_loop h0 h1 hN0 hz0 hN1 hz1 4 0 X rfl rfl))
theorem cpw_else {bits : Int32} {k0 k1 : am_K} {st : Nat} {k' : am_K} {j' : Nat} (h : ¬ k' = k1) : ∀ (k i : Nat) (X : am_M), cpw bits k0 k1 st i k X k' j' = X k' j' := by
  intro k
  induction k with
  | zero => intro i X; rfl
  | succ k ih =>
    intro i X
    unfold cpw
    rw [ih]
    split
    · rfl
    · exact am_up_k h
theorem am_cp_else {M : am_M} {k0 k1 k' : am_K} {sp dp n j' : Nat} (h : ¬ k' = k1) : am_cp M k0 k1 sp dp n k' j' = M k' j' := if_neg h
/-- an array of words that a read fills, or a write takes -/
def okk (sh : am_Sh) (k : am_K) : Prop := k = (3, 0, 0) ∨ k = (4, 0, 0) ∨ ∃ t i, t < sh.1 ∧ i < sh.2.1 t ∧ k = (10, t, i)
theorem okk_ct {k : am_K} (h : okk sh k) : am_ct sh k = some (Sum.inr (0, 4)) := by
  rcases h with rfl | rfl | ⟨t, i, ht, hi, rfl⟩
  · rfl
  · rfl
  · exact am_ct10 ht hi
theorem okk_1 {k : am_K} (h : okk sh k) : k.1 = 3 ∨ k.1 = 4 ∨ k.1 = 10 := by
  rcases h with rfl | rfl | ⟨t, i, ht, hi, rfl⟩
  · exact Or.inl rfl
  · exact Or.inr (Or.inl rfl)
  · exact Or.inr (Or.inr rfl)
/-- what the class's runs need of its memory -/
def cI (sh : am_Sh) (X : am_M) : Prop := cfm sh X ∧ ∀ t, t < sh.1 → ((∀ s, s < zs sh t → ∃ a, a < wy sh t ∧ X (7, t, 0) s = nI a) ∧ ∀ i, i < sh.2.1 t → (X (9, t, i) 1 = -1 ∨ ∃ b, b < 256 ∧ X (9, t, i) 1 = nI b))
theorem cI_of {X X' : am_M} (h : cI sh X) (e : ∀ k j, (k.1 = 0 ∧ j = 4 ∨ k.1 = 5 ∧ j < 2 ∨ k.1 = 7 ∨ k.1 = 9 ∧ j = 1) → X' k j = X k j) : cI sh X' := by
  refine ⟨⟨?_, fun t ht => ⟨?_, ?_⟩⟩, fun t ht => ⟨fun s hs => ?_, fun i hi => ?_⟩⟩
  · rw [e _ _ (Or.inl ⟨rfl, rfl⟩)]; exact h.1.1
  · rw [e _ _ (Or.inr (Or.inl ⟨rfl, by omega⟩))]; exact (h.1.2 t ht).1
  · rw [e _ _ (Or.inr (Or.inl ⟨rfl, by omega⟩))]; exact (h.1.2 t ht).2
  · rw [e _ _ (Or.inr (Or.inr (Or.inl rfl)))]; exact (h.2 t ht).1 s hs
  · rw [e _ _ (Or.inr (Or.inr (Or.inr ⟨rfl, rfl⟩)))]; exact (h.2 t ht).2 i hi
theorem cI_up {X : am_M} (h : cI sh X) {k : am_K} {j : Nat} {v : Int32} (hk : ¬ (k.1 = 0 ∧ j = 4 ∨ k.1 = 5 ∧ j < 2 ∨ k.1 = 7 ∨ k.1 = 9 ∧ j = 1)) : cI sh (am_up X k j v) :=
  cI_of h (fun k' j' q => am_up_n (fun e => hk (by rw [← e.1, ← e.2]; exact q)))
theorem cI_blk {X : am_M} (h : cI sh X) {t i : Nat} {v : Int32} (hv : v = -1 ∨ ∃ b, b < 256 ∧ v = nI b) : cI sh (am_up X (9, t, i) 1 v) := by
  refine ⟨cfm_up h.1 (by simp) (by simp), fun t' ht' => ⟨fun s hs => ?_, fun i' hi' => ?_⟩⟩
  · rw [am_up_k (by simp)]; exact (h.2 t' ht').1 s hs
  · rw [am_up_a]
    split
    · exact hv
    · exact (h.2 t' ht').2 i' hi'
theorem cI_hand {X : am_M} (h : cI sh X) {t s a : Nat} (ha : a < wy sh t) : cI sh (am_up X (7, t, 0) s (nI a)) := by
  refine ⟨cfm_up h.1 (by simp) (by simp), fun t' ht' => ⟨fun s' hs => ?_, fun i' hi' => ?_⟩⟩
  · rw [am_up_a]
    split
    · rename_i q
      have : t' = t := by have := q.1; simp at this; exact this
      subst this
      exact ⟨a, ha, rfl⟩
    · exact (h.2 t' ht').1 s' hs
  · rw [am_up_k (by simp)]; exact (h.2 t' ht').2 i' hi'
theorem cI_cp {X : am_M} (h : cI sh X) {k0 k1 : am_K} {a b q : Nat} (hk : k1.1 = 3 ∨ k1.1 = 4 ∨ k1.1 = 10 ∨ k1.1 = 1) : cI sh (am_cp X k0 k1 a b q) :=
  cI_of h (fun k' j' r => am_cp_else (fun e => by subst e; omega))
theorem cI_cpw {X : am_M} (h : cI sh X) {bits : Int32} {k0 k1 : am_K} {st i k : Nat} (hk : k1.1 = 3 ∨ k1.1 = 4 ∨ k1.1 = 10 ∨ k1.1 = 1) : cI sh (cpw bits k0 k1 st i k X) :=
  cI_of h (fun k' j' r => cpw_else (fun e => by subst e; omega) _ _ _)
theorem cI_go1 {X : am_M} (h : cI sh X) (t i : Nat) : cI sh (go1 X t i) := cI_up (cI_blk h (Or.inl rfl)) (by simp)
theorem cI_nuse {X : am_M} (h : cI sh X) (t i : Nat) : cI sh (nuse X t i) := cI_up (cI_up (cI_up (cI_up h (by simp)) (by simp)) (by simp)) (by simp)
theorem cI_plac {X : am_M} (h : cI sh X) (t i : Nat) {b : Nat} (hb : b < 256) : cI sh (plac X t i (nI b)) := cI_up (cI_nuse (cI_up (cI_up (cI_blk h (Or.inr ⟨b, hb, rfl⟩)) (by simp)) (by simp)) _ _) (by simp)
theorem cI_thd (hs : shk sh) {t s : Nat} (ht : t < sh.1) : ∀ (k : Nat) (X : am_M) (a c : Nat), cI sh X → cI sh (thd sh t s k X a c).1 := by
  intro k
  have hw := (hs.2.2 t ht).2.1
  induction k with
  | zero => exact fun X a c h => h
  | succ k ih =>
    intro X a c h
    unfold thd
    split
    · exact cI_hand h (Nat.mod_lt _ (by omega))
    · exact ih _ _ _ (cI_up (cI_hand h (Nat.mod_lt _ (by omega))) (by simp))
theorem thd_lt (hs : shk sh) {t s : Nat} (ht : t < sh.1) : ∀ (k : Nat) (X : am_M) (a c : Nat), a < wy sh t → c < wy sh t → (thd sh t s k X a c).2 < wy sh t := by
  intro k
  have hw := (hs.2.2 t ht).2.1
  induction k with
  | zero => exact fun X a c h h' => h'
  | succ k ih =>
    intro X a c h h'
    unfold thd
    split
    · exact h
    · exact ih _ _ _ (Nat.mod_lt _ (by omega)) h
theorem cI_chs (hs : shk sh) {X : am_M} (h : cI sh X) {t s a : Nat} (ht : t < sh.1) : cI sh (chs sh X t s a).1 := by
  unfold chs
  split
  · exact cI_thd hs ht _ _ _ _ h
  · exact h
theorem chs_lt (hs : shk sh) {X : am_M} {t s a : Nat} (ht : t < sh.1) (ha : a < wy sh t) : (chs sh X t s a).2 < wy sh t := by
  have hw := (hs.2.2 t ht).2.1
  unfold chs
  split
  · exact thd_lt hs ht _ _ _ _ ha ha
  · exact fgo_lt s _ _ _ (by omega) (by omega)
/-- the functions -/
def fnd (sh : am_Sh) (X : am_M) (t b : Nat) : Option Nat := (ff (hasB sh X t (b % zs sh t) (nI b)) 0 (wy sh t)).map (fun w => b % zs sh t * wy sh t + w)
theorem fnd_lt (hs : shk sh) {X : am_M} {t b i : Nat} (ht : t < sh.1) (h : fnd sh X t b = some i) : i < sh.2.1 t := by
  unfold fnd at h
  cases hf : ff (hasB sh X t (b % zs sh t) (nI b)) 0 (wy sh t) with
  | none => rw [hf] at h; cases h
  | some w =>
    rw [hf] at h
    cases h
    have := (ff_some hf).2.1
    exact lx_lt hs ht (b_set hs ht b) (by omega)
theorem q_fnd (hs : shk sh) {X : am_M} (hX : cfm sh X) {t : Nat} (ht : t < sh.1) {b : Nat} (hb : b < 256) : am_cq sh 3 2 X [am_R (some (5, t, 0)), am_I (nI b)] (X, Sum.inl (some (am_R ((fnd sh X t b).map (fun i => (9, t, i)))))) := by
  have h := q_find hs hX ht hb
  have e : lkey sh t (b % zs sh t) (ff (hasB sh X t (b % zs sh t) (nI b)) 0 (wy sh t)) = (fnd sh X t b).map (fun i => (9, t, i)) := by
    unfold fnd lkey
    rw [Option.map_map]
    rfl
  rw [e] at h
  exact h
abbrev bkN (X : am_M) (t i : Nat) : Nat := (X (9, t, i) 1).toNatClampNeg
def gat1 (sh : am_Sh) (t i u : Nat) (X : am_M) : am_M := match fnd sh X u (bkN X t i) with
  | none => X
  | some i' => go1 (am_up (cpw (X (9, u, i') 2) (10, u, i') (10, t, i) 0 0 4 X) (9, t, i) 2 (X (9, t, i) 2 ||| X (9, u, i') 2)) u i'
def gth (sh : am_Sh) (t i : Nat) : Nat → am_M → am_M
  | 0, X => X
  | u + 1, X => gth sh t i u (gat1 sh t i u X)
theorem cI_gat1 {X : am_M} (h : cI sh X) (t i u : Nat) : cI sh (gat1 sh t i u X) := by
  unfold gat1
  split
  · exact h
  · exact cI_go1 (cI_up (cI_cpw h (by simp)) (by simp)) _ _
theorem cI_gth (t i : Nat) : ∀ (u : Nat) (X : am_M), cI sh X → cI sh (gth sh t i u X) := by
  intro u
  induction u with
  | zero => exact fun X h => h
  | succ u ih => exact fun X h => ih _ (cI_gat1 h _ _ _)
theorem bk_gat1 {X : am_M} {t i u : Nat} (hu : ¬ t = u) : gat1 sh t i u X (9, t, i) 1 = X (9, t, i) 1 := by
  unfold gat1
  cases fnd sh X u (bkN X t i) with
  | none => rfl
  | some i' =>
    dsimp only
    unfold go1
    rw [am_up_j (by decide), am_up_k (by simp [hu]), am_up_j (by decide), cpw_else (by simp)]
theorem gth_loop (hs : shk sh) {t i : Nat} (ht : t < sh.1) (hi : i < sh.2.1 t) {b : Nat} (hb : b < 256) {d : Nat} (hd : 3 ≤ d) {P : am_S ⊕ am_O → Prop} : ∀ (u : Nat) (X : am_M) (u4 : Option am_V), u ≤ t → cI sh X → X (9, t, i) 1 = nI b → P (Sum.inr (gth sh t i u X, Sum.inl none)) → am_ev sh (am_cr sh d) 35 (4, [some clk, some (am_I (nI t)), some (am_R (some (9, t, i))), some (am_I (nI u - 1)), u4], [], X, 0) P := by
  intro u
  have h4 := hs.1
  induction u with
  | zero =>
    intro X u4 _ hX hk hP
    exact sg_35_4 (fun _ => sg_35_71 hP) (fun h => absurd (by decide) h)
  | succ u ih =>
    intro X u4 hu hX hk hP
    rw [nI_pred]
    refine sg_35_4 (fun h => absurd h (nI_pos (by omega))) (fun _ => ?_)
    have hf := q_fnd hs hX.1 (show u < sh.1 by omega) hb d hd
    rw [← hk] at hf
    have hbn : bkN X t i = b := by unfold bkN; rw [hk]; exact nI_clamp (by omega)
    unfold gth gat1 at hP
    rw [hbn] at hP
    refine sg_35_8 rfl (show u < sh.1 by omega) h4 ht hi hf (fun h => ?_) (fun k h => ?_)
    · refine sg_35_65 ?_
      rw [show nI u + (-1) = nI u - 1 by rw [Int32.sub_eq_add_neg]]
      cases hq : fnd sh X u b with
      | none =>
        rw [hq] at hP
        exact ih X _ (by omega) hX hk hP
      | some i' => rw [hq] at h; cases h
    · cases hq : fnd sh X u b with
      | none => rw [hq] at h; cases h
      | some i' =>
        rw [hq] at hP
        have hi' := fnd_lt hs (show u < sh.1 by omega) hq
        have hut : u < sh.1 := by omega
        have hne : ¬ t = u := by omega
        have e1 : ∀ bits, cpw bits (10, u, i') (10, t, i) 0 0 4 X (9, t, i) 2 = X (9, t, i) 2 := fun bits => cpw_else (by simp) _ _ _
        have e2 : ∀ bits, cpw bits (10, u, i') (10, t, i) 0 0 4 X (9, u, i') 2 = X (9, u, i') 2 := fun bits => cpw_else (by simp) _ _ _
        have hcw := q_copyWords (bits := X (9, u, i') 2) (st := 0) (X := X) (am_ct10 hut hi') (am_ct10 ht hi) (Nat.le_refl 4) (by decide) (Nat.le_refl 4) (by decide) d (by omega)
        have hgo := q_go (X := am_up (cpw (X (9, u, i') 2) (10, u, i') (10, t, i) 0 0 4 X) (9, t, i) 2 (X (9, t, i) 2 ||| X (9, u, i') 2)) hut hi' d (by omega)
        refine sg_35_28 hut hi' ht hi hcw (M2 := go1 (am_up (cpw (X (9, u, i') 2) (10, u, i') (10, t, i) 0 0 4 X) (9, t, i) 2 (X (9, t, i) 2 ||| X (9, u, i') 2)) u i') ?_ (sg_35_65 ?_)
        · rw [e1, e2]; exact hgo
        · rw [show nI u + (-1) = nI u - 1 by rw [Int32.sub_eq_add_neg]]
          refine ih _ _ (by omega) ?_ ?_ hP
          · exact cI_go1 (cI_up (cI_cpw hX (by simp)) (by simp)) _ _
          · unfold go1
            rw [am_up_j (by decide), am_up_k (by simp [hne]), am_up_j (by decide), cpw_else (by simp)]
            exact hk
theorem q_gather (hs : shk sh) {X : am_M} (hX : cI sh X) {t i : Nat} (ht : t < sh.1) (hi : i < sh.2.1 t) {b : Nat} (hb : b < 256) (hk : X (9, t, i) 1 = nI b) : am_cq sh 4 35 X [clk, am_I (nI t), am_R (some (9, t, i))] (gth sh t i t X, Sum.inl none) :=
  am_cq_of (Nat.le_of_ble_eq_true rfl) rfl rfl (fun d hd => sg_35_0 (gth_loop hs ht hi hb hd t X none (Nat.le_refl _) hX hk rfl))
theorem bk_gth {t i : Nat} : ∀ (u : Nat) (X : am_M), u ≤ t → gth sh t i u X (9, t, i) 1 = X (9, t, i) 1 := by
  intro u
  induction u with
  | zero => exact fun X _ => rfl
  | succ u ih =>
    intro X hu
    unfold gth
    rw [ih _ (by omega), bk_gat1 (by omega)]
end QL
