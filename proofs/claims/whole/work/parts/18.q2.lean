-- choosing, using, placing, losing
theorem am_up_same (M : am_M) (k : am_K) (j : Nat) (v : Int32) : am_up M k j v k j = v := if_pos ⟨rfl, rfl⟩
theorem am_up_j {M : am_M} {k k' : am_K} {j j' : Nat} {v : Int32} (h : ¬ j' = j) : am_up M k j v k' j' = M k' j' := if_neg (fun q => h q.2)
theorem am_up_k {M : am_M} {k k' : am_K} {j j' : Nat} {v : Int32} (h : ¬ k' = k) : am_up M k j v k' j' = M k' j' := if_neg (fun q => h q.1)
theorem am_up_n {M : am_M} {k k' : am_K} {j j' : Nat} {v : Int32} (h : ¬ (k' = k ∧ j' = j)) : am_up M k j v k' j' = M k' j' := if_neg h
theorem am_up_a (M : am_M) (k k' : am_K) (j j' : Nat) (v : Int32) : am_up M k j v k' j' = if k' = k ∧ j' = j then v else M k' j' := rfl
section QC
variable {sh : am_Sh} {X : am_M} {t : Nat}
theorem cfm_up (h : cfm sh X) {k : am_K} {j : Nat} {v : Int32} (h0 : ¬ (k.1 = 0 ∧ j = 4)) (h5 : ¬ (k.1 = 5 ∧ j < 2)) : cfm sh (am_up X k j v) := by
  refine ⟨?_, fun t ht => ⟨?_, ?_⟩⟩
  · rw [am_up_n (fun q => h0 ⟨by rw [← q.1], q.2.symm⟩)]; exact h.1
  · rw [am_up_n (fun q => h5 ⟨by rw [← q.1], by omega⟩)]; exact (h.2 t ht).1
  · rw [am_up_n (fun q => h5 ⟨by rw [← q.1], by omega⟩)]; exact (h.2 t ht).2
def fgo (sh : am_Sh) (X : am_M) (t s : Nat) : Nat → Nat → Nat → Nat
  | f, _, 0 => f
  | f, w, k + 1 => fgo sh X t s (if gb X t (s * wy sh t + w) (s * wy sh t + f) = true then w else f) (w + 1) k
theorem fgo_loop (hs : shk sh) (hX : cfm sh X) (ht : t < sh.1) {s : Nat} (h1 : s < zs sh t) {d : Nat} (hd : 1 ≤ d) {P : am_S ⊕ am_O → Prop} : ∀ (k w f : Nat), w + k = wy sh t → f < wy sh t → P (Sum.inr (X, Sum.inl (some (am_R (some (9, t, s * wy sh t + fgo sh X t s f w k)))))) → am_ev sh (am_cr sh d) 11 (9, [some (am_R (some (5, t, 0))), some (am_I (nI s)), some (am_R (some (9, t, s * wy sh t + f))), some (am_I (nI w))], [], X, 0) P := by
  intro k
  have h5 := wy_lt hs ht
  induction k with
  | zero =>
    intro w f hw hf hP
    refine sg_11_9 ht (fun _ => sg_11_44 hP) (fun h => absurd ?_ h)
    rw [(hX.2 t ht).2]
    exact nI_le (by omega) (by omega)
  | succ k ih =>
    intro w f hw hf hP
    refine sg_11_9 ht (fun h => ?_) (fun _ => ?_)
    · rw [(hX.2 t ht).2] at h
      exact absurd h (nI_ge (by omega) (by omega))
    · have ha := q_at hs hX ht h1 (show w < wy sh t by omega) d hd
      unfold fgo at hP
      refine sg_11_17 ht ha (q_goesBefore ht (lx_lt hs ht h1 (show w < wy sh t by omega)) (lx_lt hs ht h1 hf) d hd) (fun h => ?_) (fun h => ?_)
      · refine sg_11_38 ?_
        rw [nI_1]
        cases hg : gb X t (s * wy sh t + w) (s * wy sh t + f) with
        | true => rw [hg] at h; exact absurd h (by decide)
        | false => rw [hg] at hP; exact ih (w + 1) f (by omega) hf hP
      · refine sg_11_31 ht ha (sg_11_38 ?_)
        rw [nI_1]
        cases hg : gb X t (s * wy sh t + w) (s * wy sh t + f) with
        | true => rw [hg] at hP; exact ih (w + 1) w (by omega) (by omega) hP
        | false => rw [hg] at h; exact absurd rfl h
theorem q_firstToGo (hs : shk sh) (hX : cfm sh X) (ht : t < sh.1) {s : Nat} (h1 : s < zs sh t) : am_cq sh 2 11 X [am_R (some (5, t, 0)), am_I (nI s)] (X, Sum.inl (some (am_R (some (9, t, s * wy sh t + fgo sh X t s 0 1 (wy sh t - 1)))))) := by
  have h5 := hs.2.2 t ht
  exact am_cq_of (Nat.le_of_ble_eq_true rfl) rfl rfl (fun d hd => sg_11_0 ht (q_at hs hX ht h1 (show 0 < wy sh t by omega) d hd) (fgo_loop hs hX ht h1 hd _ 1 0 (by omega) (by omega) rfl))
theorem fgo_lt (s : Nat) : ∀ (k w f : Nat), w + k ≤ wy sh t → f < wy sh t → fgo sh X t s f w k < wy sh t := by
  intro k
  induction k with
  | zero => intro w f _ h; exact h
  | succ k ih =>
    intro w f hw hf
    unfold fgo
    refine ih _ _ (by omega) ?_
    split <;> omega
def thd (sh : am_Sh) (t s : Nat) : Nat → am_M → Nat → Nat → am_M × Nat
  | 0, X, _, c => (X, c)
  | k + 1, X, a, _ => if X (9, t, s * wy sh t + a) 6 = 0 then (am_up X (7, t, 0) s (nI ((a + 1) % wy sh t)), a) else thd sh t s k (am_up (am_up X (7, t, 0) s (nI ((a + 1) % wy sh t))) (9, t, s * wy sh t + a) 6 0) ((a + 1) % wy sh t) a
theorem thd_loop (hs : shk sh) (ht : t < sh.1) {s : Nat} (h1 : s < zs sh t) {d : Nat} (hd : 1 ≤ d) {P : am_S ⊕ am_O → Prop} : ∀ (k j : Nat) (X : am_M) (a c : Nat), cfm sh X → j + k = wy sh t + 1 → a < wy sh t → X (7, t, 0) s = nI a → P (Sum.inr ((thd sh t s k X a c).1, Sum.inl (some (am_R (some (9, t, s * wy sh t + (thd sh t s k X a c).2)))))) → am_ev sh (am_cr sh d) 9 (14, [some (am_R (some (5, t, 0))), some (am_I (nI s)), some (am_R (some (9, t, s * wy sh t + c))), some (am_I (nI j))], [], X, 0) P := by
  intro k
  have h5 := wy_lt hs ht
  induction k with
  | zero =>
    intro j X a c hX hj ha hh hP
    refine sg_9_14 ht (fun _ => sg_9_71 hP) (fun h => absurd ?_ h)
    rw [(hX.2 t ht).2]
    exact nI_lt (by omega) (by omega)
  | succ k ih =>
    intro j X a c hX hj ha hh hP
    refine sg_9_14 ht (fun h => ?_) (fun _ => ?_)
    · rw [(hX.2 t ht).2] at h
      exact absurd h (nI_nlt (by omega) (by omega))
    · have hl := lx_lt hs ht h1 ha
      have hat := q_at hs hX ht h1 ha d hd
      have hwa := q_wayAfter hs hX ht ha d hd
      rw [← hh] at hat hwa
      have hm : ∀ v, (am_up X (7, t, 0) s v) (9, t, s * wy sh t + a) 6 = X (9, t, s * wy sh t + a) 6 := fun v => am_up_k (by simp)
      refine sg_9_22 ht hs.2.1 rfl h1 hat hwa ht hl (fun h => ?_) (fun h => ?_)
      · rw [hm] at h
        refine sg_9_60 ht hl ?_
        rw [nI_1]
        unfold thd at hP
        rw [if_neg h] at hP
        refine ih (j + 1) _ ((a + 1) % wy sh t) a (cfm_up (cfm_up hX (by simp) (by simp)) (by simp) (by simp)) (by omega) (Nat.mod_lt _ (by omega)) ?_ hP
        rw [am_up_k (by simp), am_up_same]
      · rw [hm] at h
        refine sg_9_57 (sg_9_71 ?_)
        unfold thd at hP
        rw [if_pos h] at hP
        exact hP
theorem q_turnHand (hs : shk sh) (hX : cfm sh X) (ht : t < sh.1) {s a : Nat} (h1 : s < zs sh t) (ha : a < wy sh t) (hh : X (7, t, 0) s = nI a) : am_cq sh 2 9 X [am_R (some (5, t, 0)), am_I (nI s)] ((thd sh t s (wy sh t + 1) X a a).1, Sum.inl (some (am_R (some (9, t, s * wy sh t + (thd sh t s (wy sh t + 1) X a a).2))))) := by
  refine am_cq_of (Nat.le_of_ble_eq_true rfl) rfl rfl (fun d hd => ?_)
  have hat := q_at hs hX ht h1 ha d hd
  rw [← hh] at hat
  exact sg_9_0 ht hs.2.1 rfl h1 hat (thd_loop hs ht h1 hd _ 0 X a a hX (by omega) ha hh rfl)
def ahd (sh : am_Sh) (X : am_M) (t s : Nat) : Nat → Nat → Nat
  | 0, a => a
  | k + 1, a => if X (9, t, s * wy sh t + a) 6 = 0 then a else ahd sh X t s k ((a + 1) % wy sh t)
theorem ahd_lt (h : 0 < wy sh t) (s : Nat) : ∀ (k a : Nat), a < wy sh t → ahd sh X t s k a < wy sh t := by
  intro k
  induction k with
  | zero => intro a ha; exact ha
  | succ k ih =>
    intro a ha
    unfold ahd
    split
    · exact ha
    · exact ih _ (Nat.mod_lt _ h)
theorem ahd_loop (hs : shk sh) (hX : cfm sh X) (ht : t < sh.1) {s : Nat} (h1 : s < zs sh t) {d : Nat} (hd : 1 ≤ d) {P : am_S ⊕ am_O → Prop} : ∀ (k j a : Nat), j + k = wy sh t → a < wy sh t → P (Sum.inr (X, Sum.inl (some (am_R (some (9, t, s * wy sh t + ahd sh X t s k a)))))) → am_ev sh (am_cr sh d) 16 (9, [some (am_R (some (5, t, 0))), some (am_I (nI s)), some (am_I (nI a)), some (am_I (nI j))], [], X, 0) P := by
  intro k
  have h5 := wy_lt hs ht
  induction k with
  | zero =>
    intro j a hj ha hP
    refine sg_16_9 ht (fun _ => sg_16_44 ht (q_at hs hX ht h1 ha d hd) hP) (fun h => absurd ?_ h)
    rw [(hX.2 t ht).2]
    exact nI_le (by omega) (by omega)
  | succ k ih =>
    intro j a hj ha hP
    refine sg_16_9 ht (fun h => ?_) (fun _ => ?_)
    · rw [(hX.2 t ht).2] at h
      exact absurd h (nI_ge (by omega) (by omega))
    · unfold ahd at hP
      refine sg_16_17 ht (q_at hs hX ht h1 ha d hd) ht (lx_lt hs ht h1 ha) (fun h => ?_) (fun h => ?_)
      · rw [if_neg h] at hP
        refine sg_16_32 ht (q_wayAfter hs hX ht ha d hd) ?_
        rw [nI_1]
        exact ih (j + 1) _ (by omega) (Nat.mod_lt _ (by omega)) hP
      · rw [if_pos h] at hP
        exact sg_16_29 (sg_16_44 ht (q_at hs hX ht h1 ha d hd) hP)
theorem q_aheadOfHand (hs : shk sh) (hX : cfm sh X) (ht : t < sh.1) {s a : Nat} (h1 : s < zs sh t) (ha : a < wy sh t) (hh : X (7, t, 0) s = nI a) : am_cq sh 2 16 X [am_R (some (5, t, 0)), am_I (nI s)] (X, Sum.inl (some (am_R (some (9, t, s * wy sh t + ahd sh X t s (wy sh t) a))))) :=
  am_cq_of (Nat.le_of_ble_eq_true rfl) rfl rfl (fun d hd => sg_16_0 ht hs.2.1 rfl h1 (by rw [hh]; exact ahd_loop hs hX ht h1 hd _ 0 a (Nat.zero_add _) ha rfl))
/-- what choose answers, and what it leaves -/
def chs (sh : am_Sh) (X : am_M) (t s a : Nat) : am_M × Nat := if X (5, t, 0) 2 = 2 then thd sh t s (wy sh t + 1) X a a else (X, fgo sh X t s 0 1 (wy sh t - 1))
theorem q_choose (hs : shk sh) (hX : cfm sh X) (ht : t < sh.1) {s a : Nat} (h1 : s < zs sh t) (ha : a < wy sh t) (hh : X (7, t, 0) s = nI a) : am_cq sh 3 8 X [am_R (some (5, t, 0)), am_I (nI s)] ((chs sh X t s a).1, Sum.inl (some (am_R (some (9, t, s * wy sh t + (chs sh X t s a).2))))) := by
  refine am_cq_of (Nat.le_of_ble_eq_true rfl) rfl rfl (fun d hd => sg_8_0 ht (fun h => ?_) (fun h => ?_))
  · unfold chs; rw [if_neg h]
    exact sg_8_16 ht (q_firstToGo hs hX ht h1 d hd) (sg_8_21 rfl)
  · unfold chs; rw [if_pos h]
    exact sg_8_8 ht (q_turnHand hs hX ht h1 ha hh d hd) (sg_8_21 rfl)
def fsee (sh : am_Sh) (X : am_M) (t s a : Nat) : Nat := if X (5, t, 0) 2 = 2 then ahd sh X t s (wy sh t) a else fgo sh X t s 0 1 (wy sh t - 1)
theorem q_foresee (hs : shk sh) (hX : cfm sh X) (ht : t < sh.1) {s a : Nat} (h1 : s < zs sh t) (ha : a < wy sh t) (hh : X (7, t, 0) s = nI a) : am_cq sh 3 15 X [am_R (some (5, t, 0)), am_I (nI s)] (X, Sum.inl (some (am_R (some (9, t, s * wy sh t + fsee sh X t s a))))) := by
  refine am_cq_of (Nat.le_of_ble_eq_true rfl) rfl rfl (fun d hd => sg_15_0 ht (fun h => ?_) (fun h => ?_))
  · unfold fsee; rw [if_neg h]
    exact sg_15_16 ht (q_firstToGo hs hX ht h1 d hd) (sg_15_21 rfl)
  · unfold fsee; rw [if_pos h]
    exact sg_15_8 ht (q_aheadOfHand hs hX ht h1 ha hh d hd) (sg_15_21 rfl)
def nuse (X : am_M) (t i : Nat) : am_M := am_up (am_up (am_up (am_up X (5, t, 0) 8 (X (5, t, 0) 8 + 1)) (9, t, i) 4 (X (5, t, 0) 8 + 1)) (9, t, i) 5 (X (9, t, i) 5 + 1)) (9, t, i) 6 1
theorem q_noteUse (ht : t < sh.1) {i : Nat} (hi : i < sh.2.1 t) : am_cq sh 1 13 X [am_R (some (5, t, 0)), am_R (some (9, t, i))] (nuse X t i, Sum.inl none) := by
  refine am_cq_of (Nat.le_of_ble_eq_true rfl) rfl rfl (fun d hd => sg_13_0 ht ht hi ?_)
  rw [am_up_same, am_up_j (by decide), am_up_k (by simp)]
  rfl
def plac (X : am_M) (t i : Nat) (b : Int32) : am_M := am_up (nuse (am_up (am_up (am_up X (9, t, i) 1 b) (9, t, i) 2 0) (9, t, i) 5 0) t i) (9, t, i) 3 (X (5, t, 0) 8 + 1)
theorem q_place (ht : t < sh.1) {i : Nat} (hi : i < sh.2.1 t) {b : Int32} : am_cq sh 2 14 X [am_R (some (5, t, 0)), am_R (some (9, t, i)), am_I b] (plac X t i b, Sum.inl none) := by
  refine am_cq_of (Nat.le_of_ble_eq_true rfl) rfl rfl (fun d hd => sg_14_0 ht hi ht (q_noteUse ht hi d hd) ?_)
  unfold plac
  congr 3
  unfold nuse
  rw [am_up_k (by simp), am_up_k (by simp), am_up_k (by simp), am_up_same, am_up_k (by simp), am_up_k (by simp), am_up_k (by simp)]
def gol (t : Nat) : Nat → Nat → am_M → am_M
  | _, 0, X => X
  | i, k + 1, X => gol t (i + 1) k (go1 X t i)
def h0l (t : Nat) : Nat → Nat → am_M → am_M
  | _, 0, X => X
  | i, k + 1, X => h0l t (i + 1) k (am_up X (7, t, 0) i 0)
theorem cfm_go1 (h : cfm sh X) (t i : Nat) : cfm sh (go1 X t i) := cfm_up (cfm_up h (by simp) (by simp)) (by simp) (by simp)
theorem cfm_gol : ∀ (k i : Nat) (X : am_M), cfm sh X → cfm sh (gol t i k X) := by
  intro k
  induction k with
  | zero => exact fun _ _ h => h
  | succ k ih => exact fun i X h => ih _ _ (cfm_go1 h _ _)
theorem cfm_h0l : ∀ (k i : Nat) (X : am_M), cfm sh X → cfm sh (h0l t i k X) := by
  intro k
  induction k with
  | zero => exact fun _ _ h => h
  | succ k ih => exact fun i X h => ih _ _ (cfm_up h (by simp) (by simp))
theorem h0_loop (hs : shk sh) (ht : t < sh.1) {d : Nat} {P : am_S ⊕ am_O → Prop} : ∀ (k i : Nat) (X : am_M), cfm sh X → i + k = zs sh t → P (Sum.inr (h0l t i k X, Sum.inl none)) → am_ev sh (am_cr sh d) 6 (28, [some (am_R (some (5, t, 0))), some (am_I (nI i))], [], X, 0) P := by
  intro k
  have h5 := zs_le hs ht
  induction k with
  | zero =>
    intro i X hX hi hP
    refine sg_6_28 ht (fun _ => sg_6_49 hP) (fun h => absurd ?_ h)
    rw [(hX.2 t ht).1]
    exact nI_le (by omega) (by omega)
  | succ k ih =>
    intro i X hX hi hP
    refine sg_6_28 ht (fun h => ?_) (fun _ => ?_)
    · rw [(hX.2 t ht).1] at h
      exact absurd h (nI_ge (by omega) (by omega))
    · refine sg_6_36 ht hs.2.1 rfl (show i < zs sh t by omega) ?_
      rw [nI_1]
      exact ih _ _ (cfm_up hX (by simp) (by simp)) (by omega) hP
theorem go_loop (hs : shk sh) (ht : t < sh.1) {d : Nat} (hd : 1 ≤ d) {P : am_S ⊕ am_O → Prop} : ∀ (k i : Nat) (X : am_M), cfm sh X → i + k = sh.2.1 t → P (Sum.inr (h0l t 0 (zs sh t) (gol t i k X), Sum.inl none)) → am_ev sh (am_cr sh d) 6 (2, [some (am_R (some (5, t, 0))), some (am_I (nI i))], [], X, 0) P := by
  intro k
  have h5 := N_le hs t
  induction k with
  | zero =>
    intro i X hX hi hP
    refine sg_6_2 ht hs.2.1 (fun _ => sg_6_26 (h0_loop hs ht _ 0 X hX (Nat.zero_add _) hP)) (fun h => absurd ?_ h)
    exact nI_le (by omega) (by omega)
  | succ k ih =>
    intro i X hX hi hP
    refine sg_6_2 ht hs.2.1 (fun h => ?_) (fun _ => ?_)
    · exact absurd h (nI_ge (by omega) (by omega))
    · have hi' : i < sh.2.1 t := by omega
      refine sg_6_11 ht hs.2.1 rfl hi' hi' (q_go ht hi' d hd) ?_
      rw [nI_1]
      exact ih _ _ (cfm_go1 hX _ _) (by omega) hP
def los (sh : am_Sh) (X : am_M) (t : Nat) : am_M := h0l t 0 (zs sh t) (gol t 0 (sh.2.1 t) X)
theorem q_lose (hs : shk sh) (hX : cfm sh X) (ht : t < sh.1) : am_cq sh 2 6 X [am_R (some (5, t, 0))] (los sh X t, Sum.inl none) :=
  am_cq_of (Nat.le_of_ble_eq_true rfl) rfl rfl (fun d hd => sg_6_0 (go_loop hs ht hd _ 0 X hX (Nat.zero_add _) rfl))
theorem cfm_los (hX : cfm sh X) : cfm sh (los sh X t) := cfm_h0l _ _ _ (cfm_gol _ _ _ hX)
end QC
