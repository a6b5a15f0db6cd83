-- crash
section VE
variable {sh : am_Sh} {c : Nat} {X M : am_M} {t : Nat}
theorem gol_at : ∀ (k i : Nat) (X : am_M) (i' : Nat), i ≤ i' → i' < i + k → gol t i k X (9, t, i') 1 = -1 ∧ gol t i k X (9, t, i') 2 = 0 := by
  intro k
  have keep : ∀ (k i : Nat) (X : am_M) (i' : Nat), X (9, t, i') 1 = -1 → X (9, t, i') 2 = 0 → gol t i k X (9, t, i') 1 = -1 ∧ gol t i k X (9, t, i') 2 = 0 := by
    intro k
    induction k with
    | zero => exact fun _ _ _ a b => ⟨a, b⟩
    | succ k ih =>
      intro i X i' a b
      refine ih _ _ _ ?_ ?_
      · rw [go1_blk]; split
        · rfl
        · exact a
      · rw [go1_drt]; split
        · rfl
        · exact b
  induction k with
  | zero => intro i X i' h1 h2; omega
  | succ k ih =>
    intro i X i' h1 h2
    by_cases e : i' = i
    · subst e
      exact keep k _ _ _ (by rw [go1_blk]; simp) (by rw [go1_drt]; simp)
    · exact ih _ _ _ (by omega) (by omega)
theorem gol_else {k' : am_K} {j' : Nat} (h : ¬ (k'.1 = 9 ∧ k'.2.1 = t ∧ (j' = 1 ∨ j' = 2))) : ∀ (k i : Nat) (X : am_M), gol t i k X k' j' = X k' j' := by
  intro k
  induction k with
  | zero => exact fun _ _ => rfl
  | succ k ih =>
    intro i X
    unfold gol
    rw [ih, go1_else (fun e => h ⟨by rw [e.1], by rw [e.1], e.2⟩)]
theorem h0l_at : ∀ (k i : Nat) (X : am_M) (s : Nat), i ≤ s → s < i + k → h0l t i k X (7, t, 0) s = 0 := by
  intro k
  have keep : ∀ (k i : Nat) (X : am_M) (s : Nat), X (7, t, 0) s = 0 → h0l t i k X (7, t, 0) s = 0 := by
    intro k
    induction k with
    | zero => exact fun _ _ _ a => a
    | succ k ih =>
      intro i X s a
      refine ih _ _ _ ?_
      rw [am_up_a]; split
      · rfl
      · exact a
  induction k with
  | zero => intro i X s h1 h2; omega
  | succ k ih =>
    intro i X s h1 h2
    by_cases e : s = i
    · subst e
      exact keep k _ _ _ (am_up_same _ _ _ _)
    · exact ih _ _ _ (by omega) (by omega)
theorem h0l_else {k' : am_K} {j' : Nat} (h : ¬ k' = (7, t, 0)) : ∀ (k i : Nat) (X : am_M), h0l t i k X k' j' = X k' j' := by
  intro k
  induction k with
  | zero => exact fun _ _ => rfl
  | succ k ih =>
    intro i X
    unfold h0l
    rw [ih, am_up_k h]
theorem los_line {i : Nat} (hi : i < sh.2.1 t) : los sh X t (9, t, i) 1 = -1 ∧ los sh X t (9, t, i) 2 = 0 := by
  unfold los
  rw [h0l_else (by simp), h0l_else (by simp)]
  exact gol_at _ _ _ _ (Nat.zero_le _) (by omega)
theorem los_hand {s : Nat} (hs : s < zs sh t) : los sh X t (7, t, 0) s = 0 := h0l_at _ _ _ _ (Nat.zero_le _) (by omega)
theorem los_else {k' : am_K} {j' : Nat} (h7 : ¬ k' = (7, t, 0)) (h9 : ¬ (k'.1 = 9 ∧ k'.2.1 = t ∧ (j' = 1 ∨ j' = 2))) : los sh X t k' j' = X k' j' := by
  unfold los
  rw [h0l_else h7, gol_else h9]
theorem losA_at : ∀ (k u : Nat) (X : am_M) (t : Nat), u ≤ t → t < u + k → (∀ i, i < sh.2.1 t → losA sh u k X (9, t, i) 1 = -1 ∧ losA sh u k X (9, t, i) 2 = 0) ∧ ∀ s, s < zs sh t → losA sh u k X (7, t, 0) s = 0 := by
  intro k
  have keep : ∀ (k u : Nat) (X : am_M) (t : Nat), (∀ i, i < sh.2.1 t → X (9, t, i) 1 = -1 ∧ X (9, t, i) 2 = 0) → (∀ s, s < zs sh t → X (7, t, 0) s = 0) → (∀ i, i < sh.2.1 t → losA sh u k X (9, t, i) 1 = -1 ∧ losA sh u k X (9, t, i) 2 = 0) ∧ ∀ s, s < zs sh t → losA sh u k X (7, t, 0) s = 0 := by
    intro k
    induction k with
    | zero => exact fun _ _ _ a b => ⟨a, b⟩
    | succ k ih =>
      intro u X t a b
      refine ih _ _ _ (fun i hi => ?_) (fun s hs => ?_)
      · by_cases e : t = u
        · subst e; exact los_line hi
        · rw [los_else (by simp) (by simp; omega), los_else (by simp) (by simp; omega)]; exact a i hi
      · by_cases e : t = u
        · subst e; exact los_hand hs
        · rw [los_else (by simp; exact e) (by simp)]; exact b s hs
  induction k with
  | zero => intro u X t h1 h2; omega
  | succ k ih =>
    intro u X t h1 h2
    by_cases e : t = u
    · subst e
      exact keep k _ _ _ (fun i hi => los_line hi) (fun s hs => los_hand hs)
    · exact ih _ _ _ (by omega) (by omega)
theorem losA_else {k' : am_K} {j' : Nat} (h7 : ¬ k'.1 = 7) (h9 : ¬ (k'.1 = 9 ∧ (j' = 1 ∨ j' = 2))) : ∀ (k u : Nat) (X : am_M), losA sh u k X k' j' = X k' j' := by
  intro k
  induction k with
  | zero => exact fun _ _ => rfl
  | succ k ih =>
    intro u X
    unfold losA
    rw [ih, los_else (fun e => h7 (by rw [e])) (fun e => h9 ⟨e.1, e.2.2⟩)]
theorem II_losA (hsh : shk sh) (hII : II sh X) : II sh (losA sh 0 sh.1 X) := by
  have h := fun t (ht : t < sh.1) => losA_at (sh := sh) sh.1 0 X t (Nat.zero_le _) (by omega)
  refine ⟨⟨⟨?_, fun t ht => ⟨?_, ?_⟩⟩, fun t ht => ⟨fun s hs => ⟨0, ?_, ?_⟩, fun i hi => Or.inl ((h t ht).1 i hi).1⟩⟩, fun t ht i i' hi _ _ hn => absurd ((h t ht).1 i hi).1 hn, fun t ht s w hs hw b hb hk => ?_, fun t ht i hi => ⟨0, by decide, ((h t ht).1 i hi).2⟩, fun t ht _ i hi => ((h t ht).1 i hi).2, fun t u htu hu _ b hb ⟨i, hi, hk⟩ => ?_⟩
  · rw [losA_else (by simp) (by simp)]; exact hII.1.1.1
  · rw [losA_else (by simp) (by simp)]; exact (hII.1.1.2 t ht).1
  · rw [losA_else (by simp) (by simp)]; exact (hII.1.1.2 t ht).2
  · have := (hsh.2.2 t ht).2.1; omega
  · exact (h t ht).2 s hs
  · rw [((h t ht).1 _ (lx_lt hsh ht hs hw)).1] at hk; exact absurd hk.symm (nI_ne_m1 (by omega))
  · rw [((h t (by omega)).1 i hi).1] at hk; exact absurd hk.symm (nI_ne_m1 (by omega))
-- the reference's
def mbf (sh : am_Sh) (X : am_M) : Nat → Nat → am_M → am_M
  | _, 0, M => M
  | w, k + 1, M => mbf sh X (w + 1) k (am_up M (21, 30, 0) w (pek sh X w))
def mcl : Nat → Nat → am_M → am_M
  | _, 0, M => M
  | l, k + 1, M => mcl (l + 1) k (am_up (am_up (am_up M (21, 10, 0) l (-1)) (21, 11, 0) l 0) (21, 15, 0) l 0)
def mhz : Nat → Nat → am_M → am_M
  | _, 0, M => M
  | l, k + 1, M => mhz (l + 1) k (am_up M (21, 9, 0) l 0)
theorem mbf_at : ∀ (k w : Nat) (M : am_M) (i : Nat), w ≤ i → i < w + k → mbf sh X w k M (21, 30, 0) i = pek sh X i := by
  intro k
  have keep : ∀ (k w : Nat) (M : am_M) (i : Nat), i < w → mbf sh X w k M (21, 30, 0) i = M (21, 30, 0) i := by
    intro k
    induction k with
    | zero => exact fun _ _ _ _ => rfl
    | succ k ih =>
      intro w M i h
      unfold mbf
      rw [ih _ _ _ (by omega), am_up_j (by omega)]
  induction k with
  | zero => intro w M i h1 h2; omega
  | succ k ih =>
    intro w M i h1 h2
    by_cases e : i = w
    · subst e
      unfold mbf
      rw [keep _ _ _ _ (by omega), am_up_same]
    · exact ih _ _ _ (by omega) (by omega)
theorem mbf_else {k' : am_K} {j' : Nat} (h : ¬ k' = (21, 30, 0)) : ∀ (k w : Nat) (M : am_M), mbf sh X w k M k' j' = M k' j' := by
  intro k
  induction k with
  | zero => exact fun _ _ => rfl
  | succ k ih =>
    intro w M
    unfold mbf
    rw [ih, am_up_k h]
theorem mcl_at : ∀ (k l : Nat) (M : am_M) (i : Nat), l ≤ i → i < l + k → mcl l k M (21, 10, 0) i = -1 := by
  intro k
  have keep : ∀ (k l : Nat) (M : am_M) (i : Nat), i < l → mcl l k M (21, 10, 0) i = M (21, 10, 0) i := by
    intro k
    induction k with
    | zero => exact fun _ _ _ _ => rfl
    | succ k ih =>
      intro w M i h
      unfold mcl
      rw [ih _ _ _ (by omega), am_up_k (by simp), am_up_k (by simp), am_up_j (by omega)]
  induction k with
  | zero => intro w M i h1 h2; omega
  | succ k ih =>
    intro w M i h1 h2
    by_cases e : i = w
    · subst e
      unfold mcl
      rw [keep _ _ _ _ (by omega), am_up_k (by simp), am_up_k (by simp), am_up_same]
    · exact ih _ _ _ (by omega) (by omega)
theorem mcl_else {k' : am_K} {j' : Nat} (h1 : ¬ k' = (21, 10, 0)) (h2 : ¬ k' = (21, 11, 0)) (h3 : ¬ k' = (21, 15, 0)) : ∀ (k l : Nat) (M : am_M), mcl l k M k' j' = M k' j' := by
  intro k
  induction k with
  | zero => exact fun _ _ => rfl
  | succ k ih =>
    intro w M
    unfold mcl
    rw [ih, am_up_k h3, am_up_k h2, am_up_k h1]
theorem mhz_at : ∀ (k l : Nat) (M : am_M) (i : Nat), l ≤ i → i < l + k → mhz l k M (21, 9, 0) i = 0 := by
  intro k
  have keep : ∀ (k l : Nat) (M : am_M) (i : Nat), i < l → mhz l k M (21, 9, 0) i = M (21, 9, 0) i := by
    intro k
    induction k with
    | zero => exact fun _ _ _ _ => rfl
    | succ k ih =>
      intro w M i h
      unfold mhz
      rw [ih _ _ _ (by omega), am_up_j (by omega)]
  induction k with
  | zero => intro w M i h1 h2; omega
  | succ k ih =>
    intro w M i h1 h2
    by_cases e : i = w
    · subst e
      unfold mhz
      rw [keep _ _ _ _ (by omega), am_up_same]
    · exact ih _ _ _ (by omega) (by omega)
theorem mhz_else {k' : am_K} {j' : Nat} (h : ¬ k' = (21, 9, 0)) : ∀ (k l : Nat) (M : am_M), mhz l k M k' j' = M k' j' := by
  intro k
  induction k with
  | zero => exact fun _ _ => rfl
  | succ k ih =>
    intro w M
    unfold mhz
    rw [ih, am_up_k h]
def lsM (sh : am_Sh) (X : am_M) : Nat → Nat → Int32 → Int32
  | _, 0, v => v
  | w, k + 1, v => lsM sh X (w + 1) k (v + (if pek sh X w = X (1, 0, 0) w then 0 else 1))
theorem lsM_add : ∀ (k1 k2 w : Nat) (v : Int32), lsM sh X w (k1 + k2) v = lsM sh X (w + k1) k2 (lsM sh X w k1 v) := by
  intro k1
  induction k1 with
  | zero => intro k2 w v; rw [Nat.zero_add]; rfl
  | succ k1 ih =>
    intro k2 w v
    rw [show k1 + 1 + k2 = (k1 + k2) + 1 by omega, lsM, lsM, ih, show w + 1 + k1 = w + (k1 + 1) by omega]
theorem lsM_blk {b : Nat} (v : Int32) : lsM sh X (4 * b) 4 v = lstB sh X b v := by
  have hp : ∀ k, k < 4 → pek sh X (4 * b + k) = match upm sh X b 0 sh.1 with
      | none => X (1, 0, 0) (4 * b + k)
      | some q => X (10, q.1, q.2) k := by
    intro k hk
    unfold pek
    rw [show (4 * b + k) / 4 = b by omega, show (4 * b + k) % 4 = k by omega]
    cases upm sh X b 0 sh.1 with
    | none => rfl
    | some q => rfl
  have h0 := hp 0 (by omega)
  have h1 := hp 1 (by omega)
  have h2 := hp 2 (by omega)
  have h3 := hp 3 (by omega)
  unfold lstB
  cases hq : upm sh X b 0 sh.1 with
  | none =>
    rw [hq] at h0 h1 h2 h3
    dsimp only at h0 h1 h2 h3
    rw [Nat.add_zero] at h0
    show v + (if pek sh X (4 * b) = X (1, 0, 0) (4 * b) then 0 else 1) + (if pek sh X (4 * b + 1) = X (1, 0, 0) (4 * b + 1) then 0 else 1) + (if pek sh X (4 * b + 1 + 1) = X (1, 0, 0) (4 * b + 1 + 1) then 0 else 1) + (if pek sh X (4 * b + 1 + 1 + 1) = X (1, 0, 0) (4 * b + 1 + 1 + 1) then 0 else 1) = v
    rw [if_pos h0, if_pos h1, if_pos h2, if_pos h3]
    simp
  | some q =>
    rw [hq] at h0 h1 h2 h3
    dsimp only at h0 h1 h2 h3
    rw [Nat.add_zero] at h0
    have hu : ∀ (j k : Nat) (a : Int32), v + unl X q.1 q.2 b j k a = unl X q.1 q.2 b j k (v + a) := by
      intro j k
      induction k generalizing j with
      | zero => exact fun a => rfl
      | succ k ih =>
        intro a
        unfold unl
        rw [ih]
        split
        · rfl
        · rw [Int32.add_assoc]
    dsimp only
    rw [hu, Int32.add_zero]
    show v + (if pek sh X (4 * b) = X (1, 0, 0) (4 * b) then 0 else 1) + (if pek sh X (4 * b + 1) = X (1, 0, 0) (4 * b + 1) then 0 else 1) + (if pek sh X (4 * b + 1 + 1) = X (1, 0, 0) (4 * b + 1 + 1) then 0 else 1) + (if pek sh X (4 * b + 1 + 1 + 1) = X (1, 0, 0) (4 * b + 1 + 1 + 1) then 0 else 1) = _
    rw [h0, h1, show 4 * b + 1 + 1 = 4 * b + 2 from rfl, h2, show 4 * b + 2 + 1 = 4 * b + 3 from rfl, h3]
    have hz : ∀ (a : Int32) (p : Prop) [Decidable p], a + (if p then (0 : Int32) else 1) = if p then a else a + 1 := by
      intro a p _
      split
      · exact Int32.add_zero a
      · rfl
    rw [hz, hz, hz, hz]
    unfold unl unl unl unl unl
    rw [Nat.mul_comm b 4]
    rfl
theorem lsM_lst : ∀ (k b : Nat) (v : Int32), lsM sh X (4 * b) (4 * k) v = lst sh X b k v := by
  intro k
  induction k with
  | zero => exact fun _ _ => rfl
  | succ k ih =>
    intro b v
    rw [show 4 * (k + 1) = 4 + 4 * k by omega, lsM_add, lsM_blk, show 4 * b + 4 = 4 * (b + 1) by omega, ih, lst]
theorem bf_loop (hsh : shk sh) (hu : uq sh X) {d : Nat} (hd : 3 ≤ d) {P : am_S ⊕ am_O → Prop} : ∀ (k w : Nat) (M : am_M) (u2 : Option am_V), rel sh c nol X M → w + k = 1024 → (∀ u2, am_ev sh (am_cr sh d) 98 (31, [some mok, some (am_I (nI 1024)), u2], [], mbf sh X w k M, 0) P) → am_ev sh (am_cr sh d) 98 (7, [some mok, some (am_I (nI w)), u2], [], M, 0) P := by
  intro k
  induction k with
  | zero =>
    intro w M u2 hrel hw hP
    have : w = 1024 := by omega
    subst this
    exact sg_98_7 (fun _ => hP _) (fun e => absurd (nI_le (a := 1024) (by omega) (by omega)) e)
  | succ k ih =>
    intro w M u2 hrel hw hP
    refine sg_98_7 (fun e => absurd e (nI_ge (b := 1024) (by omega) (by omega))) (fun _ => sg_98_14 (m_newest hsh hu hrel (show w < 1024 by omega) d hd) rfl (by omega) ?_)
    rw [nI_1]
    exact ih _ _ _ (rel_up hrel (mv_no21 (by omega))) (by omega) hP
theorem cl_loop {d : Nat} {P : am_S ⊕ am_O → Prop} : ∀ (k l : Nat) (M : am_M) (u2 : Option am_V), l + k = 256 → (∀ u2, am_ev sh (am_cr sh d) 98 (67, [some mok, some (am_I (nI 256)), u2], [], mcl l k M, 0) P) → am_ev sh (am_cr sh d) 98 (33, [some mok, some (am_I (nI l)), u2], [], M, 0) P := by
  intro k
  induction k with
  | zero =>
    intro l M u2 hl hP
    have : l = 256 := by omega
    subst this
    exact sg_98_33 (fun _ => hP _) (fun e => absurd (nI_le (a := 256) (by omega) (by omega)) e)
  | succ k ih =>
    intro l M u2 hl hP
    have h : l < 256 := by omega
    refine sg_98_33 (fun e => absurd e (nI_ge (b := 256) (by omega) (by omega))) (fun _ => sg_98_40 rfl h rfl h rfl h ?_)
    rw [nI_1]
    exact ih _ _ _ (by omega) hP
theorem hz_loop {d : Nat} {P : am_S ⊕ am_O → Prop} : ∀ (k l : Nat) (M : am_M) (u2 : Option am_V), l + k = 64 → (∀ u2, am_ev sh (am_cr sh d) 98 (88, [some mok, some (am_I (nI 64)), u2], [], mhz l k M, 0) P) → am_ev sh (am_cr sh d) 98 (69, [some mok, some (am_I (nI l)), u2], [], M, 0) P := by
  intro k
  induction k with
  | zero =>
    intro l M u2 hl hP
    have : l = 64 := by omega
    subst this
    exact sg_98_69 (fun _ => hP _) (fun e => absurd (nI_le (a := 64) (by omega) (by omega)) e)
  | succ k ih =>
    intro l M u2 hl hP
    refine sg_98_69 (fun e => absurd e (nI_ge (b := 64) (by omega) (by omega))) (fun _ => sg_98_75 rfl (show l < 64 by omega) ?_)
    rw [nI_1]
    exact ih _ _ _ (by omega) hP
theorem ls_loop (h30 : ∀ w, w < 1024 → M (21, 30, 0) w = pek sh X w) (h18 : ∀ w, w < 1024 → M (21, 18, 0) w = X (1, 0, 0) w) {d : Nat} {P : am_S ⊕ am_O → Prop} : ∀ (k w : Nat) (v : Int32), w + k = 1024 → P (Sum.inr (M, Sum.inl (some (am_I (lsM sh X w k v))))) → am_ev sh (am_cr sh d) 98 (92, [some mok, some (am_I v), some (am_I (nI w))], [], M, 0) P := by
  intro k
  induction k with
  | zero =>
    intro w v hw hP
    exact sg_98_92 (fun _ => sg_98_128 hP) (fun e => absurd (nI_le (a := 1024) (by omega) (by omega)) e)
  | succ k ih =>
    intro w v hw hP
    have hw' : w < 1024 := by omega
    unfold lsM at hP
    refine sg_98_92 (fun e => absurd e (nI_ge (b := 1024) (by omega) (by omega))) (fun _ => sg_98_99 rfl hw' rfl hw' (fun e => sg_98_119 (sg_98_120 ?_)) (fun e => sg_98_115 (sg_98_120 ?_)))
    · rw [h30 w hw', h18 w hw'] at e
      rw [if_pos e] at hP
      rw [nI_1]
      exact ih _ _ (by omega) hP
    · rw [h30 w hw', h18 w hw'] at e
      rw [if_neg e] at hP
      rw [nI_1]
      exact ih _ _ (by omega) hP
def mcr (sh : am_Sh) (X M : am_M) : am_M := mhz 0 64 (mcl 0 256 (mbf sh X 0 1024 (am_up M (20, 0, 0) 0 0)))
theorem mcr_else {k' : am_K} {j' : Nat} (h1 : ¬ k' = (21, 9, 0)) (h2 : ¬ k' = (21, 10, 0)) (h3 : ¬ k' = (21, 11, 0)) (h4 : ¬ k' = (21, 15, 0)) (h5 : ¬ k' = (21, 30, 0)) (h6 : ¬ (k' = (20, 0, 0) ∧ j' = 0)) : mcr sh X M k' j' = M k' j' := by
  unfold mcr
  rw [mhz_else h1, mcl_else h2 h3 h4, mbf_else h5, am_up_n h6]
theorem m_crash (hsh : shk sh) (hJ : Jn sh c X M) : am_cq sh 4 98 M [mok] (mcr sh X M, Sum.inl (some (am_I (lst sh X 0 256 0)))) := by
  have hrel0 := (Jn_code hJ 0).2.2.1
  refine am_cq_of (Nat.le_of_ble_eq_true rfl) rfl rfl (fun d hd => sg_98_0 (bf_loop hsh hJ.1.2.1 hd 1024 0 _ none hrel0 rfl (fun u2 => sg_98_31 (cl_loop 256 0 _ u2 rfl (fun u2 => sg_98_67 (hz_loop 64 0 _ u2 rfl (fun u2 => sg_98_88 ?_)))))))
  refine ls_loop (sh := sh) (X := X) (M := mcr sh X M) (fun w hw => ?_) (fun w hw => ?_) 1024 0 0 rfl ?_
  · unfold mcr
    rw [mhz_else (by simp), mcl_else (by simp) (by simp) (by simp), mbf_at _ _ _ _ (Nat.zero_le _) (by omega)]
  · rw [mcr_else (by simp) (by simp) (by simp) (by simp) (by simp) (by simp)]
    exact hJ.2.2.1.1.2.2.2.2.2 w hw
  · have := lsM_lst (sh := sh) (X := X) 256 0 0
    rw [Nat.mul_zero] at this
    rw [show lsM sh X 0 1024 0 = lst sh X 0 256 0 from this]
theorem Jn_crash (hsh : shk sh) (hJ : Jn sh c X M) : Jn sh c (losA sh 0 sh.1 X) (mcr sh X M) ∧ mou M (mcr sh X M) := by
  obtain ⟨hII, hch, hrel, h0, hg⟩ := hJ
  have h := fun t (ht : t < sh.1) => losA_at (sh := sh) sh.1 0 X t (Nat.zero_le _) (by omega)
  have h4 := hsh.1
  have m10 : ∀ l, l < 256 → mcr sh X M (21, 10, 0) l = -1 := fun l hl => by
    unfold mcr
    rw [mhz_else (by simp)]
    exact mcl_at _ _ _ _ (Nat.zero_le _) (by omega)
  have m9 : ∀ l, l < 64 → mcr sh X M (21, 9, 0) l = 0 := fun l hl => mhz_at _ _ _ _ (Nat.zero_le _) (by omega)
  obtain ⟨⟨a1, a2, a3, a4, a5, a6⟩, hB, hC, hD⟩ := hrel
  refine ⟨⟨II_losA hsh hII, chk_of hch (fun u => losA_else (by simp) (by simp) _ _ _), ⟨⟨?_, ?_, ?_, ?_, ?_, fun j hj => ?_⟩, fun t ht => ?_, fun t s w ht hs hw => ⟨?_, fun hp => ?_⟩, fun t ht => ?_⟩, ?_, fun k hk => ?_⟩, fun k j n1 n2 => mcr_else (fun e => n2 (by rw [e])) (fun e => n2 (by rw [e])) (fun e => n2 (by rw [e])) (fun e => n2 (by rw [e])) (fun e => n2 (by rw [e])) (fun e => n1 (by rw [e.1]))⟩
  · rw [mcr_else (by simp) (by simp) (by simp) (by simp) (by simp) (by simp)]; exact a1
  · rw [mcr_else (by simp) (by simp) (by simp) (by simp) (by simp) (by simp)]; exact a2
  · rw [mcr_else (by simp) (by simp) (by simp) (by simp) (by simp) (by simp), losA_else (by simp) (by simp)]; exact a3
  · rw [mcr_else (by simp) (by simp) (by simp) (by simp) (by simp) (by simp), losA_else (by simp) (by simp)]; exact a4
  · rw [mcr_else (by simp) (by simp) (by simp) (by simp) (by simp) (by simp), losA_else (by simp) (by simp)]; exact a5
  · rw [mcr_else (by simp) (by simp) (by simp) (by simp) (by simp) (by simp), losA_else (by simp) (by simp)]; exact a6 j hj
  · obtain ⟨⟨b1, b2, b3, b4, b5⟩, b6, b7⟩ := hB t ht
    have z := zs_le hsh ht
    refine ⟨⟨?_, ?_, ?_, ?_, ?_⟩, fun j hj => ?_, fun s hs => ?_⟩
    · rw [mcr_else (by simp) (by simp) (by simp) (by simp) (by simp) (by simp)]; exact b1
    · rw [mcr_else (by simp) (by simp) (by simp) (by simp) (by simp) (by simp)]; exact b2
    · rw [mcr_else (by simp) (by simp) (by simp) (by simp) (by simp) (by simp), losA_else (by simp) (by simp)]; exact b3
    · rw [mcr_else (by simp) (by simp) (by simp) (by simp) (by simp) (by simp), losA_else (by simp) (by simp)]; exact b4
    · rw [mcr_else (by simp) (by simp) (by simp) (by simp) (by simp) (by simp), losA_else (by simp) (by simp)]; exact b5
    · rw [mcr_else (by simp) (by simp) (by simp) (by simp) (by simp) (by simp), losA_else (by simp) (by simp)]; exact b6 j hj
    · rw [(h t ht).2 s hs]; exact m9 _ (by omega)
  · obtain ⟨k1, k2, k3⟩ := sw_lt hsh ht hs hw
    rw [((h t ht).1 _ (lx_lt hsh ht hs hw)).1]; exact m10 _ (mi_lt k3 k1 k2)
  · exact absurd ((h t ht).1 _ (lx_lt hsh ht hs hw)).1 hp
  · obtain ⟨T, t1, t2, -⟩ := hD t ht
    exact ⟨T, t1, by rw [losA_else (by simp) (by simp)]; exact t2, fun s w hs hw hp => absurd ((h t ht).1 _ (lx_lt hsh ht hs hw)).1 hp⟩
  · rw [mcr_else (by simp) (by simp) (by simp) (by simp) (by simp) (by simp)]; exact h0
  · rw [mcr_else (by simp) (by simp) (by simp) (by simp) (by simp) (by simp), losA_else (by simp) (by simp)]; exact hg k hk
end VE
