-- by the clock: the same line is chosen, the hand stands alike
def thC (y : Nat) : Nat → (Nat → Bool) → Nat → Nat → Nat
  | 0, _, _, e => e
  | k + 1, mz, a, _ => if mz a = true then thC y k (fun i => if i = a then false else mz i) ((a + 1) % y) a else a
def mcC (y : Nat) (mz : Nat → Bool) (a : Nat) : Nat → Nat → Nat
  | 0, e => e
  | k + 1, e => mcC y mz a k (if mz ((a + k) % y) = true then e else (a + k) % y)
def ahC (y : Nat) (mz : Nat → Bool) : Nat → Nat → Nat
  | 0, a => a
  | k + 1, a => if mz a = true then ahC y mz k ((a + 1) % y) else a
theorem clk_all : ∀ b0 b1 b2 b3 : Bool, ∀ y : Fin 4, ∀ a : Fin 4, a.val < y.val + 1 → (thC (y.val + 1) (y.val + 2) (fun i => [b0, b1, b2, b3].getD i false) a.val a.val = mcC (y.val + 1) (fun i => [b0, b1, b2, b3].getD i false) a.val (y.val + 1) a.val ∧ ahC (y.val + 1) (fun i => [b0, b1, b2, b3].getD i false) (y.val + 1) a.val = mcC (y.val + 1) (fun i => [b0, b1, b2, b3].getD i false) a.val (y.val + 1) a.val) := by decide +kernel
section RO
variable {sh : am_Sh} {c : Nat} {q : Nat × Nat × Nat} {X X' M M' : am_M} {t s w : Nat}
theorem thC_congr {y : Nat} (hy : 1 ≤ y) : ∀ (k : Nat) (mz mz' : Nat → Bool) (a e : Nat), a < y → (∀ i, i < y → mz i = mz' i) → thC y k mz a e = thC y k mz' a e := by
  intro k
  induction k with
  | zero => exact fun _ _ _ _ _ _ => rfl
  | succ k ih =>
    intro mz mz' a e ha h
    unfold thC
    rw [h a ha, ih (fun i => if i = a then false else mz i) (fun i => if i = a then false else mz' i) _ _ (Nat.mod_lt _ (by omega)) (fun i hi => by by_cases e : i = a <;> simp [e, h i hi])]
theorem mcC_congr {y : Nat} (hy : 1 ≤ y) {mz mz' : Nat → Bool} {a : Nat} (h : ∀ i, i < y → mz i = mz' i) : ∀ (k e : Nat), mcC y mz a k e = mcC y mz' a k e := by
  intro k
  induction k with
  | zero => exact fun _ => rfl
  | succ k ih =>
    intro e
    unfold mcC
    rw [h _ (Nat.mod_lt _ (by omega)), ih]
theorem ahC_congr {y : Nat} (hy : 1 ≤ y) {mz mz' : Nat → Bool} (h : ∀ i, i < y → mz i = mz' i) : ∀ (k a : Nat), a < y → ahC y mz k a = ahC y mz' k a := by
  intro k
  induction k with
  | zero => exact fun _ _ => rfl
  | succ k ih =>
    intro a ha
    unfold ahC
    rw [h a ha, ih _ (Nat.mod_lt _ (by omega))]
abbrev mkX (sh : am_Sh) (X : am_M) (t s : Nat) : Nat → Bool := fun i => decide (¬ X (9, t, ci sh t s i) 6 = 0)
theorem thd_C (hw : 1 ≤ wy sh t) : ∀ (k : Nat) (X : am_M) (a e : Nat), a < wy sh t → (thd sh t s k X a e).2 = thC (wy sh t) k (mkX sh X t s) a e := by
  intro k
  induction k with
  | zero => exact fun _ _ _ _ => rfl
  | succ k ih =>
    intro X a e ha
    unfold thd thC
    by_cases h : X (9, t, s * wy sh t + a) 6 = 0
    · rw [if_pos h, if_neg (by simpa using h)]
    · rw [if_neg h, if_pos (by simpa using h), ih _ _ _ (Nat.mod_lt _ (by omega))]
      refine thC_congr hw _ _ _ _ _ (Nat.mod_lt _ (by omega)) (fun i hi => ?_)
      dsimp only [mkX]
      by_cases e2 : i = a
      · subst e2; rw [am_up_same]; simp
      · rw [am_up_k (by simp; exact e2), am_up_k (by simp), if_neg e2]
theorem ahd_C (hw : 1 ≤ wy sh t) : ∀ (k a : Nat), ahd sh X t s k a = ahC (wy sh t) (mkX sh X t s) k a := by
  intro k
  induction k with
  | zero => exact fun _ => rfl
  | succ k ih =>
    intro a
    unfold ahd ahC
    by_cases h : X (9, t, s * wy sh t + a) 6 = 0
    · rw [if_pos h, if_neg (by simpa using h)]
    · rw [if_neg h, if_pos (by simpa using h), ih]
theorem mch_C (h2 : M (21, 5, 0) t = 2) {f y a : Nat} {mz : Nat → Bool} (hy : 1 ≤ y) (h : ∀ i, i < y → (M (21, 15, 0) (f + i) = 0 ↔ mz i = false)) : ∀ (k e : Nat), mch M t f y a k e = mcC y mz a k e := by
  intro k
  induction k with
  | zero => exact fun _ => rfl
  | succ k ih =>
    intro e
    unfold mch mcC
    rw [if_pos h2, ih]
    have := h ((a + k) % y) (Nat.mod_lt _ (by omega))
    cases hq : mz ((a + k) % y) with
    | true => rw [if_neg (fun r => by rw [this.mp r] at hq; cases hq), if_pos rfl]
    | false => rw [if_pos (this.mpr hq), if_neg (by decide)]
theorem clk_eq {y a : Nat} (hy : 1 ≤ y) (hy4 : y ≤ 4) (ha : a < y) (mz : Nat → Bool) : thC y (y + 1) mz a a = mcC y mz a y a ∧ ahC y mz y a = mcC y mz a y a := by
  have hc : ∀ i, i < y → mz i = (fun i => [mz 0, mz 1, mz 2, mz 3].getD i false) i := by
    intro i hi
    match i, (show i < 4 by omega) with
    | 0, _ => rfl
    | 1, _ => rfl
    | 2, _ => rfl
    | 3, _ => rfl
  have h := clk_all (mz 0) (mz 1) (mz 2) (mz 3) ⟨y - 1, by omega⟩ ⟨a, by omega⟩ (by show a < y - 1 + 1; omega)
  dsimp only at h
  rw [show y - 1 + 1 = y by omega, show y - 1 + 2 = y + 1 by omega] at h
  rw [thC_congr hy _ _ _ _ _ ha hc, mcC_congr hy hc, ahC_congr hy hc _ _ ha]
  exact h
theorem rel_mk (h : rel sh c q X M) (ht : t < sh.1) (hs : s < zs sh t) (hp : ∀ w, w < wy sh t → ¬ X (9, t, ci sh t s w) 1 = -1) : ∀ i, i < wy sh t → M (21, 15, 0) (64 * t + 4 * s + i) = X (9, t, ci sh t s i) 6 := fun i hi => ((h.2.2.1 t s i ht hs hi).2 (hp i hi)).2.2.1
/-- the choice is the class's, and what the class foresees -/
theorem rel_choice (hsh : shk sh) (hch : chk sh X) (h : rel sh c q X M) (ht : t < sh.1) (hs : s < zs sh t) (hp : ∀ w, w < wy sh t → ¬ X (9, t, ci sh t s w) 1 = -1) {a : Nat} (ha : a < wy sh t) : mcho M t s (wy sh t) a = (chs sh X t s a).2 ∧ mcho M t s (wy sh t) a = fsee sh X t s a := by
  have e5 := (h.2.1 t ht).1.2.2.1
  have hw := hsh.2.2 t ht
  unfold chs fsee
  by_cases h2 : X (5, t, 0) 2 = 2
  · rw [if_pos h2, if_pos h2, thd_C hw.2.1 _ _ _ _ ha, ahd_C hw.2.1]
    have hm : mcho M t s (wy sh t) a = mcC (wy sh t) (mkX sh X t s) a (wy sh t) a := by
      unfold mcho
      rw [if_pos (e5.trans h2)]
      refine mch_C (e5.trans h2) hw.2.1 (fun i hi => ?_) _ _
      rw [rel_mk h ht hs hp i hi]
      simp
    rw [hm]
    have := clk_eq hw.2.1 hw.2.2.1 ha (mkX sh X t s)
    exact ⟨this.1.symm, this.2.symm⟩
  · rw [if_neg h2, if_neg h2]
    exact ⟨rel_first hsh hch h ht h2 hs hp a, rel_first hsh hch h ht h2 hs hp a⟩
/-- the hand moves -/
def mmv (t s y : Nat) : Nat → am_M → Nat → am_M
  | 0, M, _ => M
  | k + 1, M, a => if M (21, 15, 0) (64 * t + 4 * s + a) = 0 then am_up M (21, 9, 0) (16 * t + s) (nI ((a + 1) % y)) else mmv t s y k (am_up (am_up M (21, 15, 0) (64 * t + 4 * s + a) 0) (21, 9, 0) (16 * t + s) (nI ((a + 1) % y))) ((a + 1) % y)
theorem mmv_loop {y a0 : Nat} (ht : t < 4) (hs : s < 16) (hy : 1 ≤ y) (hy4 : y ≤ 4) (ha0 : a0 < y) {d : Nat} {P : am_S ⊕ am_O → Prop} : ∀ (k r : Nat) (M : am_M) (a : Nat), r + k = y → M (21, 4, 0) t = nI y → (∀ i, i < r → M (21, 15, 0) (64 * t + 4 * s + (a0 + i) % y) = 0) → a = (a0 + r) % y → M (21, 9, 0) (16 * t + s) = nI a → P (Sum.inr (mmv t s y (k + 1) M a, Sum.inl none)) → am_ev sh (am_cr sh d) 74 (15, [some mok, some (am_I (nI t)), some (am_I (nI s)), some (am_I (nI (64 * t + 4 * s))), some (am_I (nI (16 * t + s)))], [], M, 0) P := by
  intro k
  have hstep : ∀ (M : am_M) (a : Nat), a < y → M (21, 4, 0) t = nI y → M (21, 9, 0) (16 * t + s) = nI a → M (21, 9, 0) (16 * t + s) + 1 - (M (21, 9, 0) (16 * t + s) + 1) / M (21, 4, 0) t * M (21, 4, 0) t = nI ((a + 1) % y) := by
    intro M a ha h4 h9
    rw [h4, h9, nI_1, pk_rem (by omega) (by omega) (by omega)]
  induction k with
  | zero =>
    intro r M a hr h4 hi ha h9 hP
    have hlt : a < y := by rw [ha]; exact Nat.mod_lt _ (by omega)
    have hm0 : M (21, 15, 0) (64 * t + 4 * s + a) = 0 := by
      have := hi 0 (by omega)
      rw [Nat.add_zero] at this
      rw [ha, show a0 + r = a0 + y by omega, Nat.add_mod_right]
      exact this
    unfold mmv at hP
    rw [if_pos hm0] at hP
    refine sg_74_15 (j1 := 16 * t + s) (j2 := 64 * t + 4 * s + a) rfl (by omega) (by rw [h9, nI_add]) (by omega) (fun _ => ?_) (fun h => absurd hm0 h)
    refine sg_74_73 (j1 := 16 * t + s) (j2 := t) rfl (by omega) rfl ht (by rw [h4]; exact nI_ne0 (by omega) (by omega)) ?_
    rw [hstep M a hlt h4 h9]
    exact hP
  | succ k ih =>
    intro r M a hr h4 hi ha h9 hP
    have hlt : a < y := by rw [ha]; exact Nat.mod_lt _ (by omega)
    refine sg_74_15 (j1 := 16 * t + s) (j2 := 64 * t + 4 * s + a) rfl (by omega) (by rw [h9, nI_add]) (by omega) (fun hm0 => ?_) (fun hm0 => ?_)
    · unfold mmv at hP
      rw [if_pos hm0] at hP
      refine sg_74_73 (j1 := 16 * t + s) (j2 := t) rfl (by omega) rfl ht (by rw [h4]; exact nI_ne0 (by omega) (by omega)) ?_
      rw [hstep M a hlt h4 h9]
      exact hP
    · unfold mmv at hP
      rw [if_neg hm0] at hP
      have h4' : am_up M (21, 15, 0) (64 * t + 4 * s + a) 0 (21, 4, 0) t = nI y := by rw [am_up_k (by simp)]; exact h4
      have h9' : am_up M (21, 15, 0) (64 * t + 4 * s + a) 0 (21, 9, 0) (16 * t + s) = nI a := by rw [am_up_k (by simp)]; exact h9
      refine sg_74_32 (j1 := 16 * t + s) (j2 := 64 * t + 4 * s + a) (j3 := t) rfl (by omega) (by rw [h9, nI_add]) (by omega) rfl ht (by rw [h4']; exact nI_ne0 (by omega) (by omega)) ?_
      rw [hstep _ a hlt h4' h9']
      refine ih (r + 1) _ _ (by omega) (by rw [am_up_k (by simp)]; exact h4') (fun i hi' => ?_) (by rw [ha, show a0 + (r + 1) = a0 + r + 1 by omega, Nat.mod_add_mod]) (by rw [am_up_same]) hP
      rw [am_up_k (by simp), am_up_a]
      split
      · rfl
      · rename_i hne
        by_cases e : i = r
        · subst e
          exact absurd ⟨rfl, by rw [ha]⟩ hne
        · exact hi i (by omega)
theorem m_moveHand {y a : Nat} (ht : t < 4) (hs : s < 16) (hy : 1 ≤ y) (hy4 : y ≤ 4) (ha : a < y) (h4 : M (21, 4, 0) t = nI y) (h9 : M (21, 9, 0) (16 * t + s) = nI a) : am_cq sh 2 74 M [mok, am_I (nI t), am_I (nI s)] (mmv t s y (y + 1) M a, Sum.inl none) := by
  have e16 : (16 : Int32) * nI t + nI s = nI (16 * t + s) := by rw [show (16 : Int32) * nI t = nI (16 * t) from pk_mul 16 t, nI_add]
  refine am_cq_of (Nat.le_of_ble_eq_true rfl) rfl rfl (fun d hd => sg_74_0 (m_firstOf d hd) ?_)
  rw [e16]
  exact mmv_loop ht hs hy hy4 ha y 0 M a (by omega) h4 (fun i hi => by omega) (by rw [Nat.add_zero, Nat.mod_eq_of_lt ha]) h9 rfl
theorem rel_mmv (hsh : shk sh) (ht : t < sh.1) (hs : s < zs sh t) : ∀ (k : Nat) (X M : am_M) (a e : Nat), rel sh c q X M → (∀ w, w < wy sh t → ¬ X (9, t, ci sh t s w) 1 = -1) → a < wy sh t → rel sh c q (thd sh t s k X a e).1 (mmv t s (wy sh t) k M a) := by
  intro k
  have hw := (hsh.2.2 t ht).2.1
  induction k with
  | zero => exact fun X M a e h _ _ => h
  | succ k ih =>
    intro X M a e h hp ha
    unfold thd mmv
    have hm := rel_mk h ht hs hp a ha
    by_cases h0 : X (9, t, s * wy sh t + a) 6 = 0
    · rw [if_pos h0, if_pos (hm.trans h0)]
      exact rel_hand hsh h ht hs _
    · rw [if_neg h0, if_neg (fun r => h0 (hm.symm.trans r))]
      refine ih _ _ _ _ ?_ (fun w hw' => ?_) (Nat.mod_lt _ (by omega))
      · have h1 := rel_mark hsh (rel_hand hsh h ht hs (nI ((a + 1) % wy sh t))) ht hs ha 0
        refine rel_M h1 (fun k j _ => ?_)
        rw [am_up_a, am_up_a, am_up_a, am_up_a]
        by_cases e1 : k = (21, 9, 0) ∧ j = 16 * t + s
        · rw [if_pos e1, if_neg (fun r => by have := e1.1.symm.trans r.1; simp at this), if_pos e1]
        · rw [if_neg e1, if_neg e1]
          rfl
      · rw [am_up_j (by decide), am_up_k (by simp)]
        exact hp w hw'
/-- choosing, on both sides -/
def mchs (M : am_M) (t s y a : Nat) : am_M := if M (21, 5, 0) t = 2 then mmv t s y (y + 1) M a else M
theorem rel_chs (hsh : shk sh) (h : rel sh c q X M) (ht : t < sh.1) (hs : s < zs sh t) (hp : ∀ w, w < wy sh t → ¬ X (9, t, ci sh t s w) 1 = -1) {a : Nat} (ha : a < wy sh t) : rel sh c q (chs sh X t s a).1 (mchs M t s (wy sh t) a) := by
  have e5 := (h.2.1 t ht).1.2.2.1
  unfold chs mchs
  by_cases h2 : X (5, t, 0) 2 = 2
  · rw [if_pos h2, if_pos (e5.trans h2)]
    exact rel_mmv hsh ht hs _ _ _ _ _ h hp ha
  · rw [if_neg h2, if_neg (fun r => h2 (e5.symm.trans r))]
    exact h
end RO
