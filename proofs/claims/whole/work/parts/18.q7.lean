-- the class's public methods, the rest
section QQ
variable {sh : am_Sh} {X : am_M}
theorem q_lvt (hs : shk sh) {t : Nat} (ht : t < sh.1) : okR sh (t + 1) 32 (lv sh (sh.1 - (t + 1))).1 ∧ okW sh (t + 1) 32 (lv sh (sh.1 - (t + 1))).2 := by
  have h := q_lv hs (sh.1 - (t + 1)) (by omega)
  rw [show sh.1 - (sh.1 - (t + 1)) = t + 1 by omega] at h
  have h4 := hs.1
  exact ⟨okR_up h.1 (by omega), okW_up h.2 (by omega)⟩
abbrev wlo (sh : am_Sh) (t : Nat) : Wr := (lv sh (sh.1 - (t + 1))).2
-- flush, empty
def fls (sh : am_Sh) (t : Nat) : Nat → Nat → am_M → Int32 → am_M × Int32
  | _, 0, X, c => (X, c)
  | i, k + 1, X, c => if X (9, t, i) 1 = -1 then fls sh t (i + 1) k X c else fls sh t (i + 1) k (wdir (wlo sh t) t i X) (c + bcf (X (9, t, i) 2))
def emp (sh : am_Sh) (t : Nat) : Nat → Nat → am_M → Int32 → am_M × Int32
  | _, 0, X, c => (X, c)
  | i, k + 1, X, c => if X (9, t, i) 1 = -1 then emp sh t (i + 1) k X c else emp sh t (i + 1) k (lev sh (wlo sh t) t i X) (c + 1)
theorem there_of {x : Int32} (h : (if x = -1 then (0 : Int32) else 1) = 0) : x = -1 := Decidable.byContradiction fun q => by rw [if_neg q] at h; exact absurd h (by decide)
theorem there_ne {x : Int32} (h : ¬ (if x = -1 then (0 : Int32) else 1) = 0) : ¬ x = -1 := fun q => h (by rw [if_pos q])
theorem fls_loop (hs : shk sh) {t : Nat} (ht : t < sh.1) {d : Nat} (hd : 40 ≤ d) {P : am_S ⊕ am_O → Prop} : ∀ (k i : Nat) (X : am_M) (c : Int32), cI sh X → i + k = sh.2.1 t → (cI sh (fls sh t i k X c).1 → P (Sum.inr ((fls sh t i k X c).1, Sum.inl (some (am_I (fls sh t i k X c).2))))) → am_ev sh (am_cr sh d) 49 (20, [some clk, some (am_I (nI t)), some (am_R (some (6, t, 0))), some (am_I c), some (am_I (nI i))], [], X, 1) P := by
  intro k
  have h5 := N_le hs t
  induction k with
  | zero =>
    intro i X c hX hi hP
    exact sg_49_20 hs.2.1 ht (fun _ => sg_49_55 (hP hX)) (fun h => absurd (nI_le (by omega) (by omega)) h)
  | succ k ih =>
    intro i X c hX hi hP
    have hi' : i < sh.2.1 t := by omega
    refine sg_49_20 hs.2.1 ht (fun h => absurd h (nI_ge (by omega) (by omega))) (fun _ => sg_49_27 hs.2.1 rfl hi' ht hi' (q_isThere ht hi' d (by omega)) (fun h => ?_) (fun h => ?_))
    · have h' := there_of h
      unfold fls at hP
      rw [if_pos h'] at hP
      refine sg_49_49 ?_
      rw [nI_1]
      exact ih _ _ _ hX (by omega) hP
    · have h' := there_ne h
      unfold fls at hP
      rw [if_neg h'] at hP
      obtain ⟨b, hb, hbk⟩ : ∃ b, b < 256 ∧ X (9, t, i) 1 = nI b := ((hX.2 t ht).2 i hi').resolve_left h'
      have hw := q_writeDirty hs ht (by decide) (q_lvt hs ht).2 hX hi' hb hbk
      refine sg_49_37 hs.2.1 rfl hi' ht (hw.1 d (by omega)) (sg_49_49 ?_)
      rw [nI_1]
      exact ih _ _ _ hw.2 (by omega) hP
theorem q_flush (hs : shk sh) (hX : cI sh X) {t : Nat} (ht : t < sh.1) : am_cq sh 41 49 X [clk, am_I (nI t)] ((fls sh t 0 (sh.2.1 t) X 0).1, Sum.inl (some (am_I (fls sh t 0 (sh.2.1 t) X 0).2))) :=
  am_cq_of (Nat.le_of_ble_eq_true rfl) rfl rfl (fun d hd => sg_49_0 (q_needTier hs hX.1 ht d (by omega)) rfl ht hs.1 (fls_loop hs ht hd _ 0 X 0 hX (Nat.zero_add _) (fun _ => rfl)))
theorem cI_fls (hs : shk sh) {t : Nat} (ht : t < sh.1) : ∀ (k i : Nat) (X : am_M) (c : Int32), cI sh X → i + k = sh.2.1 t → cI sh (fls sh t i k X c).1 := by
  intro k
  induction k with
  | zero => exact fun i X c h _ => h
  | succ k ih =>
    intro i X c hX hi
    unfold fls
    split
    · exact ih _ _ _ hX (by omega)
    · rename_i h'
      obtain ⟨b, hb, hbk⟩ : ∃ b, b < 256 ∧ X (9, t, i) 1 = nI b := ((hX.2 t ht).2 i (by omega)).resolve_left h'
      exact ih _ _ _ (q_writeDirty hs ht (by decide) (q_lvt hs ht).2 hX (by omega) hb hbk).2 (by omega)
theorem q_flushT (hX : cfm sh X) {x : Int32} (hw : bad x sh.1) : am_cq sh 2 49 X [clk, am_I x] (X, Sum.inr 3) :=
  am_cq_of (Nat.le_of_ble_eq_true rfl) rfl rfl (fun d hd => sgt_49_2 (q_needTierT hX hw d hd) rfl)
theorem emp_loop (hs : shk sh) {t : Nat} (ht : t < sh.1) {d : Nat} (hd : 40 ≤ d) {P : am_S ⊕ am_O → Prop} : ∀ (k i : Nat) (X : am_M) (c : Int32), cI sh X → i + k = sh.2.1 t → P (Sum.inr ((emp sh t i k X c).1, Sum.inl (some (am_I (emp sh t i k X c).2)))) → am_ev sh (am_cr sh d) 51 (20, [some clk, some (am_I (nI t)), some (am_R (some (6, t, 0))), some (am_I c), some (am_I (nI i))], [], X, 1) P := by
  intro k
  have h5 := N_le hs t
  induction k with
  | zero =>
    intro i X c hX hi hP
    exact sg_51_20 hs.2.1 ht (fun _ => sg_51_55 hP) (fun h => absurd (nI_le (by omega) (by omega)) h)
  | succ k ih =>
    intro i X c hX hi hP
    have hi' : i < sh.2.1 t := by omega
    refine sg_51_20 hs.2.1 ht (fun h => absurd h (nI_ge (by omega) (by omega))) (fun _ => sg_51_27 hs.2.1 rfl hi' ht hi' (q_isThere ht hi' d (by omega)) (fun h => ?_) (fun h => ?_))
    · have h' := there_of h
      unfold emp at hP
      rw [if_pos h'] at hP
      refine sg_51_49 ?_
      rw [nI_1]
      exact ih _ _ _ hX (by omega) hP
    · have h' := there_ne h
      unfold emp at hP
      rw [if_neg h'] at hP
      obtain ⟨b, hb, hbk⟩ : ∃ b, b < 256 ∧ X (9, t, i) 1 = nI b := ((hX.2 t ht).2 i hi').resolve_left h'
      have hw := q_leave hs ht (by decide) (q_lvt hs ht).2 hX hi' hb hbk
      refine sg_51_37 hs.2.1 rfl hi' ht (hw.1 d (by omega)) (sg_51_49 ?_)
      rw [nI_1]
      exact ih _ _ _ hw.2 (by omega) hP
theorem q_empty (hs : shk sh) (hX : cI sh X) {t : Nat} (ht : t < sh.1) : am_cq sh 41 51 X [clk, am_I (nI t)] ((emp sh t 0 (sh.2.1 t) X 0).1, Sum.inl (some (am_I (emp sh t 0 (sh.2.1 t) X 0).2))) :=
  am_cq_of (Nat.le_of_ble_eq_true rfl) rfl rfl (fun d hd => sg_51_0 (q_needTier hs hX.1 ht d (by omega)) rfl ht hs.1 (emp_loop hs ht hd _ 0 X 0 hX (Nat.zero_add _) rfl))
theorem cI_emp (hs : shk sh) {t : Nat} (ht : t < sh.1) : ∀ (k i : Nat) (X : am_M) (c : Int32), cI sh X → i + k = sh.2.1 t → cI sh (emp sh t i k X c).1 := by
  intro k
  induction k with
  | zero => exact fun i X c h _ => h
  | succ k ih =>
    intro i X c hX hi
    unfold emp
    split
    · exact ih _ _ _ hX (by omega)
    · rename_i h'
      obtain ⟨b, hb, hbk⟩ : ∃ b, b < 256 ∧ X (9, t, i) 1 = nI b := ((hX.2 t ht).2 i (by omega)).resolve_left h'
      exact ih _ _ _ (q_leave hs ht (by decide) (q_lvt hs ht).2 hX (by omega) hb hbk).2 (by omega)
theorem q_emptyT (hX : cfm sh X) {x : Int32} (hw : bad x sh.1) : am_cq sh 2 51 X [clk, am_I x] (X, Sum.inr 3) :=
  am_cq_of (Nat.le_of_ble_eq_true rfl) rfl rfl (fun d hd => sgt_51_2 (q_needTierT hX hw d hd) rfl)
-- crash
def unl (X : am_M) (t i b : Nat) : Nat → Nat → Int32 → Int32
  | _, 0, c => c
  | j, k + 1, c => unl X t i b (j + 1) k (if X (10, t, i) j = X (1, 0, 0) (b * 4 + j) then c else c + 1)
theorem unl_loop {t i : Nat} (ht : t < sh.1) (hi : i < sh.2.1 t) {b : Nat} (hb : b < 256) (hbk : X (9, t, i) 1 = nI b) {d : Nat} {P : am_S ⊕ am_O → Prop} : ∀ (k j : Nat) (c : Int32), j + k = 4 → P (Sum.inr (X, Sum.inl (some (am_I (unl X t i b j k c))))) → am_ev sh (am_cr sh d) 19 (4, [some clk, some (am_R (some (9, t, i))), some (am_I c), some (am_I (nI j))], [], X, 0) P := by
  intro k
  induction k with
  | zero =>
    intro j c hj hP
    exact sg_19_4 (fun _ => sg_19_40 hP) (fun h => absurd (nI_le (a := 4) (by omega) (by omega)) h)
  | succ k ih =>
    intro j c hj hP
    unfold unl at hP
    refine sg_19_4 (fun h => absurd h (nI_ge (b := 4) (by omega) (by omega))) (fun _ => sg_19_9 (j2 := b * 4 + j) ht hi rfl (show j < 4 by omega) ?_ (by omega) (fun h => ?_) (fun h => ?_))
    · rw [hbk, show nI b * 4 = nI (b * 4) from pk_mul b 4, nI_add]
    · rw [if_pos h] at hP
      refine sg_19_34 ?_
      rw [nI_1]
      exact ih _ _ (by omega) hP
    · rw [if_neg h] at hP
      refine sg_19_31 (sg_19_34 ?_)
      rw [nI_1]
      exact ih _ _ (by omega) hP
theorem q_unlike {t i : Nat} (ht : t < sh.1) (hi : i < sh.2.1 t) {b : Nat} (hb : b < 256) (hbk : X (9, t, i) 1 = nI b) : am_cq sh 1 19 X [clk, am_R (some (9, t, i))] (X, Sum.inl (some (am_I (unl X t i b 0 4 0)))) :=
  am_cq_of (Nat.le_of_ble_eq_true rfl) rfl rfl (fun d hd => sg_19_0 (unl_loop ht hi hb hbk 4 0 0 rfl rfl))
theorem fnd_blk {t b i : Nat} (h : fnd sh X t b = some i) : X (9, t, i) 1 = nI b := by
  unfold fnd at h
  cases hq : ff (hasB sh X t (b % zs sh t) (nI b)) 0 (wy sh t) with
  | none => rw [hq] at h; cases h
  | some w => rw [hq] at h; cases h; exact of_decide_eq_true (ff_some hq).2.2.1
def lstB (sh : am_Sh) (X : am_M) (b : Nat) (c : Int32) : Int32 := match upm sh X b 0 sh.1 with
  | none => c
  | some q => c + unl X q.1 q.2 b 0 4 0
def lst (sh : am_Sh) (X : am_M) : Nat → Nat → Int32 → Int32
  | _, 0, c => c
  | b, k + 1, c => lst sh X (b + 1) k (lstB sh X b c)
def losA (sh : am_Sh) : Nat → Nat → am_M → am_M
  | _, 0, X => X
  | u, k + 1, X => losA sh (u + 1) k (los sh X u)
theorem losA_loop (hs : shk sh) {d : Nat} (hd : 2 ≤ d) {P : am_S ⊕ am_O → Prop} {c : Int32} : ∀ (k u : Nat) (X : am_M) (u3 : Option am_V), cfm sh X → u + k = sh.1 → P (Sum.inr (losA sh u k X, Sum.inl (some (am_I c)))) → am_ev sh (am_cr sh d) 17 (37, [some clk, some (am_I c), some (am_I (nI u)), u3], [], X, 0) P := by
  intro k
  have h4 := hs.1
  induction k with
  | zero =>
    intro u X u3 hX hu hP
    refine sg_17_37 (fun _ => sg_17_60 hP) (fun h => absurd ?_ h)
    rw [hX.1]; exact nI_le (by omega) (by omega)
  | succ k ih =>
    intro u X u3 hX hu hP
    have hut : u < sh.1 := by omega
    refine sg_17_37 (fun h => ?_) (fun _ => ?_)
    · rw [hX.1] at h; exact absurd h (nI_ge (by omega) (by omega))
    · refine sg_17_45 rfl hut h4 (q_lose hs hX hut d hd) ?_
      rw [nI_1]
      exact ih _ _ _ (cfm_los hX) (by omega) hP
theorem lst_loop (hs : shk sh) (hX : cfm sh X) {d : Nat} (hd : 4 ≤ d) {P : am_S ⊕ am_O → Prop} : ∀ (k b : Nat) (c : Int32) (u3 : Option am_V), b + k = 256 → P (Sum.inr (losA sh 0 sh.1 X, Sum.inl (some (am_I (lst sh X b k c))))) → am_ev sh (am_cr sh d) 17 (4, [some clk, some (am_I c), some (am_I (nI b)), u3], [], X, 0) P := by
  intro k
  induction k with
  | zero =>
    intro b c u3 hb hP
    exact sg_17_4 (fun _ => sg_17_35 (losA_loop hs (by omega) _ 0 X u3 hX (Nat.zero_add _) hP)) (fun h => absurd (nI_le (a := 256) (by omega) (by omega)) h)
  | succ k ih =>
    intro b c u3 hb hP
    refine sg_17_4 (fun h => absurd h (nI_ge (b := 256) (by omega) (by omega))) (fun _ => ?_)
    have hu := q_uppermost hs hX (show b < 256 by omega) d hd
    unfold lst lstB at hP
    cases hq : upm sh X b 0 sh.1 with
    | none =>
      rw [hq] at hu hP
      refine sg_17_11 hu (fun _ => sg_17_29 ?_) (fun q h => by cases h)
      rw [nI_1]
      exact ih _ _ _ (by omega) hP
    | some q =>
      rw [hq] at hu hP
      obtain ⟨h1, h2, h3⟩ := upm_lt hs _ _ (Nat.zero_add _) hq
      refine sg_17_11 hu (fun h => by cases h) (fun _ _ => sg_17_21 (q_unlike h1 h2 (show b < 256 by omega) (fnd_blk h3) d (by omega)) (sg_17_29 ?_))
      rw [nI_1]
      exact ih _ _ _ (by omega) hP
theorem q_crash (hs : shk sh) (hX : cfm sh X) : am_cq sh 5 17 X [clk] (losA sh 0 sh.1 X, Sum.inl (some (am_I (lst sh X 0 256 0)))) :=
  am_cq_of (Nat.le_of_ble_eq_true rfl) rfl rfl (fun d hd => sg_17_0 (lst_loop hs hX hd _ 0 0 none rfl rfl))
-- astray, where nothing stands wrong
def right (sh : am_Sh) (X : am_M) : Prop := ∀ t, t < sh.1 → ∀ i, i < sh.2.1 t → ∀ b, b < 256 → X (9, t, i) 1 = nI b → fnd sh X t b = some i ∧ ∀ u, t < u → u < sh.1 → ¬ X (5, u, 0) 4 = 0 → ¬ fnd sh X u b = none
theorem wI_none {n : Nat} {p : Nat → Bool} (hn : n < 5) (h : wI (ff p 0 n) = -1) : ff p 0 n = none := by
  cases hq : ff p 0 n with
  | none => rfl
  | some w =>
    rw [hq] at h
    have := (ff_some hq).2.1
    exact absurd h (nI_ne_m1 (by omega))
theorem mis_loop (hs : shk sh) (hX : cfm sh X) {x1 : Int32} {b : Nat} (hb : b < 256) {d : Nat} (hd : 2 ≤ d) {P : am_S ⊕ am_O → Prop} : ∀ (k u : Nat), u + k = sh.1 ∨ (k = 0 ∧ sh.1 ≤ u ∧ u < 10) → (∀ v, u ≤ v → v < sh.1 → ¬ X (5, v, 0) 4 = 0 → ¬ fnd sh X v b = none) → P (Sum.inr (X, Sum.inl (some (am_I 0)))) → am_ev sh (am_cr sh d) 24 (4, [some clk, some (am_I x1), some (am_I (nI b)), some (am_I (nI u))], [], X, 0) P := by
  intro k
  have h4 := hs.1
  induction k with
  | zero =>
    intro u hu _ hP
    refine sg_24_4 (fun _ => sg_24_46 hP) (fun h => absurd ?_ h)
    rw [hX.1]; exact nI_le (by omega) (by omega)
  | succ k ih =>
    intro u hu hA hP
    have hut : u < sh.1 := by omega
    have hst : am_ev sh (am_cr sh d) 24 (40, [some clk, some (am_I x1), some (am_I (nI b)), some (am_I (nI u))], [], X, 0) P := by
      refine sg_24_40 ?_
      rw [nI_1]
      exact ih _ (Or.inl (by omega)) (fun v a => hA v (by omega)) hP
    refine sg_24_4 (fun h => ?_) (fun _ => sg_24_12 rfl hut h4 (fun _ => hst) (fun hc => sg_24_24 rfl hut h4 (q_wayOf hs hX hut hb d hd) (fun _ => hst) (fun h => ?_)))
    · rw [hX.1] at h; exact absurd h (nI_ge (by omega) (by omega))
    · refine absurd ?_ (hA u (Nat.le_refl _) hut hc)
      unfold fnd
      rw [wI_none (wy_lt hs hut) h]
      rfl
theorem q_standsWrong (hs : shk sh) (hX : cfm sh X) (hR : right sh X) {t : Nat} (ht : t < sh.1) {i : Nat} (hi : i < sh.2.1 t) {b : Nat} (hb : b < 256) (hbk : X (9, t, i) 1 = nI b) : am_cq sh 4 23 X [clk, am_I (nI t), am_R (some (9, t, i))] (X, Sum.inl (some (am_I 0))) := by
  have h4 := hs.1
  obtain ⟨h1, h2⟩ := hR t ht i hi b hb hbk
  refine am_cq_of (Nat.le_of_ble_eq_true rfl) rfl rfl (fun d hd => ?_)
  have hf := q_fnd hs hX ht hb d hd
  have hm : am_cq sh 3 24 X [clk, am_I (nI t), am_I (nI b)] (X, Sum.inl (some (am_I 0))) := by
    refine am_cq_of (Nat.le_of_ble_eq_true rfl) rfl rfl (fun d hd => sg_24_0 ?_)
    rw [nI_1]
    exact mis_loop hs hX hb hd (sh.1 - (t + 1)) (t + 1) (by omega) (fun v a => h2 v (by omega)) rfl
  have hm' := hm d (by omega)
  rw [h1] at hf
  rw [← hbk] at hf hm'
  exact sg_23_0 rfl ht h4 ht hi hf (show am_has sh (some (9, t, i)) = true from congrArg Option.isSome (am_ct9 ht hi)) (fun h => absurd rfl h) (fun _ => sg_23_17 ht hi hm' (fun _ => sg_23_33 (sg_23_34 (Or.inl rfl) rfl)) (fun h => absurd rfl h))
theorem ast_loop1 (hs : shk sh) (hX : cI sh X) (hR : right sh X) {t : Nat} (ht : t < sh.1) {d : Nat} (hd : 4 ≤ d) {P : am_S ⊕ am_O → Prop} : ∀ (k i : Nat), i + k = sh.2.1 t → am_ev sh (am_cr sh d) 22 (63, [some clk, some (am_I 0), some (am_I (nI t)), some (am_R (some (6, t, 0))), some (am_I (nI (sh.2.1 t)))], [], X, 0) P → am_ev sh (am_cr sh d) 22 (25, [some clk, some (am_I 0), some (am_I (nI t)), some (am_R (some (6, t, 0))), some (am_I (nI i))], [], X, 0) P := by
  intro k
  have h5 := N_le hs t
  induction k with
  | zero =>
    intro i hi hP
    refine sg_22_25 hs.2.1 ht (fun _ => ?_) (fun h => absurd (nI_le (by omega) (by omega)) h)
    rw [show i = sh.2.1 t by omega]
    exact hP
  | succ k ih =>
    intro i hi hP
    have hi' : i < sh.2.1 t := by omega
    have hst : am_ev sh (am_cr sh d) 22 (57, [some clk, some (am_I 0), some (am_I (nI t)), some (am_R (some (6, t, 0))), some (am_I (nI i))], [], X, 0) P := by
      refine sg_22_57 ?_
      rw [nI_1]
      exact ih _ (by omega) hP
    refine sg_22_25 hs.2.1 ht (fun h => absurd h (nI_ge (by omega) (by omega))) (fun _ => sg_22_32 hs.2.1 rfl hi' ht hi' (q_isThere ht hi' d (by omega)) (fun _ => hst) (fun h => ?_))
    obtain ⟨b, hb, hbk⟩ : ∃ b, b < 256 ∧ X (9, t, i) 1 = nI b := ((hX.2 t ht).2 i hi').resolve_left (there_ne h)
    exact sg_22_42 hs.2.1 rfl hi' ht (q_standsWrong hs hX.1 hR ht hi' hb hbk d hd) (fun _ => hst) (fun h => absurd rfl h)
theorem ast_loop (hs : shk sh) (hX : cI sh X) (hR : right sh X) {d : Nat} (hd : 4 ≤ d) {P : am_S ⊕ am_O → Prop} : ∀ (k u : Nat) (u3 u4 : Option am_V), u + k = sh.1 → P (Sum.inr (X, Sum.inl (some (am_I 0)))) → am_ev sh (am_cr sh d) 22 (4, [some clk, some (am_I 0), some (am_I (nI u)), u3, u4], [], X, 0) P := by
  intro k
  have h4 := hs.1
  induction k with
  | zero =>
    intro u u3 u4 hu hP
    refine sg_22_4 (fun _ => sg_22_69 hP) (fun h => absurd ?_ h)
    rw [hX.1.1]; exact nI_le (by omega) (by omega)
  | succ k ih =>
    intro u u3 u4 hu hP
    have hut : u < sh.1 := by omega
    refine sg_22_4 (fun h => ?_) (fun _ => sg_22_12 rfl hut h4 (ast_loop1 hs hX hR hut hd _ 0 (Nat.zero_add _) (sg_22_63 ?_)))
    · rw [hX.1.1] at h; exact absurd h (nI_ge (by omega) (by omega))
    · rw [nI_1]
      exact ih _ _ _ (by omega) hP
theorem q_astray (hs : shk sh) (hX : cI sh X) (hR : right sh X) : am_cq sh 5 22 X [clk] (X, Sum.inl (some (am_I 0))) :=
  am_cq_of (Nat.le_of_ble_eq_true rfl) rfl rfl (fun d hd => sg_22_0 (ast_loop hs hX hR hd _ 0 none none (Nat.zero_add _) rfl))
end QQ
