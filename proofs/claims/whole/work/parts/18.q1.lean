/-! What the methods do, as calls of the abstract machine: the tiers and their lines. -/
def am_cq (sh : am_Sh) (k m : Nat) (M : am_M) (as : List am_V) (o : am_O) : Prop := ∀ d, k ≤ d → am_cr sh d m M as o
theorem am_cq_up {sh : am_Sh} {k k' m : Nat} {M : am_M} {as : List am_V} {o : am_O} (h : am_cq sh k m M as o) (hk : k ≤ k') : am_cq sh k' m M as o := fun d hd => h d (Nat.le_trans hk hd)
theorem am_cq_of {sh : am_Sh} {k m : Nat} {M : am_M} {as : List am_V} {o : am_O} {L : am_Ls} (h1 : as.length ≤ am_mL m) (h2 : as.all (fun v => !am_isL v) = true) (hL : am_ent m as = L) (h : ∀ d, k ≤ d → am_ev sh (am_cr sh d) m (0, L, [], M, 0) (fun r => r = Sum.inr o)) : am_cq sh (k + 1) m M as o := by
  intro d hd
  obtain ⟨d', rfl⟩ : ∃ d', d = d' + 1 := ⟨d - 1, by omega⟩
  have hk : k ≤ d' := by omega
  refine ⟨h1, ?_, ?_⟩
  · intro v hv
    have := (List.all_eq_true.mp h2) v hv
    simpa using this
  · have := h d' hk
    rw [hL]
    exact this
abbrev zs (sh : am_Sh) (t : Nat) : Nat := sh.2.2.1 t
def wy (sh : am_Sh) (t : Nat) : Nat := sh.2.1 t / sh.2.2.1 t
/-- the shape is one that tier() makes -/
def shk (sh : am_Sh) : Prop := sh.1 ≤ 4 ∧ am_shok sh ∧ ∀ t, t < sh.1 → ((zs sh t = 1 ∨ zs sh t = 2 ∨ zs sh t = 4 ∨ zs sh t = 8 ∨ zs sh t = 16) ∧ 1 ≤ wy sh t ∧ wy sh t ≤ 4 ∧ sh.2.1 t = zs sh t * wy sh t)
/-- the class's memory says so -/
def cfm (sh : am_Sh) (X : am_M) : Prop := X (0, 0, 0) 4 = nI sh.1 ∧ ∀ t, t < sh.1 → (X (5, t, 0) 0 = nI (zs sh t) ∧ X (5, t, 0) 1 = nI (wy sh t))
theorem zs_le {sh : am_Sh} (hs : shk sh) {t : Nat} (ht : t < sh.1) : 1 ≤ zs sh t ∧ zs sh t ≤ 16 := by
  rcases (hs.2.2 t ht).1 with h | h | h | h | h <;> rw [h] <;> decide
theorem lx_lt {sh : am_Sh} (hs : shk sh) {t s w : Nat} (ht : t < sh.1) (h1 : s < zs sh t) (h2 : w < wy sh t) : s * wy sh t + w < sh.2.1 t := by
  rw [(hs.2.2 t ht).2.2.2]
  calc s * wy sh t + w < s * wy sh t + wy sh t := by omega
    _ = (s + 1) * wy sh t := by rw [Nat.add_mul, Nat.one_mul]
    _ ≤ zs sh t * wy sh t := Nat.mul_le_mul_right _ h1
theorem N_le {sh : am_Sh} (hs : shk sh) (t : Nat) : sh.2.1 t ≤ 64 := (hs.2.1 t).1
theorem and_set : ∀ b : Nat, b < 256 → (nI b &&& (nI 1 - 1) = nI (b % 1) ∧ nI b &&& (nI 2 - 1) = nI (b % 2) ∧ nI b &&& (nI 4 - 1) = nI (b % 4) ∧ nI b &&& (nI 8 - 1) = nI (b % 8) ∧ nI b &&& (nI 16 - 1) = nI (b % 16)) := by decide +kernel
/-- the first w from w on, of k, with p -/
def ff (p : Nat → Bool) : Nat → Nat → Option Nat
  | _, 0 => none
  | w, k + 1 => if p w = true then some w else ff p (w + 1) k
theorem ff_some {p : Nat → Bool} : ∀ {k w v : Nat}, ff p w k = some v → w ≤ v ∧ v < w + k ∧ p v = true ∧ ∀ u, w ≤ u → u < v → p u = false := by
  intro k
  induction k with
  | zero => intro w v h; cases h
  | succ k ih =>
    intro w v h
    unfold ff at h
    split at h
    · rename_i hp
      cases h
      exact ⟨Nat.le_refl _, by omega, hp, fun u a b => by omega⟩
    · rename_i hp
      obtain ⟨a, b, c, d⟩ := ih h
      refine ⟨by omega, by omega, c, fun u e f => ?_⟩
      by_cases hu : u = w
      · subst hu; simpa using hp
      · exact d u (by omega) f
theorem ff_none {p : Nat → Bool} : ∀ {k w : Nat}, ff p w k = none → ∀ u, w ≤ u → u < w + k → p u = false := by
  intro k
  induction k with
  | zero => intro w h u a b; omega
  | succ k ih =>
    intro w h u a b
    unfold ff at h
    split at h
    · cases h
    · rename_i hp
      by_cases hu : u = w
      · subst hu; simpa using hp
      · exact ih h u (by omega) (by omega)
theorem ff_congr {p q : Nat → Bool} : ∀ {k w : Nat}, (∀ u, w ≤ u → u < w + k → p u = q u) → ff p w k = ff q w k := by
  intro k
  induction k with
  | zero => intro w _; rfl
  | succ k ih =>
    intro w h
    unfold ff
    rw [h w (Nat.le_refl _) (by omega), ih (fun u a b => h u (by omega) (by omega))]
theorem ff_of {p : Nat → Bool} {k w v : Nat} (h1 : w ≤ v) (h2 : v < w + k) (h3 : p v = true) (h4 : ∀ u, w ≤ u → u < v → p u = false) : ff p w k = some v := by
  cases h : ff p w k with
  | none => rw [ff_none h v h1 h2] at h3; cases h3
  | some v' =>
    obtain ⟨a, b, c, d⟩ := ff_some h
    rcases Nat.lt_trichotomy v v' with q | q | q
    · rw [d v h1 q] at h3; cases h3
    · rw [q]
    · rw [h4 v' a q] at c; cases c
-- Line
abbrev blk (X : am_M) (t i : Nat) : Int32 := X (9, t, i) 1
def go1 (X : am_M) (t i : Nat) : am_M := am_up (am_up X (9, t, i) 1 (-1)) (9, t, i) 2 0
theorem q_go {sh : am_Sh} {X : am_M} {t i : Nat} (ht : t < sh.1) (hi : i < sh.2.1 t) : am_cq sh 1 0 X [am_R (some (9, t, i))] (go1 X t i, Sum.inl none) :=
  am_cq_of (Nat.le_of_ble_eq_true rfl) rfl rfl (fun d _ => sg_0_0 ht hi rfl)
theorem q_isThere {sh : am_Sh} {X : am_M} {t i : Nat} (ht : t < sh.1) (hi : i < sh.2.1 t) : am_cq sh 1 1 X [am_R (some (9, t, i))] (X, Sum.inl (some (am_I (if blk X t i = -1 then 0 else 1)))) :=
  am_cq_of (Nat.le_of_ble_eq_true rfl) rfl rfl (fun d _ => sg_1_0 ht hi (fun h => sg_1_12 (sg_1_13 (Or.inl rfl) (by rw [if_pos h]))) (fun h => sg_1_8 (sg_1_13 (Or.inr rfl) (by rw [if_neg h]))))
-- Tier
section QT
variable {sh : am_Sh} {X : am_M} {t : Nat}
theorem q_setOf (hs : shk sh) (hX : cfm sh X) (ht : t < sh.1) {b : Nat} (hb : b < 256) : am_cq sh 1 4 X [am_R (some (5, t, 0)), am_I (nI b)] (X, Sum.inl (some (am_I (nI (b % zs sh t))))) := by
  refine am_cq_of (Nat.le_of_ble_eq_true rfl) rfl rfl (fun d _ => sg_4_0 ht ?_)
  rw [(hX.2 t ht).1]
  have := and_set b hb
  rcases (hs.2.2 t ht).1 with h | h | h | h | h <;> rw [h]
  · rw [this.1]
  · rw [this.2.1]
  · rw [this.2.2.1]
  · rw [this.2.2.2.1]
  · rw [this.2.2.2.2]
theorem wy_ix (hX : cfm sh X) (ht : t < sh.1) (s w : Nat) : nI s * X (5, t, 0) 1 + nI w = nI (s * wy sh t + w) := by
  rw [(hX.2 t ht).2, pk_mul, nI_add]
theorem q_at (hs : shk sh) (hX : cfm sh X) (ht : t < sh.1) {s w : Nat} (h1 : s < zs sh t) (h2 : w < wy sh t) : am_cq sh 1 5 X [am_R (some (5, t, 0)), am_I (nI s), am_I (nI w)] (X, Sum.inl (some (am_R (some (9, t, s * wy sh t + w))))) :=
  am_cq_of (Nat.le_of_ble_eq_true rfl) rfl rfl (fun d _ => sg_5_0 ht hs.2.1 (wy_ix hX ht s w) (lx_lt hs ht h1 h2) rfl)
def hasB (sh : am_Sh) (X : am_M) (t s : Nat) (v : Int32) (w : Nat) : Bool := decide (X (9, t, s * wy sh t + w) 1 = v)
def wI (o : Option Nat) : Int32 := match o with
  | none => -1
  | some w => nI w
theorem wy_lt (hs : shk sh) (ht : t < sh.1) : wy sh t < 5 := Nat.lt_succ_of_le (hs.2.2 t ht).2.2.1
theorem wayOf_loop (hs : shk sh) (hX : cfm sh X) (ht : t < sh.1) {s : Nat} (h1 : s < zs sh t) (v : Int32) {d : Nat} (hd : 1 ≤ d) {P : am_S ⊕ am_O → Prop} : ∀ (k w : Nat), w + k = wy sh t → P (Sum.inr (X, Sum.inl (some (am_I (wI (ff (hasB sh X t s v) w k)))))) → am_ev sh (am_cr sh d) 3 (8, [some (am_R (some (5, t, 0))), some (am_I v), some (am_I (nI s)), some (am_I (nI w))], [], X, 0) P := by
  intro k
  have h5 := wy_lt hs ht
  induction k with
  | zero =>
    intro w hw hP
    refine sg_3_8 ht (fun _ => sg_3_37 hP) (fun h => absurd ?_ h)
    rw [(hX.2 t ht).2]
    exact nI_le (by omega) (by omega)
  | succ k ih =>
    intro w hw hP
    refine sg_3_8 ht (fun h => ?_) (fun _ => ?_)
    · rw [(hX.2 t ht).2] at h
      exact absurd h (nI_ge (by omega) (by omega))
    · refine sg_3_16 ht (q_at hs hX ht h1 (show w < wy sh t by omega) d hd) ht (lx_lt hs ht h1 (by omega)) (fun h => ?_) (fun h => ?_)
      · refine sg_3_31 ?_
        rw [nI_1]
        refine ih (w + 1) (by omega) ?_
        unfold ff at hP
        rw [if_neg (by unfold hasB; simpa using h)] at hP
        exact hP
      · refine sg_3_29 ?_
        unfold ff at hP
        rw [if_pos (by unfold hasB; simpa using h)] at hP
        exact hP
theorem b_set (hs : shk sh) (ht : t < sh.1) (b : Nat) : b % zs sh t < zs sh t := Nat.mod_lt _ (zs_le hs ht).1
theorem q_wayOf (hs : shk sh) (hX : cfm sh X) (ht : t < sh.1) {b : Nat} (hb : b < 256) : am_cq sh 2 3 X [am_R (some (5, t, 0)), am_I (nI b)] (X, Sum.inl (some (am_I (wI (ff (hasB sh X t (b % zs sh t) (nI b)) 0 (wy sh t)))))) :=
  am_cq_of (Nat.le_of_ble_eq_true rfl) rfl rfl (fun d hd => sg_3_0 ht (q_setOf hs hX ht hb d hd) (wayOf_loop hs hX ht (b_set hs ht b) _ hd _ 0 (Nat.zero_add _) rfl))
def lkey (sh : am_Sh) (t s : Nat) (o : Option Nat) : Option am_K := o.map (fun w => (9, t, s * wy sh t + w))
theorem nI_ne_m1 {n : Nat} (h : n < 2 ^ 31) : ¬ nI n = -1 := fun e => nI_pos h (by rw [e]; decide)
theorem q_find (hs : shk sh) (hX : cfm sh X) (ht : t < sh.1) {b : Nat} (hb : b < 256) : am_cq sh 3 2 X [am_R (some (5, t, 0)), am_I (nI b)] (X, Sum.inl (some (am_R (lkey sh t (b % zs sh t) (ff (hasB sh X t (b % zs sh t) (nI b)) 0 (wy sh t)))))) := by
  refine am_cq_of (Nat.le_of_ble_eq_true rfl) rfl rfl (fun d hd => sg_2_0 ht (q_wayOf hs hX ht hb d hd) (fun h => ?_) (fun h => ?_))
  · cases hf : ff (hasB sh X t (b % zs sh t) (nI b)) 0 (wy sh t) with
    | none => rw [hf] at h; exact absurd rfl h
    | some w =>
      have := (ff_some hf).2.1
      exact sg_2_15 ht (q_setOf hs hX ht hb d (by omega)) (q_at hs hX ht (b_set hs ht b) (show w < wy sh t by omega) d (by omega)) (sg_2_25 rfl)
  · cases hf : ff (hasB sh X t (b % zs sh t) (nI b)) 0 (wy sh t) with
    | none => exact sg_2_11 (sg_2_25 rfl)
    | some w =>
      rw [hf] at h
      have := (ff_some hf).2.1
      have := wy_lt hs ht
      exact absurd h (nI_ne_m1 (by omega))
def freeB (sh : am_Sh) (X : am_M) (t s w : Nat) : Bool := decide (X (9, t, s * wy sh t + w) 1 = -1)
theorem freeIn_loop (hs : shk sh) (hX : cfm sh X) (ht : t < sh.1) {s : Nat} (h1 : s < zs sh t) {d : Nat} (hd : 1 ≤ d) {P : am_S ⊕ am_O → Prop} : ∀ (k w : Nat), w + k = wy sh t → P (Sum.inr (X, Sum.inl (some (am_R (lkey sh t s (ff (freeB sh X t s) w k)))))) → am_ev sh (am_cr sh d) 7 (2, [some (am_R (some (5, t, 0))), some (am_I (nI s)), some (am_I (nI w))], [], X, 0) P := by
  intro k
  have h5 := wy_lt hs ht
  induction k with
  | zero =>
    intro w hw hP
    refine sg_7_2 ht (fun _ => sg_7_35 hP) (fun h => absurd ?_ h)
    rw [(hX.2 t ht).2]
    exact nI_le (by omega) (by omega)
  | succ k ih =>
    intro w hw hP
    refine sg_7_2 ht (fun h => ?_) (fun _ => ?_)
    · rw [(hX.2 t ht).2] at h
      exact absurd h (nI_ge (by omega) (by omega))
    · have hl := lx_lt hs ht h1 (show w < wy sh t by omega)
      refine sg_7_10 ht (q_at hs hX ht h1 (show w < wy sh t by omega) d hd) ht hl (q_isThere ht hl d hd) (fun h => ?_) (fun h => ?_)
      · refine sg_7_29 ?_
        rw [nI_1]
        refine ih (w + 1) (by omega) ?_
        unfold ff at hP
        rw [if_neg (by unfold freeB; intro q; rw [if_pos (of_decide_eq_true q)] at h; exact h rfl)] at hP
        exact hP
      · refine sg_7_22 ht (q_at hs hX ht h1 (show w < wy sh t by omega) d hd) ?_
        unfold ff at hP
        rw [if_pos (by
          unfold freeB
          refine decide_eq_true (Decidable.byContradiction fun q => ?_)
          rw [if_neg q] at h
          exact absurd h (by decide))] at hP
        exact hP
theorem q_freeIn (hs : shk sh) (hX : cfm sh X) (ht : t < sh.1) {s : Nat} (h1 : s < zs sh t) : am_cq sh 2 7 X [am_R (some (5, t, 0)), am_I (nI s)] (X, Sum.inl (some (am_R (lkey sh t s (ff (freeB sh X t s) 0 (wy sh t)))))) :=
  am_cq_of (Nat.le_of_ble_eq_true rfl) rfl rfl (fun d hd => sg_7_0 (freeIn_loop hs hX ht h1 hd _ 0 (Nat.zero_add _) rfl))
theorem q_wayAfter (hs : shk sh) (hX : cfm sh X) (ht : t < sh.1) {w : Nat} (h2 : w < wy sh t) : am_cq sh 1 10 X [am_R (some (5, t, 0)), am_I (nI w)] (X, Sum.inl (some (am_I (nI ((w + 1) % wy sh t))))) := by
  have h5 := wy_lt hs ht
  refine am_cq_of (Nat.le_of_ble_eq_true rfl) rfl rfl (fun d _ => sg_10_0 ht (fun h => sg_10_16 (sg_10_17 ?_)) (fun h => sg_10_10 (sg_10_17 ?_)))
  · rw [(hX.2 t ht).2, nI_1] at h
    have : wy sh t ≤ w + 1 := (nI_leI (by omega) (by omega)).mp h
    have e : w + 1 = wy sh t := by omega
    rw [e, Nat.mod_self]
    rfl
  · rw [(hX.2 t ht).2, nI_1] at h
    have : ¬ wy sh t ≤ w + 1 := fun q => h ((nI_leI (by omega) (by omega)).mpr q)
    rw [Nat.mod_eq_of_lt (by omega), nI_1]
def gb (X : am_M) (t i i' : Nat) : Bool :=
  if X (5, t, 0) 2 = 1 then decide (X (9, t, i) 4 < X (9, t, i') 4)
  else if X (5, t, 0) 2 = 3 ∧ ¬ X (9, t, i) 5 = X (9, t, i') 5 then decide (X (9, t, i) 5 < X (9, t, i') 5)
  else decide (X (9, t, i) 3 < X (9, t, i') 3)
def b01 (b : Bool) : Int32 := if b = true then 1 else 0
theorem b01_of (b : Bool) : b01 b = 0 ∨ b01 b = 1 := by cases b <;> decide
theorem i_nle {x y : Int32} (h : ¬ y ≤ x) : x < y := by
  rw [Int32.lt_iff_toInt_lt]
  rw [Int32.le_iff_toInt_le] at h
  omega
theorem i_nlt {x y : Int32} (h : y ≤ x) : ¬ x < y := by
  rw [Int32.lt_iff_toInt_lt]
  rw [Int32.le_iff_toInt_le] at h
  omega
theorem q_goesBefore (ht : t < sh.1) {i i' : Nat} (hi : i < sh.2.1 t) (hi' : i' < sh.2.1 t) : am_cq sh 1 12 X [am_R (some (5, t, 0)), am_R (some (9, t, i)), am_R (some (9, t, i'))] (X, Sum.inl (some (am_I (b01 (gb X t i i'))))) := by
  refine am_cq_of (Nat.le_of_ble_eq_true rfl) rfl rfl (fun d _ => sg_12_0 ht (fun c1 => sg_12_25 ht (fun c3 => ?_) (fun c3 => ?_)) (fun c1 => ?_))
  · refine sg_12_61 ht hi ht hi' (fun h => sg_12_76 (sg_12_77 (Or.inl rfl) ?_)) (fun h => sg_12_72 (sg_12_77 (Or.inr rfl) ?_))
    · rw [show gb X t i i' = false from by unfold gb; rw [if_neg c1, if_neg (fun q => c3 q.1)]; exact decide_eq_false (i_nlt h)]; rfl
    · rw [show gb X t i i' = true from by unfold gb; rw [if_neg c1, if_neg (fun q => c3 q.1)]; exact decide_eq_true (i_nle h)]; rfl
  · refine sg_12_33 ht hi ht hi' (fun e => ?_) (fun e => ?_)
    · refine sg_12_61 ht hi ht hi' (fun h => sg_12_76 (sg_12_77 (Or.inl rfl) ?_)) (fun h => sg_12_72 (sg_12_77 (Or.inr rfl) ?_))
      · rw [show gb X t i i' = false from by unfold gb; rw [if_neg c1, if_neg (fun q => q.2 e)]; exact decide_eq_false (i_nlt h)]; rfl
      · rw [show gb X t i i' = true from by unfold gb; rw [if_neg c1, if_neg (fun q => q.2 e)]; exact decide_eq_true (i_nle h)]; rfl
    · refine sg_12_44 ht hi ht hi' (fun h => sg_12_59 (sg_12_60 (Or.inl rfl) ?_)) (fun h => sg_12_55 (sg_12_60 (Or.inr rfl) ?_))
      · rw [show gb X t i i' = false from by unfold gb; rw [if_neg c1, if_pos ⟨c3, e⟩]; exact decide_eq_false (i_nlt h)]; rfl
      · rw [show gb X t i i' = true from by unfold gb; rw [if_neg c1, if_pos ⟨c3, e⟩]; exact decide_eq_true (i_nle h)]; rfl
  · refine sg_12_8 ht hi ht hi' (fun h => sg_12_23 (sg_12_24 (Or.inl rfl) ?_)) (fun h => sg_12_19 (sg_12_24 (Or.inr rfl) ?_))
    · rw [show gb X t i i' = false from by unfold gb; rw [if_pos c1]; exact decide_eq_false (i_nlt h)]; rfl
    · rw [show gb X t i i' = true from by unfold gb; rw [if_pos c1]; exact decide_eq_true (i_nle h)]; rfl
end QT
