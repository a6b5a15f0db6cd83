-- the class's public methods (all but tier)
section QP
variable {sh : am_Sh} {X : am_M}
/-- an int that is no place below n -/
abbrev bad (x : Int32) (n : Nat) : Prop := x < 0 ∨ nI n ≤ x
theorem bad_nlt {x : Int32} {n : Nat} (h : bad x n) (h0 : ¬ x < 0) : ¬ x < nI n := by
  rcases h with h | h
  · exact absurd h h0
  · exact i_nlt h
theorem q_needWord {w : Nat} (hw : w < 1024) : am_cq sh 1 28 X [am_I (nI w)] (X, Sum.inl none) :=
  am_cq_of (Nat.le_of_ble_eq_true rfl) rfl rfl (fun d _ => sg_28_0 (fun h => absurd h (nI_pos (by omega))) (fun _ => sg_28_4 (fun _ => sg_28_21 rfl) (fun h => absurd (nI_lt (b := 1024) hw (by omega)) h)))
theorem q_needWordT {x : Int32} (hw : bad x 1024) : am_cq sh 1 28 X [am_I x] (X, Sum.inr 3) :=
  am_cq_of (Nat.le_of_ble_eq_true rfl) rfl rfl (fun d _ => sg_28_0 (fun h => sg_28_11 rfl) (fun h => sg_28_4 (fun h2 => absurd h2 (bad_nlt hw h)) (fun h => sg_28_11 rfl)))
theorem q_needTier (hs : shk sh) (hX : cfm sh X) {t : Nat} (ht : t < sh.1) : am_cq sh 1 50 X [clk, am_I (nI t)] (X, Sum.inl none) := by
  have h4 := hs.1
  refine am_cq_of (Nat.le_of_ble_eq_true rfl) rfl rfl (fun d _ => sg_50_0 (fun h => absurd h (nI_pos (by omega))) (fun _ => sg_50_4 (fun _ => sg_50_22 rfl) (fun h => absurd ?_ h)))
  rw [hX.1]; exact nI_lt ht (by omega)
theorem q_needTierT (hX : cfm sh X) {x : Int32} (hw : bad x sh.1) : am_cq sh 1 50 X [clk, am_I x] (X, Sum.inr 3) :=
  am_cq_of (Nat.le_of_ble_eq_true rfl) rfl rfl (fun d _ => sg_50_0 (fun h => sg_50_12 rfl) (fun h => sg_50_4 (fun h2 => by rw [hX.1] at h2; exact absurd h2 (bad_nlt hw h)) (fun h => sg_50_12 rfl)))
theorem q_needSet (hs : shk sh) (hX : cfm sh X) {t : Nat} (ht : t < sh.1) {s : Nat} (h1 : s < zs sh t) : am_cq sh 2 54 X [clk, am_I (nI t), am_I (nI s)] (X, Sum.inl none) := by
  have h4 := zs_le hs ht
  refine am_cq_of (Nat.le_of_ble_eq_true rfl) rfl rfl (fun d hd => sg_54_0 (q_needTier hs hX ht d hd) (fun h => absurd h (nI_pos (by omega))) (fun _ => sg_54_9 rfl ht hs.1 (fun _ => sg_54_32 rfl) (fun h => absurd ?_ h)))
  rw [(hX.2 t ht).1]; exact nI_lt h1 (by omega)
theorem q_needSetT1 (hX : cfm sh X) {x y : Int32} (hw : bad x sh.1) : am_cq sh 2 54 X [clk, am_I x, am_I y] (X, Sum.inr 3) :=
  am_cq_of (Nat.le_of_ble_eq_true rfl) rfl rfl (fun d hd => sgt_54_2 (q_needTierT hX hw d hd) rfl)
theorem q_needSetT2 (hs : shk sh) (hX : cfm sh X) {t : Nat} (ht : t < sh.1) {y : Int32} (hw : bad y (zs sh t)) : am_cq sh 2 54 X [clk, am_I (nI t), am_I y] (X, Sum.inr 3) :=
  am_cq_of (Nat.le_of_ble_eq_true rfl) rfl rfl (fun d hd => sg_54_0 (q_needTier hs hX ht d hd) (fun h => sg_54_22 rfl) (fun h => sg_54_9 rfl ht hs.1 (fun h2 => by rw [(hX.2 t ht).1] at h2; exact absurd h2 (bad_nlt hw h)) (fun _ => sg_54_22 rfl)))
theorem q_needBlock (hs : shk sh) (hX : cfm sh X) {t : Nat} (ht : t < sh.1) {b : Nat} (hb : b < 256) : am_cq sh 2 56 X [clk, am_I (nI t), am_I (nI b)] (X, Sum.inl none) :=
  am_cq_of (Nat.le_of_ble_eq_true rfl) rfl rfl (fun d hd => sg_56_0 (q_needTier hs hX ht d hd) (fun h => absurd h (nI_pos (by omega))) (fun _ => sg_56_9 (fun _ => sg_56_26 rfl) (fun h => absurd (nI_lt (b := 256) hb (by omega)) h)))
theorem q_needBlockT1 (hX : cfm sh X) {x y : Int32} (hw : bad x sh.1) : am_cq sh 2 56 X [clk, am_I x, am_I y] (X, Sum.inr 3) :=
  am_cq_of (Nat.le_of_ble_eq_true rfl) rfl rfl (fun d hd => sgt_56_2 (q_needTierT hX hw d hd) rfl)
theorem q_needBlockT2 (hs : shk sh) (hX : cfm sh X) {t : Nat} (ht : t < sh.1) {y : Int32} (hw : bad y 256) : am_cq sh 2 56 X [clk, am_I (nI t), am_I y] (X, Sum.inr 3) :=
  am_cq_of (Nat.le_of_ble_eq_true rfl) rfl rfl (fun d hd => sg_56_0 (q_needTier hs hX ht d hd) (fun h => sg_56_16 rfl) (fun h => sg_56_9 (fun h2 => absurd h2 (bad_nlt hw h)) (fun _ => sg_56_16 rfl)))
-- read, write
theorem q_read (hs : shk sh) (hX : cI sh X) {w : Nat} (hw : w < 1024) : am_cq sh 34 27 X [clk, am_I (nI w)] (rdw sh w X, Sum.inl (some (am_I (rdw sh w X (3, 0, 0) (w % 4))))) :=
  am_cq_of (Nat.le_of_ble_eq_true rfl) rfl rfl (fun d hd => sg_27_0 (q_needWord hw d (by omega)) ((q_readWord hs hX hw).1 d hd) rfl)
theorem q_readT {x : Int32} (hw : bad x 1024) : am_cq sh 2 27 X [clk, am_I x] (X, Sum.inr 3) :=
  am_cq_of (Nat.le_of_ble_eq_true rfl) rfl rfl (fun d hd => sgt_27_1 (q_needWordT hw d hd) rfl)
theorem q_write (hs : shk sh) (hX : cI sh X) {w : Nat} (hw : w < 1024) {v : Int32} : am_cq sh 34 43 X [clk, am_I (nI w), am_I v] (wrw sh w v X, Sum.inl none) :=
  am_cq_of (Nat.le_of_ble_eq_true rfl) rfl rfl (fun d hd => sg_43_0 (q_needWord hw d (by omega)) ((q_writeWord hs hX hw).1 d hd) rfl)
theorem q_writeT {x v : Int32} (hw : bad x 1024) : am_cq sh 2 43 X [clk, am_I x, am_I v] (X, Sum.inr 3) :=
  am_cq_of (Nat.le_of_ble_eq_true rfl) rfl rfl (fun d hd => sgt_43_1 (q_needWordT hw d hd) rfl)
-- peek, stored
def upm (sh : am_Sh) (X : am_M) (b : Nat) : Nat → Nat → Option (Nat × Nat)
  | _, 0 => none
  | u, k + 1 => match fnd sh X u b with
    | some i => some (u, i)
    | none => upm sh X b (u + 1) k
theorem upm_loop (hs : shk sh) (hX : cfm sh X) {b : Nat} (hb : b < 256) {d : Nat} (hd : 3 ≤ d) {P : am_S ⊕ am_O → Prop} : ∀ (k u : Nat) (u3 : Option am_V), u + k = sh.1 → P (Sum.inr (X, Sum.inl (some (am_R ((upm sh X b u k).map (fun q => (9, q.1, q.2))))))) → am_ev sh (am_cr sh d) 18 (2, [some clk, some (am_I (nI b)), some (am_I (nI u)), u3], [], X, 0) P := by
  intro k
  have h4 := hs.1
  induction k with
  | zero =>
    intro u u3 hu hP
    refine sg_18_2 (fun _ => sg_18_33 hP) (fun h => absurd ?_ h)
    rw [hX.1]; exact nI_le (by omega) (by omega)
  | succ k ih =>
    intro u u3 hu hP
    have hut : u < sh.1 := by omega
    refine sg_18_2 (fun h => ?_) (fun _ => ?_)
    · rw [hX.1] at h; exact absurd h (nI_ge (by omega) (by omega))
    · have hf := q_fnd hs hX hut hb d hd
      unfold upm at hP
      cases hq : fnd sh X u b with
      | none =>
        rw [hq] at hf hP
        refine sg_18_10 rfl hut h4 hf (fun _ => sg_18_27 ?_) (fun q h => by cases h)
        rw [nI_1]
        exact ih _ _ (by omega) hP
      | some i =>
        rw [hq] at hf hP
        exact sg_18_10 rfl hut h4 hf (fun h => by cases h) (fun q h => sg_18_25 hP)
theorem q_uppermost (hs : shk sh) (hX : cfm sh X) {b : Nat} (hb : b < 256) : am_cq sh 4 18 X [clk, am_I (nI b)] (X, Sum.inl (some (am_R ((upm sh X b 0 sh.1).map (fun q => (9, q.1, q.2)))))) :=
  am_cq_of (Nat.le_of_ble_eq_true rfl) rfl rfl (fun d hd => sg_18_0 (upm_loop hs hX hb hd _ 0 none (Nat.zero_add _) rfl))
theorem upm_lt (hs : shk sh) {b : Nat} : ∀ (k u : Nat) {q : Nat × Nat}, u + k = sh.1 → upm sh X b u k = some q → q.1 < sh.1 ∧ q.2 < sh.2.1 q.1 ∧ fnd sh X q.1 b = some q.2 := by
  intro k
  induction k with
  | zero => intro u q _ h; cases h
  | succ k ih =>
    intro u q hu h
    unfold upm at h
    cases hq : fnd sh X u b with
    | none => rw [hq] at h; exact ih _ (by omega) h
    | some i =>
      rw [hq] at h
      cases h
      exact ⟨by omega, fnd_lt hs (by omega) hq, hq⟩
def pek (sh : am_Sh) (X : am_M) (w : Nat) : Int32 := match upm sh X (w / 4) 0 sh.1 with
  | none => X (1, 0, 0) w
  | some q => X (10, q.1, q.2) (w % 4)
theorem q_peek (hs : shk sh) (hX : cfm sh X) {w : Nat} (hw : w < 1024) : am_cq sh 5 47 X [clk, am_I (nI w)] (X, Sum.inl (some (am_I (pek sh X w)))) := by
  refine am_cq_of (Nat.le_of_ble_eq_true rfl) rfl rfl (fun d hd => ?_)
  have hu := q_uppermost hs hX (show w / 4 < 256 by omega) d (by omega)
  unfold pek
  cases hq : upm sh X (w / 4) 0 sh.1 with
  | none =>
    rw [hq] at hu
    exact sg_47_0 (q_needWord hw d (by omega)) (q_blockOf hw d (by omega)) hu (fun q h => by cases h) (fun _ => sg_47_17 rfl hw (sg_47_34 rfl))
  | some q =>
    rw [hq] at hu
    obtain ⟨h1, h2, -⟩ := upm_lt hs _ _ (Nat.zero_add _) hq
    exact sg_47_0 (q_needWord hw d (by omega)) (q_blockOf hw d (by omega)) hu (fun q h => sg_47_26 h1 h2 (pk_rem (d := 4) (by omega) (by omega) (by omega)) (by omega) (sg_47_34 rfl)) (fun h => by cases h)
theorem q_peekT {x : Int32} (hw : bad x 1024) : am_cq sh 2 47 X [clk, am_I x] (X, Sum.inr 3) :=
  am_cq_of (Nat.le_of_ble_eq_true rfl) rfl rfl (fun d hd => sgt_47_1 (q_needWordT hw d hd) rfl)
theorem q_stored {w : Nat} (hw : w < 1024) : am_cq sh 2 48 X [clk, am_I (nI w)] (X, Sum.inl (some (am_I (X (1, 0, 0) w)))) :=
  am_cq_of (Nat.le_of_ble_eq_true rfl) rfl rfl (fun d hd => sg_48_0 (q_needWord hw d hd) rfl hw rfl)
theorem q_storedT {x : Int32} (hw : bad x 1024) : am_cq sh 2 48 X [clk, am_I x] (X, Sum.inr 3) :=
  am_cq_of (Nat.le_of_ble_eq_true rfl) rfl rfl (fun d hd => sgt_48_1 (q_needWordT hw d hd) rfl)
-- count, traffic, tiers, line, way, dirty, next
theorem q_count (hs : shk sh) (hX : cfm sh X) {t : Nat} (ht : t < sh.1) {j : Nat} (hj : j < 6) : am_cq sh 2 52 X [clk, am_I (nI t), am_I (nI j)] (X, Sum.inl (some (am_I (X (8, t, 0) j)))) :=
  am_cq_of (Nat.le_of_ble_eq_true rfl) rfl rfl (fun d hd => sg_52_0 (q_needTier hs hX ht d hd) (fun h => absurd h (nI_pos (by omega))) (fun _ => sg_52_9 (fun _ => sg_52_25 rfl ht hs.1 rfl hj rfl) (fun h => absurd (nI_lt (b := 6) hj (by omega)) h)))
theorem q_countT1 (hX : cfm sh X) {x y : Int32} (hw : bad x sh.1) : am_cq sh 2 52 X [clk, am_I x, am_I y] (X, Sum.inr 3) :=
  am_cq_of (Nat.le_of_ble_eq_true rfl) rfl rfl (fun d hd => sgt_52_2 (q_needTierT hX hw d hd) rfl)
theorem q_countT2 (hs : shk sh) (hX : cfm sh X) {t : Nat} (ht : t < sh.1) {y : Int32} (hw : bad y 6) : am_cq sh 2 52 X [clk, am_I (nI t), am_I y] (X, Sum.inr 0) :=
  am_cq_of (Nat.le_of_ble_eq_true rfl) rfl rfl (fun d hd => sg_52_0 (q_needTier hs hX ht d hd) (fun h => sg_52_15 rfl) (fun h => sg_52_9 (fun h2 => absurd h2 (bad_nlt hw h)) (fun _ => sg_52_15 rfl)))
theorem q_traffic {x : Int32} : am_cq sh 1 20 X [clk, am_I x] (X, Sum.inl (some (am_I (if x = 0 then X (0, 0, 0) 5 else X (0, 0, 0) 6)))) :=
  am_cq_of (Nat.le_of_ble_eq_true rfl) rfl rfl (fun d hd => sg_20_0 (fun h => sg_20_11 (sg_20_15 (by rw [if_pos h]))) (fun h => sg_20_4 (sg_20_15 (by rw [if_neg h]))))
theorem q_tiers : am_cq sh 1 21 X [clk] (X, Sum.inl (some (am_I (X (0, 0, 0) 4)))) :=
  am_cq_of (Nat.le_of_ble_eq_true rfl) rfl rfl (fun d hd => sg_21_0 rfl)
theorem q_line (hs : shk sh) (hX : cfm sh X) {t : Nat} (ht : t < sh.1) {s w : Nat} (h1 : s < zs sh t) (h2 : w < wy sh t) : am_cq sh 3 53 X [clk, am_I (nI t), am_I (nI s), am_I (nI w)] (X, Sum.inl (some (am_I (X (9, t, s * wy sh t + w) 1)))) := by
  have h5 := wy_lt hs ht
  refine am_cq_of (Nat.le_of_ble_eq_true rfl) rfl rfl (fun d hd => sg_53_0 (q_needSet hs hX ht h1 d hd) (fun h => absurd h (nI_pos (by omega))) (fun _ => sg_53_10 rfl ht hs.1 (fun _ => sg_53_33 rfl ht hs.1 (q_at hs hX ht h1 h2 d (by omega)) ht (lx_lt hs ht h1 h2) rfl) (fun h => absurd ?_ h)))
  rw [(hX.2 t ht).2]; exact nI_lt h2 (by omega)
theorem q_lineT1 (hX : cfm sh X) {x y z : Int32} (hw : bad x sh.1) : am_cq sh 3 53 X [clk, am_I x, am_I y, am_I z] (X, Sum.inr 3) :=
  am_cq_of (Nat.le_of_ble_eq_true rfl) rfl rfl (fun d hd => sgt_53_3 (q_needSetT1 hX hw d hd) rfl)
theorem q_lineT2 (hs : shk sh) (hX : cfm sh X) {t : Nat} (ht : t < sh.1) {y z : Int32} (hw : bad y (zs sh t)) : am_cq sh 3 53 X [clk, am_I (nI t), am_I y, am_I z] (X, Sum.inr 3) :=
  am_cq_of (Nat.le_of_ble_eq_true rfl) rfl rfl (fun d hd => sgt_53_3 (q_needSetT2 hs hX ht hw d hd) rfl)
theorem q_lineT3 (hs : shk sh) (hX : cfm sh X) {t : Nat} (ht : t < sh.1) {s : Nat} (h1 : s < zs sh t) {z : Int32} (hw : bad z (wy sh t)) : am_cq sh 3 53 X [clk, am_I (nI t), am_I (nI s), am_I z] (X, Sum.inr 3) :=
  am_cq_of (Nat.le_of_ble_eq_true rfl) rfl rfl (fun d hd => sg_53_0 (q_needSet hs hX ht h1 d hd) (fun h => sg_53_23 rfl) (fun h => sg_53_10 rfl ht hs.1 (fun h2 => by rw [(hX.2 t ht).2] at h2; exact absurd h2 (bad_nlt hw h)) (fun _ => sg_53_23 rfl)))
theorem q_way (hs : shk sh) (hX : cfm sh X) {t : Nat} (ht : t < sh.1) {b : Nat} (hb : b < 256) : am_cq sh 3 55 X [clk, am_I (nI t), am_I (nI b)] (X, Sum.inl (some (am_I (wI (ff (hasB sh X t (b % zs sh t) (nI b)) 0 (wy sh t)))))) :=
  am_cq_of (Nat.le_of_ble_eq_true rfl) rfl rfl (fun d hd => sg_55_0 (q_needBlock hs hX ht hb d hd) rfl ht hs.1 (q_wayOf hs hX ht hb d hd) rfl)
theorem q_wayT1 (hX : cfm sh X) {x y : Int32} (hw : bad x sh.1) : am_cq sh 3 55 X [clk, am_I x, am_I y] (X, Sum.inr 3) :=
  am_cq_of (Nat.le_of_ble_eq_true rfl) rfl rfl (fun d hd => sgt_55_3 (q_needBlockT1 hX hw d hd) rfl)
theorem q_wayT2 (hs : shk sh) (hX : cfm sh X) {t : Nat} (ht : t < sh.1) {y : Int32} (hw : bad y 256) : am_cq sh 3 55 X [clk, am_I (nI t), am_I y] (X, Sum.inr 3) :=
  am_cq_of (Nat.le_of_ble_eq_true rfl) rfl rfl (fun d hd => sgt_55_3 (q_needBlockT2 hs hX ht hw d hd) rfl)
def drt (sh : am_Sh) (X : am_M) (t b : Nat) : Int32 := match fnd sh X t b with
  | none => -1
  | some i => X (9, t, i) 2
theorem q_dirty (hs : shk sh) (hX : cfm sh X) {t : Nat} (ht : t < sh.1) {b : Nat} (hb : b < 256) : am_cq sh 4 57 X [clk, am_I (nI t), am_I (nI b)] (X, Sum.inl (some (am_I (drt sh X t b)))) := by
  refine am_cq_of (Nat.le_of_ble_eq_true rfl) rfl rfl (fun d hd => ?_)
  have hf := q_fnd hs hX ht hb d hd
  unfold drt
  cases hq : fnd sh X t b with
  | none =>
    rw [hq] at hf
    exact sg_57_0 (q_needBlock hs hX ht hb d (by omega)) rfl ht hs.1 hf (fun q h => by cases h) (fun _ => sg_57_21 (sg_57_29 rfl))
  | some i =>
    rw [hq] at hf
    exact sg_57_0 (q_needBlock hs hX ht hb d (by omega)) rfl ht hs.1 hf (fun q h => sg_57_25 ht (fnd_lt hs ht hq) (sg_57_29 rfl)) (fun h => by cases h)
theorem q_dirtyT1 (hX : cfm sh X) {x y : Int32} (hw : bad x sh.1) : am_cq sh 3 57 X [clk, am_I x, am_I y] (X, Sum.inr 3) :=
  am_cq_of (Nat.le_of_ble_eq_true rfl) rfl rfl (fun d hd => sgt_57_3 (q_needBlockT1 hX hw d hd) rfl)
theorem q_dirtyT2 (hs : shk sh) (hX : cfm sh X) {t : Nat} (ht : t < sh.1) {y : Int32} (hw : bad y 256) : am_cq sh 3 57 X [clk, am_I (nI t), am_I y] (X, Sum.inr 3) :=
  am_cq_of (Nat.le_of_ble_eq_true rfl) rfl rfl (fun d hd => sgt_57_3 (q_needBlockT2 hs hX ht hw d hd) rfl)
def nxt (sh : am_Sh) (X : am_M) (t s : Nat) : Int32 := match ff (freeB sh X t s) 0 (wy sh t) with
  | some _ => -1
  | none => X (9, t, s * wy sh t + fsee sh X t s (hdN X t s)) 1
theorem fsee_lt (hs : shk sh) {t s a : Nat} (ht : t < sh.1) (ha : a < wy sh t) : fsee sh X t s a < wy sh t := by
  have hw := (hs.2.2 t ht).2.1
  unfold fsee
  split
  · exact ahd_lt (by omega) s _ _ ha
  · exact fgo_lt s _ _ _ (by omega) (by omega)
theorem q_next (hs : shk sh) (hX : cI sh X) {t : Nat} (ht : t < sh.1) {s : Nat} (h1 : s < zs sh t) : am_cq sh 4 58 X [clk, am_I (nI t), am_I (nI s)] (X, Sum.inl (some (am_I (nxt sh X t s)))) := by
  refine am_cq_of (Nat.le_of_ble_eq_true rfl) rfl rfl (fun d hd => ?_)
  have hf := q_freeIn hs hX.1 ht h1 d (by omega)
  obtain ⟨ha, hh⟩ := hd_of hs hX ht h1
  unfold nxt
  cases hq : ff (freeB sh X t s) 0 (wy sh t) with
  | none =>
    rw [hq] at hf
    exact sg_58_0 (q_needSet hs hX.1 ht h1 d (by omega)) rfl ht hs.1 hf (fun _ => sg_58_21 rfl ht hs.1 (q_foresee hs hX.1 ht h1 ha hh d hd) ht (lx_lt hs ht h1 (fsee_lt hs ht ha)) rfl) (fun q h => by cases h)
  | some i =>
    rw [hq] at hf
    exact sg_58_0 (q_needSet hs hX.1 ht h1 d (by omega)) rfl ht hs.1 hf (fun h => by cases h) (fun q h => sg_58_19 rfl)
theorem q_nextT1 (hX : cfm sh X) {x y : Int32} (hw : bad x sh.1) : am_cq sh 3 58 X [clk, am_I x, am_I y] (X, Sum.inr 3) :=
  am_cq_of (Nat.le_of_ble_eq_true rfl) rfl rfl (fun d hd => sgt_58_3 (q_needSetT1 hX hw d hd) rfl)
theorem q_nextT2 (hs : shk sh) (hX : cfm sh X) {t : Nat} (ht : t < sh.1) {y : Int32} (hw : bad y (zs sh t)) : am_cq sh 3 58 X [clk, am_I (nI t), am_I y] (X, Sum.inr 3) :=
  am_cq_of (Nat.le_of_ble_eq_true rfl) rfl rfl (fun d hd => sgt_58_3 (q_needSetT2 hs hX ht hw d hd) rfl)
end QP
