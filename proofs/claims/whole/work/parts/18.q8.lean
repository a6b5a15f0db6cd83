-- fill, run, what tier refuses
section QR
variable {sh : am_Sh} {X : am_M}
def fl4 (w e : Nat) (v st : Int32) (b : Nat) : Nat → Nat → Int32 → am_M → Int32 × am_M
  | _, 0, bits, X => (bits, X)
  | i, k + 1, bits, X => if w ≤ b * 4 + i ∧ b * 4 + i ≤ e then fl4 w e v st b (i + 1) k (bits ||| ((1 : Int32) <<< (nI i &&& 31))) (am_up X (4, 0, 0) i (v + (nI (b * 4 + i) - nI w) * st)) else fl4 w e v st b (i + 1) k bits X
def filB (sh : am_Sh) (w e : Nat) (v st : Int32) (b : Nat) (X : am_M) : am_M := (lv sh sh.1).2 b (fl4 w e v st b 0 4 0 X).1 (4, 0, 0) (fl4 w e v st b 0 4 0 X).2
def filL (sh : am_Sh) (w e : Nat) (v st : Int32) : Nat → Nat → am_M → am_M
  | _, 0, X => X
  | b, k + 1, X => filL sh w e v st (b + 1) k (filB sh w e v st b X)
theorem cI_fl4 {w e : Nat} {v st : Int32} {b : Nat} : ∀ (k i : Nat) (bits : Int32) (X : am_M), cI sh X → cI sh (fl4 w e v st b i k bits X).2 := by
  intro k
  induction k with
  | zero => exact fun _ _ _ h => h
  | succ k ih =>
    intro i bits X h
    unfold fl4
    split
    · exact ih _ _ _ (cI_up h (by simp))
    · exact ih _ _ _ h
theorem fl4_loop {w e : Nat} {v st : Int32} {b : Nat} (he : e < 1024) (hwe : w ≤ e) (hb : b < 256) {x2 : Int32} {d : Nat} {P : am_S ⊕ am_O → Prop} : ∀ (k i : Nat) (bits : Int32) (X : am_M) (u9 : Option am_V), i + k = 4 → (∀ u9, am_ev sh (am_cr sh d) 45 (131, [some clk, some (am_I (nI w)), some (am_I x2), some (am_I v), some (am_I st), some (am_I (nI e)), some (am_I (nI b)), some (am_I (fl4 w e v st b i k bits X).1), some (am_I (nI 4)), u9], [], (fl4 w e v st b i k bits X).2, 1) P) → am_ev sh (am_cr sh d) 45 (72, [some clk, some (am_I (nI w)), some (am_I x2), some (am_I v), some (am_I st), some (am_I (nI e)), some (am_I (nI b)), some (am_I bits), some (am_I (nI i)), u9], [], X, 1) P := by
  intro k
  induction k with
  | zero =>
    intro i bits X u9 hi hP
    have : i = 4 := by omega
    subst this
    exact sg_45_72 (fun _ => hP u9) (fun h => absurd (nI_le (a := 4) (by omega) (by omega)) h)
  | succ k ih =>
    intro i bits X u9 hi hP
    have hat : nI b * 4 + nI i = nI (b * 4 + i) := by rw [show nI b * 4 = nI (b * 4) from pk_mul b 4, nI_add]
    refine sg_45_72 (fun h => absurd h (nI_ge (b := 4) (by omega) (by omega))) (fun _ => sg_45_78 (fun h => ?_) (fun h => ?_))
    · rw [hat] at h ⊢
      have h' : b * 4 + i < w := (nI_ltI (by omega) (by omega)).mp h
      unfold fl4 at hP
      rw [if_neg (by omega)] at hP
      refine sg_45_125 ?_
      rw [nI_1]
      exact ih _ _ _ _ (by omega) hP
    · rw [hat] at h ⊢
      have h' : ¬ b * 4 + i < w := fun q => h ((nI_ltI (by omega) (by omega)).mpr q)
      refine sg_45_93 (fun h2 => ?_) (fun h2 => ?_)
      · have h2' : e < b * 4 + i := (nI_ltI (by omega) (by omega)).mp h2
        unfold fl4 at hP
        rw [if_neg (by omega)] at hP
        refine sg_45_125 ?_
        rw [nI_1]
        exact ih _ _ _ _ (by omega) hP
      · have h2' : ¬ e < b * 4 + i := fun q => h2 ((nI_ltI (by omega) (by omega)).mpr q)
        unfold fl4 at hP
        rw [if_pos (by omega)] at hP
        refine sg_45_100 rfl (show i < 4 by omega) (sg_45_125 ?_)
        rw [nI_1]
        exact ih _ _ _ _ (by omega) hP
theorem filL_loop (hs : shk sh) {w e : Nat} {v st : Int32} (he : e < 1024) (hwe : w ≤ e) {x2 : Int32} {d : Nat} (hd : 32 ≤ d) {P : am_S ⊕ am_O → Prop} : ∀ (k b : Nat) (X : am_M) (u7 u8 u9 : Option am_V), cI sh X → b + k = e / 4 + 1 → P (Sum.inr (filL sh w e v st b k X, Sum.inl none)) → am_ev sh (am_cr sh d) 45 (56, [some clk, some (am_I (nI w)), some (am_I x2), some (am_I v), some (am_I st), some (am_I (nI e)), some (am_I (nI b)), u7, u8, u9], [], X, 1) P := by
  intro k
  induction k with
  | zero =>
    intro b X u7 u8 u9 hX hb hP
    exact sg_45_56 (q_blockOf he d (by omega)) (fun _ => sg_45_150 hP) (fun h => absurd (nI_lt (by omega) (by omega)) h)
  | succ k ih =>
    intro b X u7 u8 u9 hX hb hP
    have hb' : b < 256 := by omega
    have hw := (q_lvh hs).2 (fl4 w e v st b 0 4 0 X).2 b (fl4 w e v st b 0 4 0 X).1 (4, 0, 0) (cI_fl4 _ _ _ _ hX) hb' (Or.inr (Or.inl rfl))
    refine sg_45_56 (q_blockOf he d (by omega)) (fun h => absurd h (nI_nlt (by omega) (by omega))) (fun _ => sg_45_66 (fl4_loop he hwe hb' 4 0 0 X u9 rfl (fun u9 => sg_45_131 (hw.1 d hd) ?_)))
    rw [nI_1]
    exact ih _ _ _ _ _ hw.2 (by omega) hP
theorem cI_filL (hs : shk sh) {w e : Nat} {v st : Int32} : ∀ (k b : Nat) (X : am_M), cI sh X → b + k ≤ 256 → cI sh (filL sh w e v st b k X) := by
  intro k
  induction k with
  | zero => exact fun _ _ h _ => h
  | succ k ih =>
    intro b X hX hb
    exact ih _ _ ((q_lvh hs).2 (fl4 w e v st b 0 4 0 X).2 b (fl4 w e v st b 0 4 0 X).1 (4, 0, 0) (cI_fl4 _ _ _ _ hX) (by omega) (Or.inr (Or.inl rfl))).2 (by omega)
def filA (sh : am_Sh) (w n : Nat) (v st : Int32) (X : am_M) : am_M := filL sh w (w + n - 1) v st (w / 4) ((w + n - 1) / 4 + 1 - w / 4) (am_up X (0, 0, 0) 7 1)
theorem q_fill (hs : shk sh) (hX : cI sh X) {w n : Nat} (hw : w < 1024) (hn : 1 ≤ n) (hwn : w + n ≤ 1024) {v st : Int32} : am_cq sh 33 45 X [clk, am_I (nI w), am_I (nI n), am_I v, am_I st] (filA sh w n v st X, Sum.inl none) := by
  refine am_cq_of (Nat.le_of_ble_eq_true rfl) rfl rfl (fun d hd => sg_45_0 (fun _ => sg_45_15 (q_needWord hw d (by omega)) (fun _ => sg_45_38 (q_blockOf hw d (by omega)) ?_) (fun h => absurd ?_ h)) (fun h => absurd (nI_le (a := 1) hn (by omega)) h))
  · rw [nI_add, show nI (w + n) - 1 = nI (w + n - 1) from pk_sub (b := 1) (by omega)]
    exact filL_loop hs (by omega) (by omega) hd _ _ _ _ _ _ (cI_up hX (by simp)) (by omega) rfl
  · rw [show (1024 : Int32) - nI w = nI (1024 - w) from pk_sub (a := 1024) (by omega)]
    exact nI_le (by omega) (by omega)
theorem q_fillT1 {x y v st : Int32} (hy : y < 1) : am_cq sh 1 45 X [clk, am_I x, am_I y, am_I v, am_I st] (X, Sum.inr 0) :=
  am_cq_of (Nat.le_of_ble_eq_true rfl) rfl rfl (fun d hd => sg_45_0 (fun h => absurd hy (i_nlt h)) (fun _ => sg_45_5 rfl))
theorem q_fillT2 {x y v st : Int32} (hy : ¬ y < 1) (hx : bad x 1024) : am_cq sh 2 45 X [clk, am_I x, am_I y, am_I v, am_I st] (X, Sum.inr 3) :=
  am_cq_of (Nat.le_of_ble_eq_true rfl) rfl rfl (fun d hd => sg_45_0 (fun h => sgt_45_16 (q_needWordT hx d hd) rfl) (fun h => absurd (i_nle h) hy))
theorem q_fillT3 {w : Nat} (hw : w < 1024) {y v st : Int32} (hy : ¬ y < 1) (hy2 : nI (1024 - w) < y) : am_cq sh 2 45 X [clk, am_I (nI w), am_I y, am_I v, am_I st] (X, Sum.inr 3) := by
  refine am_cq_of (Nat.le_of_ble_eq_true rfl) rfl rfl (fun d hd => sg_45_0 (fun h => sg_45_15 (q_needWord hw d hd) (fun h2 => ?_) (fun _ => sg_45_28 rfl)) (fun h => absurd (i_nle h) hy))
  rw [show (1024 : Int32) - nI w = nI (1024 - w) from pk_sub (a := 1024) (by omega)] at h2
  exact absurd hy2 (i_nlt h2)
-- run
def nxtx (x : Int32) : Int32 := x * 1103515245 + 12345
def shr8 (x : Int32) : Int32 := (x.toUInt32 >>> ((8 : Int32).toUInt32 &&& Int32.toUInt32 31)).toInt32
def shr20 (x : Int32) : Int32 := (x.toUInt32 >>> ((20 : Int32).toUInt32 &&& Int32.toUInt32 31)).toInt32
theorem u32_nI (y : UInt32) : y.toInt32 = nI y.toNat := by
  apply Int32.toBitVec_inj.mp
  show y.toBitVec = (BitVec.ofNat 32 y.toNat)
  simp
theorem shr8_nI (x : Int32) : ∃ j, j < 16777216 ∧ shr8 x = nI j := by
  refine ⟨(x.toUInt32 >>> ((8 : Int32).toUInt32 &&& Int32.toUInt32 31)).toNat, ?_, u32_nI _⟩
  have e : ((8 : Int32).toUInt32 &&& Int32.toUInt32 31) = 8 := by decide
  rw [e, UInt32.toNat_shiftRight]
  have := x.toUInt32.toNat_lt
  rw [show (8 : UInt32).toNat % 32 = 8 from rfl, Nat.shiftRight_eq_div_pow]
  omega
def rword (span : Nat) (x : Int32) : Nat := (shr8 x).toNatClampNeg % span
def runL (sh : am_Sh) (span : Nat) : Nat → Int32 → Int32 → am_M → am_M × Int32
  | 0, _, sum, X => (X, sum)
  | k + 1, x, sum, X => if shr20 (nxtx x) - shr20 (nxtx x) / 4 * 4 = 0 then runL sh span k (nxtx x) sum (wrw sh (rword span (nxtx x)) (nxtx x) X) else runL sh span k (nxtx x) (sum + rdw sh (rword span (nxtx x)) X (3, 0, 0) (rword span (nxtx x) % 4)) (rdw sh (rword span (nxtx x)) X)
theorem rword_eq {span : Nat} (h1 : 1 ≤ span) (h2 : span ≤ 1024) (x : Int32) : shr8 x - shr8 x / nI span * nI span = nI (rword span x) ∧ rword span x < 1024 := by
  obtain ⟨j, hj, e⟩ := shr8_nI x
  unfold rword
  rw [e, nI_clamp (by omega)]
  refine ⟨pk_rem (by omega) (by omega) (by omega), ?_⟩
  have := Nat.mod_lt j (show span > 0 by omega)
  omega
theorem run_loop (hs : shk sh) {span n : Nat} (h1 : 1 ≤ span) (h2 : span ≤ 1024) (hn : n ≤ 200) {x1 : Int32} {d : Nat} (hd : 33 ≤ d) {P : am_S ⊕ am_O → Prop} : ∀ (k i : Nat) (x sum : Int32) (X : am_M) (u7 : Option am_V), cI sh X → i + k = n → P (Sum.inr ((runL sh span k x sum X).1, Sum.inl (some (am_I (runL sh span k x sum X).2)))) → am_ev sh (am_cr sh d) 46 (52, [some clk, some (am_I x1), some (am_I (nI n)), some (am_I (nI span)), some (am_I x), some (am_I sum), some (am_I (nI i)), u7], [], X, 0) P := by
  intro k
  induction k with
  | zero =>
    intro i x sum X u7 hX hi hP
    exact sg_46_52 (fun _ => sg_46_116 hP) (fun h => absurd (nI_le (by omega) (by omega)) h)
  | succ k ih =>
    intro i x sum X u7 hX hi hP
    obtain ⟨e, hlt⟩ := rword_eq h1 h2 (nxtx x)
    refine sg_46_52 (fun h => absurd h (nI_ge (by omega) (by omega))) (fun _ => sg_46_58 (nI_ne0 (by omega) (by omega)) (fun h => ?_) (fun h => ?_))
    · have h' : ¬ shr20 (nxtx x) - shr20 (nxtx x) / 4 * 4 = 0 := h
      show am_ev sh (am_cr sh d) 46 (99, [some clk, some (am_I x1), some (am_I (nI n)), some (am_I (nI span)), some (am_I (nxtx x)), some (am_I sum), some (am_I (nI i)), some (am_I (shr8 (nxtx x) - shr8 (nxtx x) / nI span * nI span))], [], X, 0) P
      rw [e]
      have hr := q_readWord hs hX hlt
      unfold runL at hP
      rw [if_neg h'] at hP
      refine sg_46_99 (hr.1 d hd) (sg_46_110 ?_)
      rw [nI_1]
      exact ih _ _ _ _ _ hr.2 (by omega) hP
    · have h' : shr20 (nxtx x) - shr20 (nxtx x) / 4 * 4 = 0 := h
      show am_ev sh (am_cr sh d) 46 (88, [some clk, some (am_I x1), some (am_I (nI n)), some (am_I (nI span)), some (am_I (nxtx x)), some (am_I sum), some (am_I (nI i)), some (am_I (shr8 (nxtx x) - shr8 (nxtx x) / nI span * nI span))], [], X, 0) P
      rw [e]
      have hr := q_writeWord hs hX hlt (v := nxtx x)
      unfold runL at hP
      rw [if_pos h'] at hP
      refine sg_46_88 (hr.1 d hd) (sg_46_110 ?_)
      rw [nI_1]
      exact ih _ _ _ _ _ hr.2 (by omega) hP
theorem q_run (hs : shk sh) (hX : cI sh X) {span n : Nat} (h1 : 1 ≤ span) (h2 : span ≤ 1024) (hn : n ≤ 200) {x : Int32} : am_cq sh 34 46 X [clk, am_I x, am_I (nI n), am_I (nI span)] ((runL sh span n x 0 X).1, Sum.inl (some (am_I (runL sh span n x 0 X).2))) :=
  am_cq_of (Nat.le_of_ble_eq_true rfl) rfl rfl (fun d hd => sg_46_0 (fun h => absurd h (nI_pos (by omega))) (fun _ => sg_46_4 (fun _ => sg_46_21 (fun h => absurd h (nI_nlt (b := 1) h1 (by omega))) (fun _ => sg_46_26 (fun _ => sg_46_43 (run_loop hs h1 h2 hn hd n 0 x 0 X none hX (Nat.zero_add _) rfl)) (fun h => absurd (nI_le (b := 1024) h2 (by omega)) h))) (fun h => absurd (nI_le (b := 200) hn (by omega)) h)))
theorem cI_runL (hs : shk sh) {span : Nat} (h1 : 1 ≤ span) (h2 : span ≤ 1024) : ∀ (k : Nat) (x sum : Int32) (X : am_M), cI sh X → cI sh (runL sh span k x sum X).1 := by
  intro k
  induction k with
  | zero => exact fun _ _ _ h => h
  | succ k ih =>
    intro x sum X hX
    obtain ⟨e, hlt⟩ := rword_eq h1 h2 (nxtx x)
    unfold runL
    split
    · exact ih _ _ _ (q_writeWord hs hX hlt).2
    · exact ih _ _ _ (q_readWord hs hX hlt).2
theorem q_runT {x y z : Int32} (h : (y < 0 ∨ 200 < y) ∨ z < 1 ∨ 1024 < z) : am_cq sh 1 46 X [clk, am_I x, am_I y, am_I z] (X, Sum.inr 0) := by
  refine am_cq_of (Nat.le_of_ble_eq_true rfl) rfl rfl (fun d hd => sg_46_0 (fun _ => sg_46_11 rfl) (fun hy => sg_46_4 (fun hy2 => sg_46_21 (fun _ => sg_46_33 rfl) (fun hz => sg_46_26 (fun hz2 => ?_) (fun _ => sg_46_33 rfl))) (fun _ => sg_46_11 rfl)))
  exfalso
  rcases h with (h | h) | h | h
  · exact hy h
  · exact i_nlt hy2 h
  · exact hz h
  · exact i_nlt hz2 h
-- tier, where it throws
def isz (x : Int32) : Bool := decide (x = 1 ∨ x = 2 ∨ x = 4 ∨ x = 8 ∨ x = 16)
theorem bcf_sets : ∀ m : Fin 17, (bcf (nI m.val) = 1) ↔ (m.val = 1 ∨ m.val = 2 ∨ m.val = 4 ∨ m.val = 8 ∨ m.val = 16) := by decide +kernel
theorem q_isSets {x : Int32} : am_cq sh 2 26 X [am_I x] (X, Sum.inl (some (am_I (b01 (isz x))))) := by
  have hF : (x < 1 ∨ 16 < x) → isz x = false := by
    intro h
    refine decide_eq_false (fun q => ?_)
    rcases q with rfl | rfl | rfl | rfl | rfl <;> revert h <;> decide
  refine am_cq_of (Nat.le_of_ble_eq_true rfl) rfl rfl (fun d hd => sg_26_0 (fun h => sg_26_23 (sg_26_24 (Or.inl rfl) ?_)) (fun h1 => sg_26_5 (fun h => sg_26_23 (sg_26_24 (Or.inl rfl) ?_)) (fun h2 => ?_)))
  · rw [hF (Or.inl h)]; rfl
  · rw [hF (Or.inr h)]; rfl
  · obtain ⟨m, hm, rfl⟩ : ∃ m : Nat, m ≤ 16 ∧ x = nI m := nI_of2 (M := 16) (n := 16) rfl (fun q => h1 (by rw [Int32.lt_iff_toInt_lt] at q ⊢; exact Int.lt_trans q (by decide))) (by rw [Int32.le_iff_toInt_le]; rw [Int32.lt_iff_toInt_lt] at h2; omega)
    have hb := bcf_sets ⟨m, by omega⟩
    refine sg_26_11 (q_bitCount d (by omega)) (fun h => sg_26_23 (sg_26_24 (Or.inl rfl) ?_)) (fun h => sg_26_19 (sg_26_24 (Or.inr rfl) ?_))
    · have : isz (nI m) = false := by
        refine decide_eq_false (fun q => h (hb.mpr ?_))
        have hh : ∀ c : Nat, c ≤ 16 → (nI m = nI c ↔ m = c) := fun c hc => nI_eq (by omega) (by omega)
        rcases q with q | q | q | q | q
        · exact Or.inl ((hh 1 (by omega)).mp q)
        · exact Or.inr (Or.inl ((hh 2 (by omega)).mp q))
        · exact Or.inr (Or.inr (Or.inl ((hh 4 (by omega)).mp q)))
        · exact Or.inr (Or.inr (Or.inr (Or.inl ((hh 8 (by omega)).mp q))))
        · exact Or.inr (Or.inr (Or.inr (Or.inr ((hh 16 (by omega)).mp q))))
      rw [this]; rfl
    · have : isz (nI m) = true := by
        refine decide_eq_true ?_
        rcases hb.mp h with q | q | q | q | q <;> dsimp only at q <;> subst q
        · exact Or.inl rfl
        · exact Or.inr (Or.inl rfl)
        · exact Or.inr (Or.inr (Or.inl rfl))
        · exact Or.inr (Or.inr (Or.inr (Or.inl rfl)))
        · exact Or.inr (Or.inr (Or.inr (Or.inr rfl)))
      rw [this]; rfl
/-- the arguments that tier takes -/
def tok (x1 x2 x3 x4 : Int32) : Prop := isz x1 = true ∧ (¬ x2 < 1 ∧ x2 ≤ 4) ∧ (¬ x3 < 0 ∧ ¬ 3 < x3) ∧ ¬ x4 < 0 ∧ x4 ≤ 2
theorem q_tierT1 {x1 x2 x3 x4 x5 : Int32} (h : ¬ tok x1 x2 x3 x4) : am_cq sh 3 25 X [clk, am_I x1, am_I x2, am_I x3, am_I x4, am_I x5] (X, Sum.inr 0) := by
  refine am_cq_of (Nat.le_of_ble_eq_true rfl) rfl rfl (fun d hd => sg_25_0 (q_isSets d hd) (fun _ => sg_25_17 rfl) (fun h1 => sg_25_7 (fun _ => sg_25_17 rfl) (fun h2 => sg_25_12 (fun h3 => sg_25_27 (fun _ => sg_25_47 rfl) (fun h4 => sg_25_31 (fun _ => sg_25_47 rfl) (fun h5 => sg_25_36 (fun _ => sg_25_47 rfl) (fun h6 => sg_25_41 (fun h7 => ?_) (fun _ => sg_25_47 rfl))))) (fun _ => sg_25_17 rfl))))
  refine absurd ⟨?_, ⟨h2, h3⟩, ⟨h4, h5⟩, h6, h7⟩ h
  cases hq : isz x1 with
  | true => rfl
  | false => rw [hq] at h1; exact absurd rfl h1
theorem tier_pre {x1 x2 x3 x4 x5 : Int32} (h : tok x1 x2 x3 x4) {d : Nat} (hd : 2 ≤ d) {P : am_S ⊕ am_O → Prop} (hP : am_ev sh (am_cr sh d) 25 (57, [some clk, some (am_I x1), some (am_I x2), some (am_I x3), some (am_I x4), some (am_I x5)], [], X, 0) P) : am_ev sh (am_cr sh d) 25 (0, [some clk, some (am_I x1), some (am_I x2), some (am_I x3), some (am_I x4), some (am_I x5)], [], X, 0) P := by
  obtain ⟨h1, ⟨h2, h3⟩, ⟨h4, h5⟩, h6, h7⟩ := h
  refine sg_25_0 (q_isSets d hd) (fun q => ?_) (fun _ => sg_25_7 (fun q => absurd q h2) (fun _ => sg_25_12 (fun _ => sg_25_27 (fun q => absurd q h4) (fun _ => sg_25_31 (fun q => absurd q h5) (fun _ => sg_25_36 (fun q => absurd q h6) (fun _ => sg_25_41 (fun _ => hP) (fun q => absurd h7 q))))) (fun q => absurd h3 q)))
  rw [h1] at q
  exact absurd q (by decide)
theorem q_tierT2 {x1 x2 x3 x4 x5 : Int32} (h : tok x1 x2 x3 x4) (h4 : ¬ X (0, 0, 0) 4 < 4) : am_cq sh 3 25 X [clk, am_I x1, am_I x2, am_I x3, am_I x4, am_I x5] (X, Sum.inr 1) :=
  am_cq_of (Nat.le_of_ble_eq_true rfl) rfl rfl (fun d hd => tier_pre h hd (sg_25_57 (fun q => absurd q h4) (fun _ => sg_25_65 rfl)))
theorem q_tierT3 {x1 x2 x3 x4 x5 : Int32} (h : tok x1 x2 x3 x4) (h4 : X (0, 0, 0) 4 < 4) (h7 : ¬ X (0, 0, 0) 7 = 0) : am_cq sh 3 25 X [clk, am_I x1, am_I x2, am_I x3, am_I x4, am_I x5] (X, Sum.inr 2) :=
  am_cq_of (Nat.le_of_ble_eq_true rfl) rfl rfl (fun d hd => tier_pre h hd (sg_25_57 (fun _ => sg_25_75 (fun q => absurd q h7) (fun _ => sg_25_82 rfl)) (fun q => absurd h4 q)))
end QR
