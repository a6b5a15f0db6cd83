-- one level over the next
abbrev Rd : Type := Nat → am_K → am_M → am_M
abbrev Wr : Type := Nat → Int32 → am_K → am_M → am_M
def okW (sh : am_Sh) (t k : Nat) (wr : Wr) : Prop := ∀ (X : am_M) (b : Nat) (bits : Int32) (key : am_K), cI sh X → b < 256 → okk sh key → am_cq sh k 39 X [clk, am_I (nI t), am_I (nI b), am_I bits, am_R (some key)] (wr b bits key X, Sum.inl none) ∧ cI sh (wr b bits key X)
def okR (sh : am_Sh) (t k : Nat) (rd : Rd) : Prop := ∀ (X : am_M) (b : Nat) (key : am_K), cI sh X → b < 256 → okk sh key → am_cq sh k 31 X [clk, am_I (nI t), am_I (nI b), am_R (some key)] (rd b key X, Sum.inl none) ∧ cI sh (rd b key X)
def wbel (wr : Wr) (t b : Nat) (bits : Int32) (key : am_K) (X : am_M) : am_M := wr b bits key (am_up X (8, t, 0) 5 (X (8, t, 0) 5 + bcf bits))
def wdir (wr : Wr) (t i : Nat) (X : am_M) : am_M := if X (9, t, i) 2 = 0 then X else wbel wr t (bkN X t i) (X (9, t, i) 2) (10, t, i) (am_up X (9, t, i) 2 0)
def lev (sh : am_Sh) (wr : Wr) (t i : Nat) (X : am_M) : am_M := go1 (wdir wr t i (if X (5, t, 0) 4 = 0 then X else gth sh t i t X)) t i
abbrev hdN (X : am_M) (t s : Nat) : Nat := (X (7, t, 0) s).toNatClampNeg
def mkr (sh : am_Sh) (wr : Wr) (t b : Nat) (X : am_M) : am_M × Nat := match ff (freeB sh X t (b % zs sh t)) 0 (wy sh t) with
  | some w => (X, b % zs sh t * wy sh t + w)
  | none => (lev sh wr t (b % zs sh t * wy sh t + (chs sh X t (b % zs sh t) (hdN X t (b % zs sh t))).2) (am_up (chs sh X t (b % zs sh t) (hdN X t (b % zs sh t))).1 (8, t, 0) 4 ((chs sh X t (b % zs sh t) (hdN X t (b % zs sh t))).1 (8, t, 0) 4 + 1)), b % zs sh t * wy sh t + (chs sh X t (b % zs sh t) (hdN X t (b % zs sh t))).2)
def fet (sh : am_Sh) (rd : Rd) (wr : Wr) (t b : Nat) (rb : Bool) (X : am_M) : am_M × Nat :=
  (plac (if rb = true then rd b (10, t, (mkr sh wr t b X).2) (mkr sh wr t b X).1 else (mkr sh wr t b X).1) t (mkr sh wr t b X).2 (nI b), (mkr sh wr t b X).2)
def inc8 (X : am_M) (t j : Nat) : am_M := am_up X (8, t, 0) j (X (8, t, 0) j + 1)
def rda (sh : am_Sh) (rd : Rd) (wr : Wr) (t : Nat) : Rd := fun b key X => match fnd sh X t b with
  | some i => am_cp (nuse (inc8 X t 0) t i) (10, t, i) key 0 0 4
  | none => am_cp (fet sh rd wr t b true (inc8 X t 1)).1 (10, t, (fet sh rd wr t b true (inc8 X t 1)).2) key 0 0 4
def clb (sh : am_Sh) (X : am_M) (t : Nat) : Bool := (ff (fun u => decide (¬ X (5, u, 0) 4 = 0)) (t + 1) (sh.1 - (t + 1))).isSome
def wrl (wr : Wr) (t i b : Nat) (bits : Int32) (key : am_K) (Y : am_M) : am_M :=
  if Y (5, t, 0) 3 = 1 then am_up (cpw bits key (10, t, i) 0 0 4 Y) (9, t, i) 2 (Y (9, t, i) 2 ||| bits)
  else wbel wr t b bits key (am_up (cpw bits key (10, t, i) 0 0 4 Y) (9, t, i) 2 (Y (9, t, i) 2 &&& (bits ^^^ (-1))))
def wrn (sh : am_Sh) (rd : Rd) (wr : Wr) (t : Nat) : Wr := fun b bits key X => match fnd sh X t b with
  | some i => wrl wr t i b bits key (nuse (inc8 X t 2) t i)
  | none => wrl wr t (fet sh rd wr t b (decide (¬ bits = 15) || clb sh (inc8 X t 3) t) (inc8 X t 3)).2 b bits key (fet sh rd wr t b (decide (¬ bits = 15) || clb sh (inc8 X t 3) t) (inc8 X t 3)).1
def war (sh : am_Sh) (wr : Wr) (t : Nat) : Wr := fun b bits key X => match fnd sh (inc8 X t 3) t b with
  | some i => wbel wr t b bits key (lev sh wr t i (inc8 X t 3))
  | none => wbel wr t b bits key (inc8 X t 3)
def wra (sh : am_Sh) (rd : Rd) (wr : Wr) (t : Nat) : Wr := fun b bits key X => if X (5, t, 0) 3 = 2 then war sh wr t b bits key X else wrn sh rd wr t b bits key X
def lv (sh : am_Sh) : Nat → Rd × Wr
  | 0 => (fun b key X => am_cp (am_up X (0, 0, 0) 5 (X (0, 0, 0) 5 + 1)) (1, 0, 0) key (b * 4) 0 4, fun b bits key X => cpw bits key (1, 0, 0) (b * 4) 0 4 (am_up X (0, 0, 0) 6 (X (0, 0, 0) 6 + 1)))
  | n + 1 => (rda sh (lv sh n).1 (lv sh n).2 (sh.1 - (n + 1)), wra sh (lv sh n).1 (lv sh n).2 (sh.1 - (n + 1)))
section QM
variable {sh : am_Sh} {t k : Nat} {rd : Rd} {wr : Wr}
theorem cI_inc8 {X : am_M} (h : cI sh X) (t j : Nat) : cI sh (inc8 X t j) := cI_up h (by simp)
theorem q_writeBelow (hs : shk sh) (ht : t < sh.1) (hk : 4 ≤ k) (hw : okW sh (t + 1) k wr) {X : am_M} (hX : cI sh X) {b : Nat} (hb : b < 256) {bits : Int32} {key : am_K} (hkk : okk sh key) : am_cq sh (k + 1) 38 X [clk, am_I (nI t), am_I (nI b), am_I bits, am_R (some key)] (wbel wr t b bits key X, Sum.inl none) ∧ cI sh (wbel wr t b bits key X) := by
  have h := hw (am_up X (8, t, 0) 5 (X (8, t, 0) 5 + bcf bits)) b bits key (cI_up hX (by simp)) hb hkk
  refine ⟨am_cq_of (Nat.le_of_ble_eq_true rfl) rfl rfl (fun d hd => sg_38_0 rfl ht hs.1 (q_bitCount d (by omega)) ?_ rfl), h.2⟩
  rw [nI_1]
  exact h.1 d hd
theorem q_writeDirty (hs : shk sh) (ht : t < sh.1) (hk : 4 ≤ k) (hw : okW sh (t + 1) k wr) {X : am_M} (hX : cI sh X) {i : Nat} (hi : i < sh.2.1 t) {b : Nat} (hb : b < 256) (hkb : X (9, t, i) 1 = nI b) : am_cq sh (k + 2) 37 X [clk, am_I (nI t), am_R (some (9, t, i))] (wdir wr t i X, Sum.inl (some (am_I (bcf (X (9, t, i) 2))))) ∧ cI sh (wdir wr t i X) := by
  have hbn : bkN X t i = b := by unfold bkN; rw [hkb]; exact nI_clamp (by omega)
  unfold wdir
  rw [hbn]
  have h := q_writeBelow hs ht hk hw (X := am_up X (9, t, i) 2 0) (cI_up hX (by simp)) hb (bits := X (9, t, i) 2) (key := (10, t, i)) (Or.inr (Or.inr ⟨t, i, ht, hi, rfl⟩))
  refine ⟨am_cq_of (Nat.le_of_ble_eq_true rfl) rfl rfl (fun d hd => sg_37_0 ht hi (fun h0 => ?_) (fun h0 => ?_)), ?_⟩
  · rw [if_pos h0]
    exact sg_37_28 (q_bitCount d (by omega)) rfl
  · rw [if_neg h0]
    refine sg_37_9 ht hi (M1 := wbel wr t b (X (9, t, i) 2) (10, t, i) (am_up X (9, t, i) 2 0)) ?_ (sg_37_28 (q_bitCount d (by omega)) rfl)
    rw [am_up_j (by decide), hkb]
    exact h.1 d hd
  · split
    · exact hX
    · exact h.2
theorem q_leave (hs : shk sh) (ht : t < sh.1) (hk : 4 ≤ k) (hw : okW sh (t + 1) k wr) {X : am_M} (hX : cI sh X) {i : Nat} (hi : i < sh.2.1 t) {b : Nat} (hb : b < 256) (hkb : X (9, t, i) 1 = nI b) : am_cq sh (k + 3) 34 X [clk, am_I (nI t), am_R (some (9, t, i))] (lev sh wr t i X, Sum.inl none) ∧ cI sh (lev sh wr t i X) := by
  unfold lev
  have e : (if X (5, t, 0) 4 = 0 then X else gth sh t i t X) (9, t, i) 1 = nI b := by
    split
    · exact hkb
    · rw [bk_gth t X (Nat.le_refl _)]; exact hkb
  have c : cI sh (if X (5, t, 0) 4 = 0 then X else gth sh t i t X) := by
    split
    · exact hX
    · exact cI_gth _ _ _ _ hX
  have h := q_writeDirty hs ht hk hw c hi hb e
  refine ⟨am_cq_of (Nat.le_of_ble_eq_true rfl) rfl rfl (fun d hd => ?_), cI_go1 h.2 _ _⟩
  have h1 := h.1 d hd
  refine sg_34_0 rfl ht hs.1 (fun h0 => ?_) (fun h0 => ?_)
  · rw [if_pos h0] at h1 ⊢
    exact sg_34_18 h1 ht hi (q_go ht hi d (by omega)) rfl
  · rw [if_neg h0] at h1 ⊢
    exact sg_34_12 (q_gather hs hX ht hi hb hkb d (by omega)) (sg_34_18 h1 ht hi (q_go ht hi d (by omega)) rfl)
theorem blk_thd {s t' i' : Nat} : ∀ (k : Nat) (X : am_M) (a c : Nat), (thd sh t s k X a c).1 (9, t', i') 1 = X (9, t', i') 1 := by
  intro k
  induction k with
  | zero => exact fun X a c => rfl
  | succ k ih =>
    intro X a c
    unfold thd
    split
    · dsimp only
      rw [am_up_k (by simp)]
    · rw [ih, am_up_j (by decide), am_up_k (by simp)]
theorem blk_chs {X : am_M} {s a t' i' : Nat} : (chs sh X t s a).1 (9, t', i') 1 = X (9, t', i') 1 := by
  unfold chs
  split
  · exact blk_thd _ _ _ _
  · rfl
theorem hd_of (hs : shk sh) {X : am_M} (hX : cI sh X) (ht : t < sh.1) {s : Nat} (h1 : s < zs sh t) : hdN X t s < wy sh t ∧ X (7, t, 0) s = nI (hdN X t s) := by
  obtain ⟨a, ha, hh⟩ := (hX.2 t ht).1 s h1
  have := wy_lt hs ht
  unfold hdN
  rw [hh, nI_clamp (by omega)]
  exact ⟨ha, rfl⟩
theorem q_makeRoom (hs : shk sh) (ht : t < sh.1) (hk : 4 ≤ k) (hw : okW sh (t + 1) k wr) {X : am_M} (hX : cI sh X) {b : Nat} (hb : b < 256) : am_cq sh (k + 4) 33 X [clk, am_I (nI t), am_I (nI b)] ((mkr sh wr t b X).1, Sum.inl (some (am_R (some (9, t, (mkr sh wr t b X).2))))) ∧ cI sh (mkr sh wr t b X).1 ∧ (mkr sh wr t b X).2 < sh.2.1 t := by
  have hset := b_set hs ht b
  unfold mkr
  cases hf : ff (freeB sh X t (b % zs sh t)) 0 (wy sh t) with
  | some w =>
    dsimp only
    have hw2 := (ff_some hf).2.1
    refine ⟨am_cq_of (Nat.le_of_ble_eq_true rfl) rfl rfl (fun d hd => ?_), hX, lx_lt hs ht hset (by omega)⟩
    have h2 := q_freeIn hs hX.1 ht hset d (by omega)
    rw [hf] at h2
    exact sg_33_0 rfl ht hs.1 (q_setOf hs hX.1 ht hb d (by omega)) h2 (fun h => by cases h) (fun q h => sg_33_27 rfl)
  | none =>
    dsimp only
    obtain ⟨ha, hh⟩ := hd_of hs hX ht hset
    have hl := lx_lt hs ht hset (chs_lt hs (X := X) (s := b % zs sh t) ht ha)
    have hc := cI_chs hs hX (s := b % zs sh t) (a := hdN X t (b % zs sh t)) ht
    have hwl := chs_lt hs (X := X) (s := b % zs sh t) ht ha
    have hne : ¬ X (9, t, b % zs sh t * wy sh t + (chs sh X t (b % zs sh t) (hdN X t (b % zs sh t))).2) 1 = -1 := by
      have := ff_none hf (chs sh X t (b % zs sh t) (hdN X t (b % zs sh t))).2 (Nat.zero_le _) (by omega)
      exact of_decide_eq_false this
    obtain ⟨b', hb', hbk⟩ : ∃ b', b' < 256 ∧ X (9, t, b % zs sh t * wy sh t + (chs sh X t (b % zs sh t) (hdN X t (b % zs sh t))).2) 1 = nI b' := by
      rcases (hX.2 t ht).2 _ hl with h | h
      · exact absurd h hne
      · exact h
    have h := q_leave hs ht hk hw (X := am_up (chs sh X t (b % zs sh t) (hdN X t (b % zs sh t))).1 (8, t, 0) 4 ((chs sh X t (b % zs sh t) (hdN X t (b % zs sh t))).1 (8, t, 0) 4 + 1)) (cI_up hc (by simp)) hl hb' (by rw [am_up_k (by simp), blk_chs]; exact hbk)
    refine ⟨am_cq_of (Nat.le_of_ble_eq_true rfl) rfl rfl (fun d hd => ?_), h.2, hl⟩
    have h2 := q_freeIn hs hX.1 ht hset d (by omega)
    rw [hf] at h2
    exact sg_33_0 rfl ht hs.1 (q_setOf hs hX.1 ht hb d (by omega)) h2 (fun _ => sg_33_30 ht (q_choose hs hX.1 ht hset ha hh d (by omega)) (h.1 d hd) rfl) (fun q h => by cases h)
theorem q_fetch (hs : shk sh) (ht : t < sh.1) (hk : 4 ≤ k) (hr : okR sh (t + 1) k rd) (hw : okW sh (t + 1) k wr) {X : am_M} (hX : cI sh X) {b : Nat} (hb : b < 256) {rb : Bool} : am_cq sh (k + 5) 32 X [clk, am_I (nI t), am_I (nI b), am_I (b01 rb)] ((fet sh rd wr t b rb X).1, Sum.inl (some (am_R (some (9, t, (fet sh rd wr t b rb X).2))))) ∧ cI sh (fet sh rd wr t b rb X).1 ∧ (fet sh rd wr t b rb X).2 < sh.2.1 t := by
  have h := q_makeRoom hs ht hk hw hX hb
  have h2 := hr (mkr sh wr t b X).1 b (10, t, (mkr sh wr t b X).2) h.2.1 hb (Or.inr (Or.inr ⟨t, _, ht, h.2.2, rfl⟩))
  unfold fet
  dsimp only
  refine ⟨am_cq_of (Nat.le_of_ble_eq_true rfl) rfl rfl (fun d hd => sg_32_0 (h.1 d hd) (fun h0 => ?_) (fun h0 => ?_)), ?_, h.2.2⟩
  · cases rb with
    | true => exact absurd h0 (by decide)
    | false => exact sg_32_25 rfl ht hs.1 (q_place ht h.2.2 d (by omega)) rfl
  · cases rb with
    | false => exact absurd rfl h0
    | true =>
      refine sg_32_12 ht h.2.2 (M1 := rd b (10, t, (mkr sh wr t b X).2) (mkr sh wr t b X).1) ?_ (sg_32_25 rfl ht hs.1 (q_place ht h.2.2 d (by omega)) rfl)
      rw [nI_1]
      exact h2.1 d (by omega)
  · refine cI_plac ?_ _ _ hb
    split
    · exact h2.2
    · exact h.2.1
theorem q_readAt (hs : shk sh) (ht : t < sh.1) (hk : 4 ≤ k) (hr : okR sh (t + 1) k rd) (hw : okW sh (t + 1) k wr) : okR sh t (k + 6) (rda sh rd wr t) := by
  intro X b key hX hb hkk
  have h4 := hs.1
  have hlt : nI t < X (0, 0, 0) 4 := by rw [hX.1.1]; exact nI_lt ht (by omega)
  have hk1 := okk_1 hkk
  unfold rda
  cases hf : fnd sh X t b with
  | some i =>
    dsimp only
    have hi := fnd_lt hs ht hf
    refine ⟨am_cq_of (Nat.le_of_ble_eq_true rfl) rfl rfl (fun d hd => sg_31_0 (fun _ => ?_) (fun h => absurd hlt h)), cI_cp (cI_nuse (cI_inc8 hX _ _) _ _) (by omega)⟩
    have h2 := q_fnd hs hX.1 ht hb d (by omega)
    rw [hf] at h2
    exact sg_31_32 rfl ht hs.1 h2 (fun q _ => sg_31_76 ht (q_noteUse ht hi d (by omega)) (sg_31_94 ht hi (by decide) (okk_ct hkk) (Nat.le_refl 4) rfl)) (fun h => by cases h)
  | none =>
    dsimp only
    have h3 := q_fetch hs ht hk hr hw (cI_inc8 hX t 1) hb (rb := true)
    refine ⟨am_cq_of (Nat.le_of_ble_eq_true rfl) rfl rfl (fun d hd => sg_31_0 (fun _ => ?_) (fun h => absurd hlt h)), cI_cp h3.2.1 (by omega)⟩
    have h2 := q_fnd hs hX.1 ht hb d (by omega)
    rw [hf] at h2
    exact sg_31_32 rfl ht hs.1 h2 (fun q h => by cases h) (fun _ => sg_31_53 ht (h3.1 d hd) (sg_31_94 ht h3.2.2 (by decide) (okk_ct hkk) (Nat.le_refl 4) rfl))
theorem clb_loop (hs : shk sh) {X : am_M} (hX : cfm sh X) {d : Nat} {P : am_S ⊕ am_O → Prop} : ∀ (k u : Nat), u + k = sh.1 ∨ (k = 0 ∧ sh.1 ≤ u ∧ u < 10) → P (Sum.inr (X, Sum.inl (some (am_I (b01 (ff (fun u => decide (¬ X (5, u, 0) 4 = 0)) u k).isSome))))) → am_ev sh (am_cr sh d) 42 (4, [some clk, some (am_I (nI t)), some (am_I (nI u))], [], X, 0) P := by
  intro k
  have h4 := hs.1
  induction k with
  | zero =>
    intro u hu hP
    refine sg_42_4 (fun _ => sg_42_32 hP) (fun h => absurd ?_ h)
    rw [hX.1]
    exact nI_le (by omega) (by omega)
  | succ k ih =>
    intro u hu hP
    refine sg_42_4 (fun h => ?_) (fun _ => ?_)
    · rw [hX.1] at h
      exact absurd h (nI_ge (by omega) (by omega))
    · unfold ff at hP
      refine sg_42_12 rfl (show u < sh.1 by omega) h4 (fun h => ?_) (fun h => ?_)
      · rw [if_neg (by simpa using h)] at hP
        refine sg_42_26 ?_
        rw [nI_1]
        exact ih _ (Or.inl (by omega)) hP
      · rw [if_pos (by simpa using h)] at hP
        exact sg_42_24 hP
theorem q_closedBelow (hs : shk sh) (ht : t < sh.1) {X : am_M} (hX : cfm sh X) : am_cq sh 1 42 X [clk, am_I (nI t)] (X, Sum.inl (some (am_I (b01 (clb sh X t))))) := by
  have h4 := hs.1
  refine am_cq_of (Nat.le_of_ble_eq_true rfl) rfl rfl (fun d hd => sg_42_0 ?_)
  rw [nI_1]
  exact clb_loop hs hX _ _ (by omega) rfl
end QM
