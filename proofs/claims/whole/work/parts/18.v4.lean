-- flush, empty
section VD
variable {sh : am_Sh} {c : Nat} {X M : am_M} {t : Nat}
def elp (stp : Nat → am_M → am_M) (t : Nat) : Nat → Nat → am_M → Int32 → am_M × Int32
  | _, 0, X, c => (X, c)
  | i, k + 1, X, c => if X (9, t, i) 1 = -1 then elp stp t (i + 1) k X c else elp stp t (i + 1) k (stp i X) (c + 1)
theorem elp_add {stp : Nat → am_M → am_M} : ∀ (k1 k2 i : Nat) (X : am_M) (c : Int32), elp stp t i (k1 + k2) X c = elp stp t (i + k1) k2 (elp stp t i k1 X c).1 (elp stp t i k1 X c).2 := by
  intro k1
  induction k1 with
  | zero => intro k2 i X c; rw [Nat.zero_add]; rfl
  | succ k1 ih =>
    intro k2 i X c
    rw [show k1 + 1 + k2 = (k1 + k2) + 1 by omega, elp, elp]
    split
    · rw [ih, show i + 1 + k1 = i + (k1 + 1) by omega]
    · rw [ih, show i + 1 + k1 = i + (k1 + 1) by omega]
theorem elp_none {stp : Nat → am_M → am_M} : ∀ (k i : Nat) (X : am_M) (x : Int32), (∀ i', i ≤ i' → i' < i + k → X (9, t, i') 1 = -1) → elp stp t i k X x = (X, x) := by
  intro k
  induction k with
  | zero => exact fun _ _ _ _ => rfl
  | succ k ih =>
    intro i X x h
    rw [elp, if_pos (h i (Nat.le_refl _) (by omega))]
    exact ih (i + 1) X x (fun i' a b => h i' (by omega) (by omega))
theorem emp_elp : ∀ (k i : Nat) (X : am_M) (c : Int32), emp sh t i k X c = elp (lev sh (wlo sh t) t) t i k X c := by
  intro k
  induction k with
  | zero => exact fun _ _ _ => rfl
  | succ k ih =>
    intro i X c
    unfold emp elp
    rw [ih, ih]
theorem fls_elp : ∀ (k i : Nat) (X : am_M) (c c' : Int32), (fls sh t i k X c).1 = (elp (wdir (wlo sh t) t) t i k X c').1 := by
  intro k
  induction k with
  | zero => exact fun _ _ _ _ => rfl
  | succ k ih =>
    intro i X c c'
    unfold fls elp
    split
    · exact ih _ _ _ _
    · exact ih _ _ _ _
/-- a step of a job on one line, on both sides -/
def okS (sh : am_Sh) (t n : Nat) (kd : Int32) (stp : Nat → am_M → am_M) : Prop := ∀ (c : Nat) (X M : am_M) (s w : Nat), Jn sh c X M → s < zs sh t → w < wy sh t → ¬ X (9, t, ci sh t s w) 1 = -1 → c + KK n < 2 ^ 31 → ∃ c' M', wkr sh (mpsh M 0 kd (nI t) 0 0 (nI (mi t s w))) M' ∧ Jn sh c' (stp (ci sh t s w) X) M' ∧ c' ≤ c + KK n ∧ mou M M' ∧ M' (20, 0, 0) 0 = M (20, 0, 0) 0
theorem sw_t (hsh : shk sh) (ht : t < sh.1) : SW sh (t + 1) (sh.1 - (t + 1)) (wlo sh t) ∧ gW sh (t + 1) (wlo sh t) := by
  have h := (sim_lv hsh (sh.1 - (t + 1)) (by omega)).2
  have g := (g_lv hsh (sh.1 - (t + 1)) (by omega)).2
  rw [show sh.1 - (sh.1 - (t + 1)) = t + 1 by omega] at h g
  exact ⟨h, g⟩
theorem Jn_job {M' X' : am_M} {c' : Nat} (hJ : Jn sh c X M) {x : Int32} {l : Nat} {kd : Int32} (hII : II sh X') (hf : cfr t nok X X') (hr : rel sh c' nol X' M') (h0 : M' (20, 0, 0) 23 = nI 0) (hm : mfm t 0 (mpsh M 0 kd (nI t) 0 0 (nI l)) M') : Jn sh c' X' M' ∧ mou M M' ∧ M' (20, 0, 0) 0 = M (20, 0, 0) 0 := by
  refine ⟨⟨hII, chk_cfr (by simp) hJ.2.1 hf, hr, h0, fun k hk => ?_⟩, mou_trans mou_psh (mou_mfm hm), ?_⟩
  · rw [hm (21, 22, 0) k (Or.inr (Or.inl ⟨rfl, by omega⟩)), mpsh_else (by simp) (by simp; omega), hJ.2.2.2.2 k hk, hf.1 (4, 0, 0) k (by unfold unch; simp) (by simp)]
  · rw [hm (20, 0, 0) 0 (Or.inr (Or.inr (Or.inr (Or.inl ⟨rfl, rfl⟩)))), mpsh_else (by simp) (by simp)]
theorem okS_leave (hsh : shk sh) (ht : t < sh.1) : okS sh t (sh.1 - (t + 1)) 2 (lev sh (wlo sh t) t) := by
  intro c X M s w hJ hs hw hp hc
  have hJ' := hJ
  obtain ⟨hII, hch, hrel, h0, hg⟩ := hJ
  have hi := lx_lt hsh ht hs hw
  obtain ⟨b, hb, hk⟩ : ∃ b, b < 256 ∧ X (9, t, ci sh t s w) 1 = nI b := ((hII.1.2 t ht).2 _ hi).resolve_left hp
  obtain ⟨s1, s2⟩ := sw_t hsh ht
  have hpt := mpsh_top (M := M) (j := 0) (x1 := 2) (x2 := nI t) (x3 := 0) (x4 := 0) (x5 := nI (mi t s w))
  have h4 := hsh.1
  obtain ⟨c', M', g1, g2, g3, g4, g5⟩ := sim_leave hsh ht hs hw s1 hII hch (rel_psh (j := 0) (x1 := 2) (x2 := nI t) (x3 := 0) (x4 := 0) (x5 := nI (mi t s w)) hrel) hb hk (by omega) hc hpt.1 hpt.2.1 hpt.2.2.1 hpt.2.2.2.2.2.1 hpt.2.2.2.2.2.2
  obtain ⟨d1, d2, -, -⟩ := g_lev hsh ht s2 hII hi hb hk
  obtain ⟨e1, e2, e3⟩ := Jn_job (x := 0) hJ' d1 d2 g2 g4 g5
  exact ⟨c', M', g1, e1, g3, e2, e3⟩
theorem g_wdir (hsh : shk sh) (ht : t < sh.1) {wr : Wr} (hw : gW sh (t + 1) wr) (hII : II sh X) {i b : Nat} (hi : i < sh.2.1 t) (hb : b < 256) (hk : X (9, t, i) 1 = nI b) : II sh (wdir wr t i X) ∧ cfr t nok X (wdir wr t i X) ∧ wdir wr t i X (8, t, 0) 5 = X (8, t, 0) 5 + bcf (X (9, t, i) 2) := by
  obtain ⟨m, hm, hd⟩ := hII.2.2.2.1 t ht i hi
  have z1 : II sh (am_up X (9, t, i) 2 0) := II_dirty (m := 0) hII (by decide) (fun _ => rfl)
  rw [wdir_eq hb hk hd, hd]
  by_cases h0 : nI m = 0
  · rw [if_pos h0]
    refine ⟨z1, cfr_up (unch_9 t i 2) (by simp), ?_⟩
    rw [am_up_k (by simp), h0, show bcf 0 = 0 by decide +kernel]
    exact (Int32.add_zero _).symm
  · rw [if_neg h0]
    obtain ⟨w1, w2, w3⟩ := g_wbel hw z1 hb hm (key10 ht hi).1 (key10 ht hi).2
    refine ⟨w1, cfr_trans (cfr_up (unch_9 t i 2) (by simp)) w2, ?_⟩
    rw [w3.1 (8, t, 0) 5 (by unfold unch; simp) (by simp), am_up_same, am_up_k (by simp)]
theorem okS_clean (hsh : shk sh) (ht : t < sh.1) : okS sh t (sh.1 - (t + 1)) 3 (wdir (wlo sh t) t) := by
  intro c X M s w hJ hs hw hp hc
  have hJ' := hJ
  obtain ⟨hII, hch, hrel, h0, hg⟩ := hJ
  have hi := lx_lt hsh ht hs hw
  obtain ⟨b, hb, hk⟩ : ∃ b, b < 256 ∧ X (9, t, ci sh t s w) 1 = nI b := ((hII.1.2 t ht).2 _ hi).resolve_left hp
  obtain ⟨s1, s2⟩ := sw_t hsh ht
  have hpt := mpsh_top (M := M) (j := 0) (x1 := 3) (x2 := nI t) (x3 := 0) (x4 := 0) (x5 := nI (mi t s w))
  have h4 := hsh.1
  obtain ⟨c', M', g1, g2, g3, g4, g5⟩ := sim_clean hsh ht hs hw s1 hII hch (rel_psh (j := 0) (x1 := 3) (x2 := nI t) (x3 := 0) (x4 := 0) (x5 := nI (mi t s w)) hrel) hb hk (by omega) hc hpt.1 hpt.2.1 hpt.2.2.1 hpt.2.2.2.2.2.1 hpt.2.2.2.2.2.2
  obtain ⟨d1, d2, -⟩ := g_wdir hsh ht s2 hII hi hb hk
  obtain ⟨e1, e2, e3⟩ := Jn_job (x := 0) hJ' d1 d2 g2 g4 g5
  exact ⟨c', M', g1, e1, g3, e2, e3⟩
theorem each_in (hsh : shk sh) (ht : t < sh.1) {n : Nat} {kd : Int32} {stp : Nat → am_M → am_M} (hS : okS sh t n kd stp) {s : Nat} (hs : s < zs sh t) : ∀ (k w : Nat) (X M : am_M) (c : Nat) (x : Int32), Jn sh c X M → w + k = wy sh t → c + k * KK n < 2 ^ 31 → ∃ c' M', (∀ d, 6 ≤ d → ∀ (P : am_S ⊕ am_O → Prop) (u6 : Option am_V), (∀ u6, am_ev sh (am_cr sh d) 96 (75, [some mok, some (am_I (nI t)), some (am_I kd), some (am_I (elp stp t (ci sh t s w) k X x).2), some (am_I (nI s)), some (am_I (nI (wy sh t))), u6], [], M', 0) P) → am_ev sh (am_cr sh d) 96 (19, [some mok, some (am_I (nI t)), some (am_I kd), some (am_I x), some (am_I (nI s)), some (am_I (nI w)), u6], [], M, 0) P) ∧ Jn sh c' (elp stp t (ci sh t s w) k X x).1 M' ∧ c' ≤ c + k * KK n ∧ mou M M' ∧ M' (20, 0, 0) 0 = M (20, 0, 0) 0 ∧ ((∀ i, i < sh.2.1 t → X (9, t, i) 1 = -1) → M' = M) := by
  intro k
  obtain ⟨z1, z2, z3⟩ := z_lt hsh ht
  induction k with
  | zero =>
    intro w X M c x hJ hw hc
    refine ⟨c, M, fun d hd P u6 hP => sg_96_19 rfl z3 (fun _ => ?_) (fun e => absurd ?_ e), hJ, by omega, mou_refl, rfl, fun _ => rfl⟩
    · rw [show w = wy sh t by omega]; exact hP _
    · rw [(hJ.2.2.1.2.1 t ht).1.2.1]; exact nI_le (by omega) (by omega)
  | succ k ih =>
    intro w X M c x hJ hw hc
    have hwl : w < wy sh t := by omega
    obtain ⟨k1, k2, k3⟩ := sw_lt hsh ht hs hwl
    have hl := mi_lt k3 k1 k2
    have hkk : (k + 1) * KK n = k * KK n + KK n := Nat.succ_mul _ _
    have b2 := (hJ.2.2.1.2.1 t ht).1.2.1
    have hbk := (hJ.2.2.1.2.2.1 t s w ht hs hwl).1
    have hci : ci sh t s w + 1 = ci sh t s (w + 1) := rfl
    by_cases hp : X (9, t, ci sh t s w) 1 = -1
    · have e : elp stp t (ci sh t s w) (k + 1) X x = elp stp t (ci sh t s (w + 1)) k X x := by rw [elp, if_pos hp]; rfl
      rw [e]
      obtain ⟨c', M', i1, i2, i3, i4, i5, i6⟩ := ih (w + 1) X M c x hJ (by omega) (by omega)
      refine ⟨c', M', fun d hd P u6 hP => sg_96_19 rfl z3 (fun q => ?_) (fun _ => sg_96_30 (j1 := mi t s w) (m_firstOf d (by omega)) (nI_add _ _) hl (fun _ => sg_96_69 ?_) (fun q => absurd ?_ q)), i2, by omega, i4, i5, i6⟩
      · rw [b2] at q; exact absurd q (nI_ge (by omega) (by omega))
      · rw [nI_1]; exact i1 d hd P _ hP
      · rw [hbk, hp]; decide
    · have e : elp stp t (ci sh t s w) (k + 1) X x = elp stp t (ci sh t s (w + 1)) k (stp (ci sh t s w) X) (x + 1) := by rw [elp, if_neg hp]; rfl
      rw [e]
      obtain ⟨c1, M1, g1, g2, g3, g4, g5⟩ := hS c X M s w hJ hs hwl hp (by omega)
      obtain ⟨c', M', i1, i2, i3, i4, i5, -⟩ := ih (w + 1) (stp (ci sh t s w) X) M1 c1 (x + 1) g2 (by omega) (by omega)
      refine ⟨c', M', fun d hd P u6 hP => sg_96_19 rfl z3 (fun q => ?_) (fun _ => sg_96_30 (j1 := mi t s w) (m_firstOf d (by omega)) (nI_add _ _) hl (fun q => absurd q ?_) (fun _ => ?_)), i2, by omega, mou_trans g4 i4, i5.trans g5, fun q => absurd (q _ (lx_lt hsh ht hs hwl)) hp⟩
      · rw [b2] at q; exact absurd q (nI_ge (by omega) (by omega))
      · rw [hbk]
        obtain ⟨b, hb, hk⟩ : ∃ b, b < 256 ∧ X (9, t, ci sh t s w) 1 = nI b := ((hJ.1.1.2 t ht).2 _ (lx_lt hsh ht hs hwl)).resolve_left hp
        rw [hk]; exact nI_pos (by omega)
      · rw [nI_add]
        refine sg_96_52 (m_push (j := 0) (by omega) hJ.2.2.2.1 d (by omega)) (m_workOff g1 g2.2.2.2.1 d hd) (sg_96_69 ?_)
        rw [nI_1]
        exact i1 d hd P _ hP
theorem each_out (hsh : shk sh) (ht : t < sh.1) {n : Nat} {kd : Int32} {stp : Nat → am_M → am_M} (hS : okS sh t n kd stp) : ∀ (k s : Nat) (X M : am_M) (c : Nat) (x : Int32), Jn sh c X M → s + k = zs sh t → c + k * wy sh t * KK n < 2 ^ 31 → ∃ c' M', (∀ d, 6 ≤ d → ∀ (P : am_S ⊕ am_O → Prop) (u5 u6 : Option am_V), P (Sum.inr (M', Sum.inl (some (am_I (elp stp t (s * wy sh t) (k * wy sh t) X x).2)))) → am_ev sh (am_cr sh d) 96 (5, [some mok, some (am_I (nI t)), some (am_I kd), some (am_I x), some (am_I (nI s)), u5, u6], [], M, 0) P) ∧ Jn sh c' (elp stp t (s * wy sh t) (k * wy sh t) X x).1 M' ∧ c' ≤ c + k * wy sh t * KK n ∧ mou M M' ∧ M' (20, 0, 0) 0 = M (20, 0, 0) 0 ∧ ((∀ i, i < sh.2.1 t → X (9, t, i) 1 = -1) → M' = M) := by
  intro k
  obtain ⟨z1, z2, z3⟩ := z_lt hsh ht
  induction k with
  | zero =>
    intro s X M c x hJ hw hc
    rw [Nat.zero_mul]
    refine ⟨c, M, fun d hd P u5 u6 hP => sg_96_5 rfl z3 (fun _ => sg_96_81 hP) (fun e => absurd ?_ e), hJ, by omega, mou_refl, rfl, fun _ => rfl⟩
    rw [(hJ.2.2.1.2.1 t ht).1.1]; exact nI_le (by omega) (by omega)
  | succ k ih =>
    intro s X M c x hJ hw hc
    have hs : s < zs sh t := by omega
    have e1 : (k + 1) * wy sh t = wy sh t + k * wy sh t := by rw [Nat.succ_mul, Nat.add_comm]
    have e2 : (wy sh t + k * wy sh t) * KK n = wy sh t * KK n + k * wy sh t * KK n := Nat.add_mul _ _ _
    rw [e1] at hc ⊢
    rw [e2] at hc ⊢
    obtain ⟨c1, M1, g1, g2, g3, g4, g5, g6⟩ := each_in hsh ht hS hs (wy sh t) 0 X M c x hJ (Nat.zero_add _) (by omega)
    rw [show ci sh t s 0 = s * wy sh t from rfl] at g1 g2
    obtain ⟨c', M', i1, i2, i3, i4, i5, i6⟩ := ih (s + 1) (elp stp t (s * wy sh t) (wy sh t) X x).1 M1 c1 (elp stp t (s * wy sh t) (wy sh t) X x).2 g2 (by omega) (by omega)
    rw [elp_add, show s * wy sh t + wy sh t = (s + 1) * wy sh t from (Nat.succ_mul s _).symm]
    refine ⟨c', M', fun d hd P u5 u6 hP => sg_96_5 rfl z3 (fun q => ?_) (fun _ => sg_96_16 (g1 d hd P _ (fun u6 => sg_96_75 ?_))), i2, by omega, mou_trans g4 i4, i5.trans g5, fun q => ?_⟩
    · rw [(hJ.2.2.1.2.1 t ht).1.1] at q; exact absurd q (nI_ge (by omega) (by omega))
    · rw [nI_1]; exact i1 d hd P _ _ hP
    · have hN := (hsh.2.2 t ht).2.2.2
      have hle : (s + 1) * wy sh t ≤ zs sh t * wy sh t := Nat.mul_le_mul_right _ (by omega)
      have hsm : (s + 1) * wy sh t = s * wy sh t + wy sh t := Nat.succ_mul _ _
      have e0 : elp stp t (s * wy sh t) (wy sh t) X x = (X, x) := elp_none _ _ _ _ (fun i' _ b => q i' (by omega))
      rw [e0] at i6
      exact (i6 q).trans (g6 q)
theorem sim_each (hsh : shk sh) (hJ : Jn sh c X M) (ht : t < sh.1) {n : Nat} {kd : Int32} {stp : Nat → am_M → am_M} (hS : okS sh t n kd stp) (hc : c + 64 * KK n < 2 ^ 31) : ∃ c' M', am_cq sh 7 96 M [mok, am_I (nI t), am_I kd] (M', Sum.inl (some (am_I (elp stp t 0 (sh.2.1 t) X 0).2))) ∧ Jn sh c' (elp stp t 0 (sh.2.1 t) X 0).1 M' ∧ c' ≤ c + 64 * KK n ∧ mou M M' ∧ M' (20, 0, 0) 0 = M (20, 0, 0) 0 ∧ ((∀ i, i < sh.2.1 t → X (9, t, i) 1 = -1) → M' = M) := by
  have hN := (hsh.2.2 t ht).2.2.2
  have hN64 := N_le hsh t
  have hle : zs sh t * wy sh t * KK n ≤ 64 * KK n := Nat.mul_le_mul_right _ (by rw [← hN]; exact hN64)
  obtain ⟨c', M', g1, g2, g3, g4, g5, g6⟩ := each_out hsh ht hS (zs sh t) 0 X M c 0 hJ (Nat.zero_add _) (by omega)
  rw [Nat.zero_mul, ← hN] at g1 g2
  exact ⟨c', M', am_cq_of (Nat.le_of_ble_eq_true rfl) rfl rfl (fun d hd => sg_96_0 (g1 d hd _ none none rfl)), g2, by omega, g4, g5, g6⟩
theorem sim_mempty (hsh : shk sh) (hJ : Jn sh c X M) (ht : t < sh.1) (hc : c + 64 * KK (sh.1 - (t + 1)) < 2 ^ 31) : ∃ c' M', am_cq sh 8 97 M [mok, am_I (nI t)] (M', Sum.inl (some (am_I (emp sh t 0 (sh.2.1 t) X 0).2))) ∧ Jn sh c' (emp sh t 0 (sh.2.1 t) X 0).1 M' ∧ c' ≤ c + 64 * KK (sh.1 - (t + 1)) ∧ mou M M' ∧ M' (20, 0, 0) 0 = 0 ∧ ((∀ i, i < sh.2.1 t → X (9, t, i) 1 = -1) → M' = am_up M (20, 0, 0) 0 0) := by
  obtain ⟨c', M', g1, g2, g3, g4, g5, g6⟩ := sim_each hsh (Jn_code hJ 0) ht (okS_leave hsh ht) hc
  rw [emp_elp]
  exact ⟨c', M', am_cq_of (Nat.le_of_ble_eq_true rfl) rfl rfl (fun d hd => sg_97_0 (m_isT hsh hJ.2.2.1 ht d (by omega)) (fun e => absurd e (by decide)) (fun _ => sg_97_9 (sg_97_14 (fun _ => sg_97_28 (g1 d hd) (sg_97_34 rfl)) (fun e => absurd c0_le e)))), g2, g3, mou_trans (mou_up (Or.inl rfl)) g4, by rw [g5, am_up_same], g6⟩
theorem m_emptyT (hsh : shk sh) (hrel : rel sh c nol X M) {x : Int32} (hx : bad x sh.1) : am_cq sh 3 97 M [mok, am_I x] (am_up M (20, 0, 0) 0 1, Sum.inl (some (am_I 0))) :=
  am_cq_of (Nat.le_of_ble_eq_true rfl) rfl rfl (fun d hd => sg_97_0 (m_isTf hsh hrel hx d hd) (fun _ => sg_97_13 (sg_97_14 (fun e => absurd e c1_nle) (fun _ => sg_97_24 (sg_97_34 rfl)))) (fun e => absurd rfl e))
theorem fls_cnt (hsh : shk sh) (ht : t < sh.1) : ∀ (k i : Nat) (X : am_M) (v : Int32), II sh X → i + k = sh.2.1 t → (fls sh t i k X v).1 (8, t, 0) 5 - X (8, t, 0) 5 = (fls sh t i k X v).2 - v := by
  intro k
  obtain ⟨s1, s2⟩ := sw_t hsh ht
  induction k with
  | zero => intro i X v _ _; rw [fls, Int32.sub_self, Int32.sub_self]
  | succ k ih =>
    intro i X v hII hi
    rw [fls]
    split
    · exact ih _ _ _ hII (by omega)
    · rename_i hp
      have hi' : i < sh.2.1 t := by omega
      obtain ⟨b, hb, hk⟩ : ∃ b, b < 256 ∧ X (9, t, i) 1 = nI b := ((hII.1.2 t ht).2 _ hi').resolve_left hp
      obtain ⟨d1, d2, d3⟩ := g_wdir hsh ht s2 hII hi' hb hk
      have h := ih (i + 1) (wdir (wlo sh t) t i X) (v + bcf (X (9, t, i) 2)) d1 (by omega)
      rw [d3] at h
      generalize (fls sh t (i + 1) k (wdir (wlo sh t) t i X) (v + bcf (X (9, t, i) 2))).1 (8, t, 0) 5 = A at h ⊢
      generalize (fls sh t (i + 1) k (wdir (wlo sh t) t i X) (v + bcf (X (9, t, i) 2))).2 = B at h ⊢
      generalize X (8, t, 0) 5 = C at h ⊢
      generalize bcf (X (9, t, i) 2) = D at h ⊢
      have e : ∀ a p q : Int32, a - (p + q) = a - p - q := fun a p q => by rw [Int32.sub_sub]
      rw [e, e] at h
      have h2 := congrArg (fun z => z + D) h
      rw [Int32.sub_add_cancel, Int32.sub_add_cancel] at h2
      exact h2
theorem sim_mflush (hsh : shk sh) (hJ : Jn sh c X M) (ht : t < sh.1) (hc : c + 64 * KK (sh.1 - (t + 1)) < 2 ^ 31) : ∃ c' M', am_cq sh 8 94 M [mok, am_I (nI t)] (M', Sum.inl (some (am_I (fls sh t 0 (sh.2.1 t) X 0).2))) ∧ Jn sh c' (fls sh t 0 (sh.2.1 t) X 0).1 M' ∧ c' ≤ c + 64 * KK (sh.1 - (t + 1)) ∧ mou M M' ∧ M' (20, 0, 0) 0 = 0 ∧ ((∀ i, i < sh.2.1 t → X (9, t, i) 1 = -1) → M' = am_up M (20, 0, 0) 0 0) := by
  have h4 := hsh.1
  obtain ⟨c', M', g1, g2, g3, g4, g5, g6⟩ := sim_each hsh (Jn_code hJ 0) ht (okS_clean hsh ht) hc
  rw [← fls_elp (c := 0)] at g2
  refine ⟨c', M', am_cq_of (Nat.le_of_ble_eq_true rfl) rfl rfl (fun d hd => sg_94_0 (m_isT hsh hJ.2.2.1 ht d (by omega)) (fun e => absurd e (by decide)) (fun _ => sg_94_9 (sg_94_14 (fun _ => sg_94_26 (j1 := 6 * t + 5) (n6 t 5) (by omega) (g1 d hd) ?_) (fun e => absurd c0_le e)))), g2, g3, mou_trans (mou_up (Or.inl rfl)) g4, by rw [g5, am_up_same], g6⟩
  rw [am_up_k (by simp), (g2.2.2.1.2.1 t ht).2.1 5 (by omega), (hJ.2.2.1.2.1 t ht).2.1 5 (by omega), fls_cnt hsh ht _ _ _ _ hJ.1 (Nat.zero_add _), Int32.sub_zero]
theorem m_flushT (hsh : shk sh) (hrel : rel sh c nol X M) {x : Int32} (hx : bad x sh.1) : am_cq sh 3 94 M [mok, am_I x] (am_up M (20, 0, 0) 0 1, Sum.inl (some (am_I 0))) :=
  am_cq_of (Nat.le_of_ble_eq_true rfl) rfl rfl (fun d hd => sg_94_0 (m_isTf hsh hrel hx d hd) (fun _ => sg_94_13 (sg_94_14 (fun e => absurd e c1_nle) (fun _ => sg_94_24 rfl))) (fun e => absurd rfl e))
end VD
