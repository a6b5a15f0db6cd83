-- writes; all levels
section QN
variable {sh : am_Sh} {t k : Nat} {rd : Rd} {wr : Wr}
theorem q_writeAround (hs : shk sh) (ht : t < sh.1) (hk : 4 ≤ k) (hw : okW sh (t + 1) k wr) {X : am_M} (hX : cI sh X) {b : Nat} (hb : b < 256) {bits : Int32} {key : am_K} (hkk : okk sh key) : am_cq sh (k + 4) 40 X [clk, am_I (nI t), am_I (nI b), am_I bits, am_R (some key)] (war sh wr t b bits key X, Sum.inl none) ∧ cI sh (war sh wr t b bits key X) := by
  unfold war
  have hX3 := cI_inc8 hX t 3
  cases hf : fnd sh (inc8 X t 3) t b with
  | some i =>
    dsimp only
    have hi := fnd_lt hs ht hf
    obtain ⟨w, hw2, he⟩ : ∃ w, ff (hasB sh (inc8 X t 3) t (b % zs sh t) (nI b)) 0 (wy sh t) = some w ∧ b % zs sh t * wy sh t + w = i := by
      unfold fnd at hf
      cases hq : ff (hasB sh (inc8 X t 3) t (b % zs sh t) (nI b)) 0 (wy sh t) with
      | none => rw [hq] at hf; cases hf
      | some w => rw [hq] at hf; cases hf; exact ⟨w, rfl, rfl⟩
    have hbk : inc8 X t 3 (9, t, i) 1 = nI b := by
      rw [← he]; exact of_decide_eq_true (ff_some hw2).2.2.1
    have h1 := q_leave hs ht hk hw hX3 hi hb hbk
    have h2 := q_writeBelow hs ht hk hw h1.2 hb (bits := bits) hkk
    refine ⟨am_cq_of (Nat.le_of_ble_eq_true rfl) rfl rfl (fun d hd => ?_), h2.2⟩
    have h3 := q_fnd hs hX3.1 ht hb d (by omega)
    rw [hf] at h3
    exact sg_40_0 rfl ht hs.1 rfl ht h3 (fun h => by cases h) (fun q _ => sg_40_32 (h1.1 d (by omega)) (sg_40_39 (h2.1 d (by omega)) rfl))
  | none =>
    dsimp only
    have h2 := q_writeBelow hs ht hk hw hX3 hb (bits := bits) hkk
    refine ⟨am_cq_of (Nat.le_of_ble_eq_true rfl) rfl rfl (fun d hd => ?_), h2.2⟩
    have h3 := q_fnd hs hX3.1 ht hb d (by omega)
    rw [hf] at h3
    exact sg_40_0 rfl ht hs.1 rfl ht h3 (fun _ => sg_40_39 (h2.1 d (by omega)) rfl) (fun q h => by cases h)
theorem wrl_end (hs : shk sh) (ht : t < sh.1) (hk : 4 ≤ k) (hw : okW sh (t + 1) k wr) {X : am_M} (hX : cI sh X) {b : Nat} (hb : b < 256) {bits : Int32} {key : am_K} (hkk : okk sh key) {i : Nat} (hi : i < sh.2.1 t) {d : Nat} (hd : k + 1 ≤ d) {P : am_S ⊕ am_O → Prop} (hP : P (Sum.inr (wrl wr t i b bits key X, Sum.inl none))) : am_ev sh (am_cr sh d) 41 (80, [some clk, some (am_I (nI t)), some (am_I (nI b)), some (am_I bits), some (am_R (some key)), some (am_R (some (5, t, 0))), some (am_R (some (9, t, i)))], [], X, 0) P := by
  have e5 : cpw bits key (10, t, i) 0 0 4 X (5, t, 0) 3 = X (5, t, 0) 3 := cpw_else (by simp) _ _ _
  have e9 : cpw bits key (10, t, i) 0 0 4 X (9, t, i) 2 = X (9, t, i) 2 := cpw_else (by simp) _ _ _
  unfold wrl at hP
  refine sg_41_80 ht hi (q_copyWords (st := 0) (okk_ct hkk) (am_ct10 ht hi) (Nat.le_refl 4) (by decide) (Nat.le_refl 4) (by decide) d (by omega)) ht (fun h => ?_) (fun h => ?_)
  · rw [e5] at h
    rw [if_neg h] at hP
    have h2 := q_writeBelow hs ht hk hw (X := am_up (cpw bits key (10, t, i) 0 0 4 X) (9, t, i) 2 (X (9, t, i) 2 &&& (bits ^^^ (-1)))) (cI_up (cI_cpw hX (by simp)) (by simp)) hb (bits := bits) hkk
    refine sg_41_115 ht hi (M1 := wbel wr t b bits key (am_up (cpw bits key (10, t, i) 0 0 4 X) (9, t, i) 2 (X (9, t, i) 2 &&& (bits ^^^ (-1))))) ?_ (sg_41_137 hP)
    rw [e9]
    exact h2.1 d hd
  · rw [e5] at h
    rw [if_pos h] at hP
    refine sg_41_101 ht hi (sg_41_137 ?_)
    rw [e9]
    exact hP
theorem cI_wrl (hs : shk sh) (ht : t < sh.1) (hk : 4 ≤ k) (hw : okW sh (t + 1) k wr) {X : am_M} (hX : cI sh X) {b : Nat} (hb : b < 256) {bits : Int32} {key : am_K} (hkk : okk sh key) {i : Nat} : cI sh (wrl wr t i b bits key X) := by
  unfold wrl
  split
  · exact cI_up (cI_cpw hX (by simp)) (by simp)
  · exact (q_writeBelow hs ht hk hw (cI_up (cI_cpw hX (by simp)) (by simp)) hb hkk).2
theorem q_writeInLine (hs : shk sh) (ht : t < sh.1) (hk : 4 ≤ k) (hr : okR sh (t + 1) k rd) (hw : okW sh (t + 1) k wr) {X : am_M} (hX : cI sh X) {b : Nat} (hb : b < 256) {bits : Int32} {key : am_K} (hkk : okk sh key) : am_cq sh (k + 6) 41 X [clk, am_I (nI t), am_I (nI b), am_I bits, am_R (some key)] (wrn sh rd wr t b bits key X, Sum.inl none) ∧ cI sh (wrn sh rd wr t b bits key X) := by
  unfold wrn
  cases hf : fnd sh X t b with
  | some i =>
    dsimp only
    have hi := fnd_lt hs ht hf
    have hY := cI_nuse (cI_inc8 hX t 2) t i
    refine ⟨am_cq_of (Nat.le_of_ble_eq_true rfl) rfl rfl (fun d hd => ?_), cI_wrl hs ht hk hw hY hb hkk⟩
    have h3 := q_fnd hs hX.1 ht hb d (by omega)
    rw [hf] at h3
    exact sg_41_0 rfl ht hs.1 h3 (fun q _ => sg_41_62 ht (q_noteUse ht hi d (by omega)) (wrl_end hs ht hk hw hY hb hkk hi (by omega) rfl)) (fun h => by cases h)
  | none =>
    dsimp only
    have hX3 := cI_inc8 hX t 3
    have h1 := q_fetch hs ht hk hr hw hX3 hb (rb := decide (¬ bits = 15) || clb sh (inc8 X t 3) t)
    refine ⟨am_cq_of (Nat.le_of_ble_eq_true rfl) rfl rfl (fun d hd => ?_), cI_wrl hs ht hk hw h1.2.1 hb hkk⟩
    have h3 := q_fnd hs hX.1 ht hb d (by omega)
    rw [hf] at h3
    have hcl := q_closedBelow hs ht hX3.1 d (by omega)
    have hft := h1.1 d (by omega)
    have hend := wrl_end hs ht hk hw h1.2.1 hb (bits := bits) hkk h1.2.2 (d := d) (by omega) (P := fun r => r = Sum.inr (wrl wr t (fet sh rd wr t b (decide (¬ bits = 15) || clb sh (inc8 X t 3) t) (inc8 X t 3)).2 b bits key (fet sh rd wr t b (decide (¬ bits = 15) || clb sh (inc8 X t 3) t) (inc8 X t 3)).1, Sum.inl none)) rfl
    refine sg_41_0 rfl ht hs.1 h3 (fun q h => by cases h) (fun _ => sg_41_21 ht (fun h15 => ?_) (fun h15 => ?_))
    · rw [show (decide (¬ bits = 15) || clb sh (inc8 X t 3) t) = true by rw [decide_eq_true h15]; rfl] at hft hend ⊢
      exact sg_41_49 (sg_41_54 hft hend)
    · refine sg_41_41 hcl (fun h0 => ?_) (fun h0 => ?_)
      · cases hcb : clb sh (inc8 X t 3) t with
        | true => rw [hcb] at h0; exact absurd h0 (by decide)
        | false =>
          rw [hcb, show (decide (¬ bits = 15) || false) = false by rw [decide_eq_false (fun q => q h15)]; rfl] at hft hend
          rw [show (decide (¬ bits = 15) || false) = false by rw [decide_eq_false (fun q => q h15)]; rfl]
          exact sg_41_53 (sg_41_54 hft hend)
      · cases hcb : clb sh (inc8 X t 3) t with
        | false => rw [hcb] at h0; exact absurd rfl h0
        | true =>
          rw [hcb, Bool.or_true] at hft hend
          rw [Bool.or_true]
          exact sg_41_49 (sg_41_54 hft hend)
theorem q_writeAt (hs : shk sh) (ht : t < sh.1) (hk : 4 ≤ k) (hr : okR sh (t + 1) k rd) (hw : okW sh (t + 1) k wr) : okW sh t (k + 7) (wra sh rd wr t) := by
  intro X b bits key hX hb hkk
  have h4 := hs.1
  have hlt : nI t < X (0, 0, 0) 4 := by rw [hX.1.1]; exact nI_lt ht (by omega)
  have h1 := q_writeAround hs ht hk hw hX hb (bits := bits) hkk
  have h2 := q_writeInLine hs ht hk hr hw hX hb (bits := bits) hkk
  unfold wra
  by_cases h0 : X (5, t, 0) 3 = 2
  · rw [if_pos h0]
    exact ⟨am_cq_of (Nat.le_of_ble_eq_true rfl) rfl rfl (fun d hd => sg_39_0 (fun _ => sg_39_34 rfl ht hs.1 (fun h => absurd h0 h) (fun _ => sg_39_47 (h1.1 d (by omega)) (sg_39_68 rfl))) (fun h => absurd hlt h)), h1.2⟩
  · rw [if_neg h0]
    exact ⟨am_cq_of (Nat.le_of_ble_eq_true rfl) rfl rfl (fun d hd => sg_39_0 (fun _ => sg_39_34 rfl ht hs.1 (fun _ => sg_39_59 (h2.1 d (by omega)) (sg_39_68 rfl)) (fun h => absurd h h0)) (fun h => absurd hlt h)), h2.2⟩
theorem okR_up {k' : Nat} (h : okR sh t k rd) (hk : k ≤ k') : okR sh t k' rd := fun X b key a b' c => ⟨am_cq_up (h X b key a b' c).1 hk, (h X b key a b' c).2⟩
theorem okW_up {k' : Nat} (h : okW sh t k wr) (hk : k ≤ k') : okW sh t k' wr := fun X b bits key a b' c => ⟨am_cq_up (h X b bits key a b' c).1 hk, (h X b bits key a b' c).2⟩
theorem q_lv (hs : shk sh) : ∀ n, n ≤ sh.1 → okR sh (sh.1 - n) (4 + 7 * n) (lv sh n).1 ∧ okW sh (sh.1 - n) (4 + 7 * n) (lv sh n).2 := by
  intro n
  have h4 := hs.1
  induction n with
  | zero =>
    intro _
    refine ⟨fun X b key hX hb hkk => ?_, fun X b bits key hX hb hkk => ?_⟩
    · have hk1 := okk_1 hkk
      refine ⟨am_cq_up (am_cq_of (k := 0) (Nat.le_of_ble_eq_true rfl) rfl rfl (fun d hd => sg_31_0 (fun h => ?_) (fun _ => sg_31_8 (pk_mul b 4) (by decide) (okk_ct hkk) (show b * 4 + 4 ≤ 1024 by omega) (Nat.le_refl 4) rfl))) (by omega), cI_cp (cI_up hX (by simp)) (by omega)⟩
      rw [hX.1.1] at h
      exact absurd h (nI_nlt (by omega) (by omega))
    · refine ⟨am_cq_up (am_cq_of (k := 1) (Nat.le_of_ble_eq_true rfl) rfl rfl (fun d hd => sg_39_0 (fun h => ?_) (fun _ => ?_))) (by omega), cI_cpw (cI_up hX (by simp)) (by simp)⟩
      · rw [hX.1.1] at h
        exact absurd h (nI_nlt (by omega) (by omega))
      · refine sg_39_8 (M1 := (lv sh 0).2 b bits key X) ?_ (sg_39_68 rfl)
        rw [show nI b * 4 = nI (b * 4) from pk_mul b 4]
        exact q_copyWords (okk_ct hkk) (k1 := (1, 0, 0)) (N1 := 1024) rfl (Nat.le_refl 4) (by decide) (by omega) (by decide) d hd
  | succ n ih =>
    intro hn
    obtain ⟨hr, hw⟩ := ih (by omega)
    have e : sh.1 - n = sh.1 - (n + 1) + 1 := by omega
    rw [e] at hr hw
    have ht : sh.1 - (n + 1) < sh.1 := by omega
    exact ⟨okR_up (q_readAt hs ht (by omega) hr hw) (by omega), okW_up (q_writeAt hs ht (by omega) hr hw) (by omega)⟩
theorem q_lvh (hs : shk sh) : okR sh 0 32 (lv sh sh.1).1 ∧ okW sh 0 32 (lv sh sh.1).2 := by
  have h := q_lv hs sh.1 (Nat.le_refl _)
  rw [Nat.sub_self] at h
  have h4 := hs.1
  exact ⟨okR_up h.1 (by omega), okW_up h.2 (by omega)⟩
theorem q_blockOf {X : am_M} {w : Nat} (hw : w < 1024) : am_cq sh 1 30 X [am_I (nI w)] (X, Sum.inl (some (am_I (nI (w / 4))))) :=
  am_cq_of (Nat.le_of_ble_eq_true rfl) rfl rfl (fun d hd => sg_30_0 (by rw [show nI w / 4 = nI (w / 4) from pk_div (d := 4) (by omega) (by omega) (by omega)]))
/-- reading and writing a word -/
def rdw (sh : am_Sh) (w : Nat) (X : am_M) : am_M := (lv sh sh.1).1 (w / 4) (3, 0, 0) (am_up X (0, 0, 0) 7 1)
def wrw (sh : am_Sh) (w : Nat) (v : Int32) (X : am_M) : am_M := (lv sh sh.1).2 (w / 4) ((1 : Int32) <<< (nI (w % 4) &&& 31)) (4, 0, 0) (am_up (am_up X (0, 0, 0) 7 1) (4, 0, 0) (w % 4) v)
theorem q_readWord (hs : shk sh) {X : am_M} (hX : cI sh X) {w : Nat} (hw : w < 1024) : am_cq sh 33 29 X [clk, am_I (nI w)] (rdw sh w X, Sum.inl (some (am_I (rdw sh w X (3, 0, 0) (w % 4))))) ∧ cI sh (rdw sh w X) := by
  have h := (q_lvh hs).1 (am_up X (0, 0, 0) 7 1) (w / 4) (3, 0, 0) (cI_up hX (by simp)) (by omega) (Or.inl rfl)
  refine ⟨am_cq_of (Nat.le_of_ble_eq_true rfl) rfl rfl (fun d hd => sg_29_0 (q_blockOf hw d (by omega)) (h.1 d hd) ?_ (show w % 4 < 4 by omega) rfl), h.2⟩
  exact pk_rem (d := 4) (by omega) (by omega) (by omega)
theorem q_writeWord (hs : shk sh) {X : am_M} (hX : cI sh X) {w : Nat} (hw : w < 1024) {v : Int32} : am_cq sh 33 44 X [clk, am_I (nI w), am_I v] (wrw sh w v X, Sum.inl none) ∧ cI sh (wrw sh w v X) := by
  have h := (q_lvh hs).2 (am_up (am_up X (0, 0, 0) 7 1) (4, 0, 0) (w % 4) v) (w / 4) ((1 : Int32) <<< (nI (w % 4) &&& 31)) (4, 0, 0) (cI_up (cI_up hX (by simp)) (by simp)) (by omega) (Or.inr (Or.inl rfl))
  have e : nI w - nI w / 4 * 4 = nI (w % 4) := pk_rem (d := 4) (by omega) (by omega) (by omega)
  refine ⟨am_cq_of (Nat.le_of_ble_eq_true rfl) rfl rfl (fun d hd => sg_44_0 e (show w % 4 < 4 by omega) (q_blockOf hw d (by omega)) (M2 := wrw sh w v X) ?_ rfl), h.2⟩
  rw [e]
  exact h.1 d hd
end QN
