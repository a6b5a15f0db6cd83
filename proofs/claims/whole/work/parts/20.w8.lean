-- the law's two cases with a truth value, and the switch
section WH
variable {sh : am_Sh} {c K : Nat} {W : am_M}
theorem lc_809 {i : Nat} (hJ : Jn sh c W W) (hL : sh.2.2.2 < 2147483648) (hi : i + 6 ≤ sh.2.2.2) {d : Nat} (hd : 45 ≤ d) {P : am_S ⊕ am_O → Prop} {u5 u6 : Option am_V} (hP : ∀ W2 l5 l6, Jn sh c W2 W2 → kp sh W W2 → am_ev sh (am_cr sh d) 121 (1160, [some sck, some clk, some mok, some outk, some (am_I (nI i)), l5, l6], [], W2, 0) P) : am_ev sh (am_cr sh d) 121 (809, [some sck, some clk, some mok, some outk, some (am_I (nI i)), u5, u6], [], W, 0) P := by
  by_cases h0 : W (31, 0, 0) (i + 1) = 0
  · obtain ⟨r, W1, W2, g1, g2, g5, g7, g8⟩ := w_traffic hJ 0
    exact sg_121_809 (j1 := i + 1) hL (nI_add i 1) (by omega) (fun _ => sg_121_823 (sg_121_824 (j1 := i + 1) (g1 d hd) hL (nI_add i 1) (by omega) (fun _ => sg_121_841 (sg_121_842 (g2 d hd) (fun _ => hP W2 _ _ g5 g8) (fun e => absurd rfl e))) (fun e => absurd ((g7 _).trans h0) e))) (fun e => absurd h0 e)
  · obtain ⟨r, W1, W2, g1, g2, g5, g7, g8⟩ := w_traffic hJ 1
    exact sg_121_809 (j1 := i + 1) hL (nI_add i 1) (by omega) (fun e => absurd e h0) (fun _ => sg_121_819 (sg_121_824 (j1 := i + 1) (g1 d hd) hL (nI_add i 1) (by omega) (fun e => absurd ((g7 _).symm.trans e) h0) (fun _ => sg_121_837 (sg_121_842 (g2 d hd) (fun _ => hP W2 _ _ g5 g8) (fun e => absurd rfl e)))))
/-- a script's word as a truth value -/
def tvl (x : Int32) : Int32 := if x = 0 then 0 else 1
theorem tvl_or (x : Int32) : tvl x = 0 ∨ tvl x = 1 := by
  unfold tvl
  split
  · exact Or.inl rfl
  · exact Or.inr rfl
theorem lc_128 {i : Nat} (hok : okc sh 107 61 [clk, am_I (W (31, 0, 0) (i + 1)), am_I (W (31, 0, 0) (i + 2)), am_I (W (31, 0, 0) (i + 3)), am_I (W (31, 0, 0) (i + 4)), am_I (tvl (W (31, 0, 0) (i + 5))), outk] [mok, am_I (W (31, 0, 0) (i + 1)), am_I (W (31, 0, 0) (i + 2)), am_I (W (31, 0, 0) (i + 3)), am_I (W (31, 0, 0) (i + 4)), am_I (tvl (W (31, 0, 0) (i + 5)))] W c K) (hL : sh.2.2.2 < 2147483648) (hi : i + 6 ≤ sh.2.2.2) {d : Nat} (hd : 45 ≤ d) {P : am_S ⊕ am_O → Prop} {u5 u6 : Option am_V} (hP : ∀ W2 c' l5 l6, Jn sh c' W2 W2 → c' ≤ c + K → kp sh W W2 → am_ev sh (am_cr sh d) 121 (1160, [some sck, some clk, some mok, some outk, some (am_I (nI i)), l5, l6], [], W2, 1) P) : am_ev sh (am_cr sh d) 121 (128, [some sck, some clk, some mok, some outk, some (am_I (nI i)), u5, u6], [], W, 0) P := by
  obtain ⟨r1, r2, W1, W2, c', g1, g2, g3, g4, g5, g6, g7, g8⟩ := hok
  have tail : am_ev sh (am_cr sh d) 121 (212, [some sck, some clk, some mok, some outk, some (am_I (nI i)), some (am_I r1), u6], [am_I (tvl (W (31, 0, 0) (i + 5))), am_I (W1 (31, 0, 0) (i + 4)), am_I (W1 (31, 0, 0) (i + 3)), am_I (W1 (31, 0, 0) (i + 2)), am_I (W1 (31, 0, 0) (i + 1)), mok], W1, 1) P :=
    sg_121_212 (by rw [g7, g7, g7, g7]; exact g2 d hd) (m_thrown d (by omega)) (fun _ => sg_121_228 (fun _ => sg_121_245 (hP W2 c' _ _ g5 g6 g8)) (fun e => sg_121_233 (fun _ => sg_121_245 (hP W2 c' _ _ g5 g6 g8)) (fun q => absurd (g4 e) q))) (fun e => absurd g3 e)
  by_cases h0 : W (31, 0, 0) (i + 5) = 0
  · have e : tvl (W (31, 0, 0) (i + 5)) = 0 := by unfold tvl; rw [if_pos h0]
    rw [e] at g1 tail
    exact sg_121_128 (j1 := i + 1) (j2 := i + 2) (j3 := i + 3) (j4 := i + 4) (j5 := i + 5) hL (nI_add i 1) (by omega) (nI_add i 2) (by omega) (nI_add i 3) (by omega) (nI_add i 4) (by omega) (nI_add i 5) (by omega) (fun _ => sg_121_166 (sg_121_167 (j1 := i + 1) (j2 := i + 2) (j3 := i + 3) (j4 := i + 4) (j5 := i + 5) (g1 d hd) hL (nI_add i 1) (by omega) (nI_add i 2) (by omega) (nI_add i 3) (by omega) (nI_add i 4) (by omega) (nI_add i 5) (by omega) (fun _ => sg_121_211 tail) (fun q => absurd ((g7 _).trans h0) q))) (fun q => absurd h0 q)
  · have e : tvl (W (31, 0, 0) (i + 5)) = 1 := by unfold tvl; rw [if_neg h0]
    rw [e] at g1 tail
    exact sg_121_128 (j1 := i + 1) (j2 := i + 2) (j3 := i + 3) (j4 := i + 4) (j5 := i + 5) hL (nI_add i 1) (by omega) (nI_add i 2) (by omega) (nI_add i 3) (by omega) (nI_add i 4) (by omega) (nI_add i 5) (by omega) (fun q => absurd q h0) (fun _ => sg_121_162 (sg_121_167 (j1 := i + 1) (j2 := i + 2) (j3 := i + 3) (j4 := i + 4) (j5 := i + 5) (g1 d hd) hL (nI_add i 1) (by omega) (nI_add i 2) (by omega) (nI_add i 3) (by omega) (nI_add i 4) (by omega) (nI_add i 5) (by omega) (fun q => absurd ((g7 _).symm.trans q) h0) (fun _ => sg_121_207 tail)))
theorem and31 (y : Int32) : ∃ k : Nat, k < 32 ∧ y &&& 31 = nI k := by
  refine ⟨(y &&& 31).toBitVec.toNat, ?_, ?_⟩
  · have h : (y &&& 31).toBitVec.toNat = y.toBitVec.toNat &&& 31 := by
      rw [Int32.toBitVec_and, BitVec.toNat_and]
      rfl
    rw [h]
    exact Nat.lt_of_le_of_lt Nat.and_le_right (by decide)
  · apply Int32.toBitVec_inj.mp
    apply BitVec.eq_of_toNat_eq
    unfold nI
    rw [Int32.toBitVec_ofNat']
    simp
theorem KKm : ∀ n, n ≤ 4 → KK n ≤ KK 4 := by
  intro n hn
  rcases (show n = 0 ∨ n = 1 ∨ n = 2 ∨ n = 3 ∨ n = 4 by omega) with rfl | rfl | rfl | rfl | rfl <;> decide
/-- a round ends where the next begins -/
def rnP (sh : am_Sh) (c i : Nat) (W : am_M) : am_S ⊕ am_O → Prop := fun r => ∃ W2 c' l5 l6 n, r = Sum.inl (23, [some sck, some clk, some mok, some outk, some (am_I (nI (i + 6))), l5, l6], [], W2, n) ∧ n ≤ 3 ∧ Jn sh c' W2 W2 ∧ c' ≤ c + 256 * KK 4 ∧ kp sh W W2
theorem rnd (hsh : shk sh) (hJ : Jn sh c W W) (hL : sh.2.2.2 < 2147483648) {i : Nat} (hi : i + 6 ≤ sh.2.2.2) (hc : c + 256 * KK 4 < 2 ^ 31) {d : Nat} (hd : 45 ≤ d) {u5 u6 : Option am_V} (hT : W (31, 0, 0) i &&& 31 = nI 0 → ¬ tok (W (31, 0, 0) (i + 1)) (W (31, 0, 0) (i + 2)) (W (31, 0, 0) (i + 3)) (W (31, 0, 0) (i + 4)) ∨ (tok (W (31, 0, 0) (i + 1)) (W (31, 0, 0) (i + 2)) (W (31, 0, 0) (i + 3)) (W (31, 0, 0) (i + 4)) ∧ (sh.1 = 4 ∨ ¬ W (0, 0, 0) 7 = 0))) : am_ev sh (am_cr sh d) 121 (23, [some sck, some clk, some mok, some outk, some (am_I (nI i)), u5, u6], [], W, 0) (rnP sh c i W) := by
  have h4 := hsh.1
  have hk1 : KK sh.1 ≤ KK 4 := KKm _ h4
  have hfin : ∀ W2 c' l5 l6 n, n ≤ 3 → Jn sh c' W2 W2 → c' ≤ c + 256 * KK 4 → kp sh W W2 → am_ev sh (am_cr sh d) 121 (1160, [some sck, some clk, some mok, some outk, some (am_I (nI i)), l5, l6], [], W2, n) (rnP sh c i W) := fun W2 c' l5 l6 n hn a b e => sg_121_1160 (am_ev_stop ⟨W2, c', l5, l6, n, by rw [show nI i + 6 = nI (i + 6) from nI_add i 6], hn, a, b, e⟩)
  refine sg_121_23 hL (fun q => absurd q ?_) (fun _ => sg_121_33 (j1 := i) hL rfl (by omega) ?_)
  · rw [show nI sh.2.2.2 - 6 = nI (sh.2.2.2 - 6) from pk_sub (b := 6) (by omega)]
    exact nI_nlt (by omega) (by omega)
  · obtain ⟨k, hk, e⟩ := and31 (W (31, 0, 0) i)
    rw [e]
    by_cases h18 : 18 ≤ k
    · refine am_e_tswOut (tgt := 1160) dd_121_40 (Or.inr ?_) (by decide) (hfin W c u5 u6 0 (by decide) hJ (by omega) ⟨fun _ => rfl, fun h => h⟩)
      rw [nI_toInt (by omega)]
      omega
    · rcases (show k = 0 ∨ k = 1 ∨ k = 2 ∨ k = 3 ∨ k = 4 ∨ k = 5 ∨ k = 6 ∨ k = 7 ∨ k = 8 ∨ k = 9 ∨ k = 10 ∨ k = 11 ∨ k = 12 ∨ k = 13 ∨ k = 14 ∨ k = 15 ∨ k = 16 ∨ k = 17 by omega) with rfl | rfl | rfl | rfl | rfl | rfl | rfl | rfl | rfl | rfl | rfl | rfl | rfl | rfl | rfl | rfl | rfl | rfl
      · refine am_e_tsw (off := 88) (tgt := 128) dd_121_40 (by decide) (by decide) (by decide) ?_
        exact lc_128 (w_tierT (K := 0) hsh hJ (hT e)) hL hi hd (fun W2 c' l5 l6 a b e => hfin W2 c' l5 l6 _ (by decide) a (by omega) e)
      · refine am_e_tsw (off := 208) (tgt := 248) dd_121_40 (by decide) (by decide) (by decide) ?_
        exact lc_248 (w_read hsh hJ _ (by omega)) hL hi hd (fun W2 c' l5 l6 a b e => hfin W2 c' l5 l6 _ (by decide) a (by omega) e)
      · refine am_e_tsw (off := 264) (tgt := 304) dd_121_40 (by decide) (by decide) (by decide) ?_
        exact lc_304 (w_write hsh hJ _ _ (by omega)) hL hi hd (fun W2 c' l5 l6 a b e => hfin W2 c' l5 l6 _ (by decide) a (by omega) e)
      · refine am_e_tsw (off := 312) (tgt := 352) dd_121_40 (by decide) (by decide) (by decide) ?_
        exact lc_352 (w_fill hsh hJ _ _ _ _ (by omega)) hL hi hd (fun W2 c' l5 l6 a b e => hfin W2 c' l5 l6 _ (by decide) a (by omega) e)
      · refine am_e_tsw (off := 384) (tgt := 424) dd_121_40 (by decide) (by decide) (by decide) ?_
        exact lc_424 (w_run hsh hJ _ _ _ (by omega)) hL hi hd (fun W2 c' l5 l6 a b e => hfin W2 c' l5 l6 _ (by decide) a (by omega) e)
      · refine am_e_tsw (off := 464) (tgt := 504) dd_121_40 (by decide) (by decide) (by decide) ?_
        exact lc_504 (w_peek (K := 0) hsh hJ _) hL hi hd (fun W2 c' l5 l6 a b e => hfin W2 c' l5 l6 _ (by decide) a (by omega) e)
      · refine am_e_tsw (off := 520) (tgt := 560) dd_121_40 (by decide) (by decide) (by decide) ?_
        exact lc_560 (w_stored (K := 0) hJ _) hL hi hd (fun W2 c' l5 l6 a b e => hfin W2 c' l5 l6 _ (by decide) a (by omega) e)
      · refine am_e_tsw (off := 576) (tgt := 616) dd_121_40 (by decide) (by decide) (by decide) ?_
        exact lc_616 (w_flush hsh hJ _ (by omega) KKm) hL hi hd (fun W2 c' l5 l6 a b e => hfin W2 c' l5 l6 _ (by decide) a (by omega) e)
      · refine am_e_tsw (off := 632) (tgt := 672) dd_121_40 (by decide) (by decide) (by decide) ?_
        exact lc_672 (w_empty hsh hJ _ (by omega) KKm) hL hi hd (fun W2 c' l5 l6 a b e => hfin W2 c' l5 l6 _ (by decide) a (by omega) e)
      · refine am_e_tsw (off := 688) (tgt := 728) dd_121_40 (by decide) (by decide) (by decide) ?_
        exact lc_728 (w_crash hsh hJ) hd (fun W2 l5 l6 a e => hfin W2 c l5 l6 _ (by decide) a (by omega) e)
      · refine am_e_tsw (off := 701) (tgt := 741) dd_121_40 (by decide) (by decide) (by decide) ?_
        exact lc_741 (w_count (K := 0) hsh hJ _ _) hL hi hd (fun W2 c' l5 l6 a b e => hfin W2 c' l5 l6 _ (by decide) a (by omega) e)
      · refine am_e_tsw (off := 769) (tgt := 809) dd_121_40 (by decide) (by decide) (by decide) ?_
        exact lc_809 hJ hL hi hd (fun W2 l5 l6 a e => hfin W2 c l5 l6 _ (by decide) a (by omega) e)
      · refine am_e_tsw (off := 810) (tgt := 850) dd_121_40 (by decide) (by decide) (by decide) ?_
        exact lc_850 (w_line (K := 0) hsh hJ _ _ _) hL hi hd (fun W2 c' l5 l6 a b e => hfin W2 c' l5 l6 _ (by decide) a (by omega) e)
      · refine am_e_tsw (off := 890) (tgt := 930) dd_121_40 (by decide) (by decide) (by decide) ?_
        exact lc_930 (w_way (K := 0) hsh hJ _ _) hL hi hd (fun W2 c' l5 l6 a b e => hfin W2 c' l5 l6 _ (by decide) a (by omega) e)
      · refine am_e_tsw (off := 958) (tgt := 998) dd_121_40 (by decide) (by decide) (by decide) ?_
        exact lc_998 (w_dirty (K := 0) hsh hJ _ _) hL hi hd (fun W2 c' l5 l6 a b e => hfin W2 c' l5 l6 _ (by decide) a (by omega) e)
      · refine am_e_tsw (off := 1026) (tgt := 1066) dd_121_40 (by decide) (by decide) (by decide) ?_
        exact lc_1066 (w_next (K := 0) hsh hJ _ _) hL hi hd (fun W2 c' l5 l6 a b e => hfin W2 c' l5 l6 _ (by decide) a (by omega) e)
      · refine am_e_tsw (off := 1094) (tgt := 1134) dd_121_40 (by decide) (by decide) (by decide) ?_
        exact lc_1134 (w_tiers hJ) hd (fun W2 l5 l6 a e => hfin W2 c l5 l6 _ (by decide) a (by omega) e)
      · refine am_e_tsw (off := 1107) (tgt := 1147) dd_121_40 (by decide) (by decide) (by decide) ?_
        exact lc_1147 (w_astray hsh hJ) hd (fun W2 l5 l6 a e => hfin W2 c l5 l6 _ (by decide) a (by omega) e)
end WH
