-- one round of the law's loop: write, fill, crash, traffic, tiers, astray
section WC
variable {sh : am_Sh} {c K : Nat} {W : am_M} {m1 m2 : Nat} {as1 as2 : List am_V}
theorem filL_ok (hsh : shk sh) {w e : Nat} {v st : Int32} : ∀ (k b : Nat) (X : am_M), II sh X → b + k ≤ 256 → II sh (filL sh w e v st b k X) ∧ hix X (filL sh w e v st b k X) ∧ filL sh w e v st b k X (0, 0, 0) 7 = X (0, 0, 0) 7 := by
  have h4 : ∀ (b k i m : Nat) (X : am_M), i + k = 4 → m < 16 → II sh X → ∃ m', m' < 16 ∧ (fl4 w e v st b i k (nI m) X).1 = nI m' ∧ II sh (fl4 w e v st b i k (nI m) X).2 ∧ hix X (fl4 w e v st b i k (nI m) X).2 ∧ (fl4 w e v st b i k (nI m) X).2 (0, 0, 0) 7 = X (0, 0, 0) 7 := by
    intro b k
    induction k with
    | zero => exact fun i m X _ hm h => ⟨m, hm, rfl, h, fun _ _ _ => rfl, rfl⟩
    | succ k ih =>
      intro i m X hi hm hII
      unfold fl4
      split
      · have hs4 := shl4 ⟨i, by omega⟩
        have ho := or16 ⟨m, hm⟩ ⟨2 ^ i, hs4.2⟩
        rw [hs4.1, ho.1]
        obtain ⟨m', a1, a2, a3, a4, a5⟩ := ih (i + 1) (m ||| 2 ^ i) (am_up X (4, 0, 0) i (v + (nI (b * 4 + i) - nI w) * st)) (by omega) ho.2 (II_up hII (by simp))
        exact ⟨m', a1, a2, a3, hix_trans (hix_up (by simp)) a4, a5.trans (am_up_k (by simp))⟩
      · exact ih (i + 1) m X (by omega) hm hII
  intro k
  induction k with
  | zero => exact fun _ _ h _ => ⟨h, fun _ _ _ => rfl, rfl⟩
  | succ k ih =>
    intro b X hII hb
    obtain ⟨m', a1, a2, a3, a4, a5⟩ := h4 b 4 0 0 X rfl (by decide) hII
    have a2' : (fl4 w e v st b 0 4 0 X).1 = nI m' := a2
    have hB : II sh (filB sh w e v st b X) ∧ hix X (filB sh w e v st b X) ∧ filB sh w e v st b X (0, 0, 0) 7 = X (0, 0, 0) 7 := by
      unfold filB
      rw [a2']
      obtain ⟨d1, d2⟩ := (g_lvh hsh).2 (fl4 w e v st b 0 4 0 X).2 b m' (4, 0, 0) a3 (by omega) a1 (Or.inr (Or.inl rfl)) (kup0 (by simp))
      exact ⟨d1, hix_trans a4 (hix_cfr d2 (by simp)), (cfr_7 d2 (by simp)).trans a5⟩
    obtain ⟨b1, b2, b3⟩ := ih (b + 1) _ hB.1 (by omega)
    exact ⟨b1, hix_trans hB.2.1 b2, b3.trans hB.2.2⟩
def okw (sh : am_Sh) (m1 m2 : Nat) (as1 as2 : List am_V) (W : am_M) (c K : Nat) : Prop := ∃ r1 W1 W2 c', am_cq sh 45 m1 W as1 (W1, Sum.inl (some (am_I r1))) ∧ am_cq sh 45 m2 W1 as2 (W2, Sum.inl none) ∧ W2 (20, 0, 0) 0 = r1 ∧ Jn sh c' W2 W2 ∧ c' ≤ c + K ∧ (∀ j, W1 (31, 0, 0) j = W (31, 0, 0) j) ∧ kp sh W W2
theorem okw_s (hJ : Jn sh c W W) {X' : am_M} (hx : hix W X') (h1 : am_cq sh 45 m1 W as1 (X', Sum.inl (some (am_I 0)))) (h2 : ∀ M, Jn sh c W M → ∃ c' M', am_cq sh 45 m2 M as2 (M', Sum.inl none) ∧ Jn sh c' X' M' ∧ c' ≤ c + K ∧ mou M M' ∧ M' (20, 0, 0) 0 = 0 ∧ (prs sh W M → prs sh X' M')) : okw sh m1 m2 as1 as2 W c K := by
  have hJ1 : Jn sh c W X' := Jn_M hJ (fun k j q => hx k j (by omega))
  obtain ⟨c', W2, g1, g2, g3, g4, g5, g6⟩ := h2 _ hJ1
  exact ⟨0, X', W2, c', h1, g1, g5, Jn_X g2 (fun k j q => g4 k j (by omega) (by omega)), g3, fun j => hx _ _ (by simp), fun j => (g4 (31, 0, 0) j (by simp) (by simp)).trans (hx _ _ (by simp)), fun hp => prs_X (g6 (prs_M hp (fun k j q => hx k j (by omega)))) (fun k j q => g4 k j (by omega) (by omega))⟩
theorem okw_t (hJ : Jn sh c W W) {v : Int32} (h1 : am_cq sh 45 m1 W as1 (W, Sum.inl (some (am_I v)))) (h2 : am_cq sh 45 m2 W as2 (am_up W (20, 0, 0) 0 v, Sum.inl none)) : okw sh m1 m2 as1 as2 W c K :=
  ⟨v, W, _, c, h1, h2, am_up_same _ _ _ _, Jn_X (Jn_code hJ v) (fun k j q => am_up_k (fun e => by rw [e] at q; exact absurd q (by decide))), by omega, fun _ => rfl, fun j => am_up_k (by simp), fun hp => prs_X (prs_M hp (fun k j q => am_up_k (fun e => by rw [e] at q; exact absurd q (by decide)))) (fun k j q => am_up_k (fun e => by rw [e] at q; exact absurd q (by decide)))⟩
theorem w_write (hsh : shk sh) (hJ : Jn sh c W W) (x y : Int32) (hc : c + KK sh.1 < 2 ^ 31) : okw sh 109 87 [clk, am_I x, am_I y] [mok, am_I x, am_I y] W c (KK sh.1) := by
  rcases cas x (n := 1024) (by omega) with hb | ⟨w, hw, rfl⟩
  · exact okw_t hJ (v := 1) (am_cq_of (k := 44) (Nat.le_of_ble_eq_true rfl) rfl rfl (fun d hd => sgc_109_3 (q_writeT hb d (by omega)) rfl)) (am_cq_up (m_writeT hb) (by omega))
  · refine okw_s hJ (wrw_ok hsh hJ.1 hw).2 (am_cq_of (k := 44) (Nat.le_of_ble_eq_true rfl) rfl rfl (fun d hd => sg_109_0 (q_write hsh hJ.1.1 hw d (by omega)) rfl)) (fun M hM => ?_)
    obtain ⟨c', M', g1, g2, g3, g4, g5⟩ := sim_mwrite hsh hM hw (v := y) hc
    exact ⟨c', M', am_cq_up g1 (by omega), g2, g3, g4, g5, fun _ => prs_one (wrw_7 hsh hJ.1 hw)⟩
theorem w_fill (hsh : shk sh) (hJ : Jn sh c W W) (x y z u : Int32) (hc : c + 256 * KK sh.1 < 2 ^ 31) : okw sh 110 89 [clk, am_I x, am_I y, am_I z, am_I u] [mok, am_I x, am_I y, am_I z, am_I u] W c (256 * KK sh.1) := by
  by_cases h1 : y < 1
  · exact okw_t hJ (v := 1) (am_cq_of (k := 44) (Nat.le_of_ble_eq_true rfl) rfl rfl (fun d hd => sgc_110_0 (q_fillT1 h1 d (by omega)) rfl)) (am_cq_up (m_fillT1 h1) (by omega))
  · rcases cas x (n := 1024) (by omega) with hb | ⟨w, hw, rfl⟩
    · exact okw_t hJ (v := 2) (am_cq_of (k := 44) (Nat.le_of_ble_eq_true rfl) rfl rfl (fun d hd => sgc_110_3 (q_fillT2 h1 hb d (by omega)) rfl)) (am_cq_up (m_fillT2 h1 (Or.inl hb)) (by omega))
    · by_cases h2 : nI (1024 - w) < y
      · exact okw_t hJ (v := 2) (am_cq_of (k := 44) (Nat.le_of_ble_eq_true rfl) rfl rfl (fun d hd => sgc_110_3 (q_fillT3 hw h1 h2 d (by omega)) rfl)) (am_cq_up (m_fillT2 h1 (Or.inr ⟨w, hw, rfl, h2⟩)) (by omega))
      · obtain ⟨n, hn, rfl⟩ : ∃ n : Nat, n ≤ 1024 - w ∧ y = nI n := nI_of2 (M := nI (1024 - w)) (n := 1024 - w) (nI_toInt (by omega)) (fun q => h1 (by rw [Int32.lt_iff_toInt_lt] at q ⊢; exact Int.lt_trans q (by decide))) (by
          rw [Int32.le_iff_toInt_le]
          rw [Int32.lt_iff_toInt_lt] at h2
          omega)
        have hn1 : 1 ≤ n := by
          refine Decidable.byContradiction fun q => h1 ?_
          exact nI_lt (b := 1) (by omega) (by omega)
        refine okw_s hJ (hix_trans (hix_up (by simp)) (filL_ok hsh _ _ _ (II_up hJ.1 (by simp)) (by omega)).2.1) (am_cq_of (k := 44) (Nat.le_of_ble_eq_true rfl) rfl rfl (fun d hd => sg_110_0 (q_fill hsh hJ.1.1 hw hn1 (by omega) d (by omega)) rfl)) (fun M hM => ?_)
        obtain ⟨c', M', g1, g2, g3, g4, g5⟩ := sim_mfill hsh hM (v := z) (st := u) hw hn1 (by omega) hc
        exact ⟨c', M', am_cq_up g1 (by omega), g2, g3, g4, g5, fun _ => prs_one ((filL_ok hsh _ _ _ (II_up hJ.1 (by simp)) (by omega)).2.2.trans (am_up_same _ _ _ _))⟩
/-- calls that throw nothing: the two answers are one -/
def okd (sh : am_Sh) (m1 m2 : Nat) (as1 as2 : List am_V) (W : am_M) (c : Nat) : Prop := ∃ r W1 W2, am_cq sh 45 m1 W as1 (W1, Sum.inl (some (am_I r))) ∧ am_cq sh 45 m2 W1 as2 (W2, Sum.inl (some (am_I r))) ∧ Jn sh c W2 W2 ∧ (∀ j, W1 (31, 0, 0) j = W (31, 0, 0) j) ∧ kp sh W W2
theorem okd_q (hJ : Jn sh c W W) {r : Int32} (h1 : am_cq sh 45 m1 W as1 (W, Sum.inl (some (am_I r)))) (h2 : am_cq sh 45 m2 W as2 (am_up W (20, 0, 0) 0 0, Sum.inl (some (am_I r)))) : okd sh m1 m2 as1 as2 W c :=
  ⟨r, W, _, h1, h2, Jn_X (Jn_code hJ 0) (fun k j q => am_up_k (fun e => by rw [e] at q; exact absurd q (by decide))), fun _ => rfl, fun j => am_up_k (by simp), fun hp => prs_X (prs_M hp (fun k j q => am_up_k (fun e => by rw [e] at q; exact absurd q (by decide)))) (fun k j q => am_up_k (fun e => by rw [e] at q; exact absurd q (by decide)))⟩
theorem w_traffic (hJ : Jn sh c W W) (x : Int32) : okd sh 20 100 [clk, am_I x] [mok, am_I x] W c := okd_q hJ (am_cq_up q_traffic (by omega)) (am_cq_up (m_traffic hJ.2.2.1) (by omega))
theorem w_tiers (hJ : Jn sh c W W) : okd sh 21 105 [clk] [mok] W c := by
  refine okd_q hJ (am_cq_up q_tiers (by omega)) ?_
  rw [hJ.1.1.1.1]
  exact am_cq_up (m_tiers hJ.2.2.1) (by omega)
theorem w_astray (hsh : shk sh) (hJ : Jn sh c W W) : okd sh 22 106 [clk] [mok] W c := okd_q hJ (am_cq_up (q_astray hsh hJ.1.1 (II_right hsh hJ.1)) (by omega)) (am_cq_up m_astray (by omega))
theorem w_crash (hsh : shk sh) (hJ : Jn sh c W W) : okd sh 17 98 [clk] [mok] W c := by
  have hJ1 : Jn sh c W (losA sh 0 sh.1 W) := Jn_M hJ (fun k j q => losA_hix k j (by omega))
  obtain ⟨h1, h2⟩ := Jn_crash hsh hJ1
  refine ⟨_, _, _, am_cq_up (q_crash hsh hJ.1.1.1) (by omega), am_cq_up (m_crash hsh hJ1) (by omega), Jn_X h1 (fun k j q => h2 k j (by omega) (by omega)), fun j => losA_hix _ _ (by simp), fun j => (h2 (31, 0, 0) j (by simp) (by simp)).trans (losA_hix _ _ (by simp)), fun hp h0 => ?_⟩
  have h7 : W (0, 0, 0) 7 = 0 := by
    rw [h2 (0, 0, 0) 7 (by simp) (by simp), losA_else (by simp) (by simp)] at h0
    exact h0
  obtain ⟨a1, a2, a3, a4⟩ := hp h7
  refine ⟨fun t ht i hi => ?_, fun j _ hj => ?_, fun j p q => ?_, fun j _ hj => ?_⟩
  · rw [h2 (9, t, i) 1 (by simp) (by simp)]
    exact ((losA_at (sh := sh) sh.1 0 W t (Nat.zero_le _) (by omega)).1 i hi).1
  · unfold mcr
    rw [mhz_else (by simp)]
    exact mcl_at _ _ _ _ (Nat.zero_le _) (by omega)
  · rw [mcr_else (by simp) (by simp) (by simp) (by simp) (by simp) (by simp), losA_else (by simp) (by simp)]
    exact a3 j p q
  · exact mhz_at _ _ _ _ (Nat.zero_le _) (by omega)
end WC
