-- one round of the law's loop: the calls with an answer
section WB
variable {sh : am_Sh} {c K : Nat} {W : am_M} {m1 m2 : Nat} {as1 as2 : List am_V}
def okc (sh : am_Sh) (m1 m2 : Nat) (as1 as2 : List am_V) (W : am_M) (c K : Nat) : Prop := ∃ r1 r2 W1 W2 c', am_cq sh 45 m1 W as1 (W1, Sum.inl (some (am_I r1))) ∧ am_cq sh 45 m2 W1 as2 (W2, Sum.inl (some (am_I r2))) ∧ W2 (20, 0, 0) 0 = r1 ∧ (r1 = 0 → lg_cmp (W2 (30, 0, 0) 0).toInt64 r2.toInt64 = 0) ∧ Jn sh c' W2 W2 ∧ c' ≤ c + K ∧ (∀ j, W1 (31, 0, 0) j = W (31, 0, 0) j) ∧ kp sh W W2
theorem okc_s (hJ : Jn sh c W W) {X' : am_M} {r : Int32} (hx : hix W X') (h1 : am_cq sh 45 m1 W as1 (am_up X' (30, 0, 0) 0 r, Sum.inl (some (am_I 0)))) (h2 : ∀ M, Jn sh c W M → ∃ c' M', am_cq sh 45 m2 M as2 (M', Sum.inl (some (am_I r))) ∧ Jn sh c' X' M' ∧ c' ≤ c + K ∧ mou M M' ∧ M' (20, 0, 0) 0 = 0 ∧ (prs sh W M → prs sh X' M')) : okc sh m1 m2 as1 as2 W c K := by
  have hJ1 : Jn sh c W (am_up X' (30, 0, 0) 0 r) := Jn_M hJ (fun k j q => by rw [am_up_k (fun e => by rw [e] at q; exact absurd q (by decide))]; exact hx k j (by omega))
  obtain ⟨c', W2, g1, g2, g3, g4, g5, g6⟩ := h2 _ hJ1
  refine ⟨0, r, _, W2, c', h1, g1, g5, fun _ => ?_, Jn_X g2 (fun k j q => ?_), g3, fun j => ?_, fun j => ?_, fun hp => prs_X (g6 (prs_M hp (fun k j q => ?_))) (fun k j q => ?_)⟩
  · rw [g4 (30, 0, 0) 0 (by simp) (by simp), am_up_same]
    exact lg_self _
  · rw [g4 k j (by omega) (by omega), am_up_k (fun e => by rw [e] at q; exact absurd q (by decide))]
  · rw [am_up_k (by simp)]; exact hx _ _ (by simp)
  · rw [g4 (31, 0, 0) j (by simp) (by simp), am_up_k (by simp)]; exact hx _ _ (by simp)
  · rw [am_up_k (fun e => by rw [e] at q; exact absurd q (by decide))]; exact hx k j (by omega)
  · rw [g4 k j (by omega) (by omega), am_up_k (fun e => by rw [e] at q; exact absurd q (by decide))]
theorem okc_q (hJ : Jn sh c W W) {r : Int32} (h1 : am_cq sh 45 m1 W as1 (am_up W (30, 0, 0) 0 r, Sum.inl (some (am_I 0)))) (h2 : ∀ M, Jn sh c W M → am_cq sh 45 m2 M as2 (am_up M (20, 0, 0) 0 0, Sum.inl (some (am_I r)))) : okc sh m1 m2 as1 as2 W c K :=
  okc_s hJ (fun _ _ _ => rfl) h1 (fun M hM => ⟨c, _, h2 M hM, Jn_code hM 0, by omega, mou_up (Or.inl rfl), am_up_same _ _ _ _, fun hp => prs_M hp (fun k j q => am_up_k (fun e => by rw [e] at q; exact absurd q (by decide)))⟩)
theorem okc_t (hJ : Jn sh c W W) {v r2 : Int32} (hv : ¬ v = 0) (h1 : am_cq sh 45 m1 W as1 (W, Sum.inl (some (am_I v)))) (h2 : am_cq sh 45 m2 W as2 (am_up W (20, 0, 0) 0 v, Sum.inl (some (am_I r2)))) : okc sh m1 m2 as1 as2 W c K :=
  ⟨v, r2, W, _, c, h1, h2, am_up_same _ _ _ _, fun e => absurd e hv, Jn_X (Jn_code hJ v) (fun k j q => am_up_k (fun e => by rw [e] at q; exact absurd q (by decide))), by omega, fun _ => rfl, fun j => am_up_k (by simp), fun hp => prs_X (prs_M hp (fun k j q => am_up_k (fun e => by rw [e] at q; exact absurd q (by decide)))) (fun k j q => am_up_k (fun e => by rw [e] at q; exact absurd q (by decide)))⟩
theorem cas (x : Int32) {n : Nat} (hn : n < 2 ^ 31) : bad x n ∨ ∃ w, w < n ∧ x = nI w := by
  rcases pk_ix x hn with h | h | h
  · exact Or.inl (Or.inl h)
  · exact Or.inl (Or.inr h)
  · exact Or.inr h
theorem w_read (hsh : shk sh) (hJ : Jn sh c W W) (x : Int32) (hc : c + KK sh.1 < 2 ^ 31) : okc sh 108 63 [clk, am_I x, outk] [mok, am_I x] W c (KK sh.1) := by
  rcases cas x (n := 1024) (by omega) with hb | ⟨w, hw, rfl⟩
  · exact okc_t hJ (v := 1) (by decide) (am_cq_of (k := 44) (Nat.le_of_ble_eq_true rfl) rfl rfl (fun d hd => sgc_108_3 (q_readT hb d (by omega)) rfl)) (am_cq_up (m_readT hb) (by omega))
  · refine okc_s hJ (rdw_ok hsh hJ.1 hw).2 (am_cq_of (k := 44) (Nat.le_of_ble_eq_true rfl) rfl rfl (fun d hd => sg_108_0 (q_read hsh hJ.1.1 hw d (by omega)) rfl)) (fun M hM => ?_)
    obtain ⟨c', M', g1, g2, g3, g4, g5⟩ := sim_mread hsh hM hw hc
    exact ⟨c', M', am_cq_up g1 (by omega), g2, g3, g4, g5, fun _ => prs_one (rdw_7 hsh hJ.1 hw)⟩
theorem m_run0 {span : Nat} (h1 : 1 ≤ span) (h2 : span ≤ 1024) {x : Int32} {M : am_M} : am_cq sh 8 90 M [mok, am_I x, am_I (nI 0), am_I (nI span)] (am_up M (20, 0, 0) 0 0, Sum.inl (some (am_I 0))) := by
  refine am_cq_of (Nat.le_of_ble_eq_true rfl) rfl rfl (fun d hd => ?_)
  have hi := m_in (sh := sh) (M := M) (x0 := nI 0) (x1 := 0) (x2 := 200) d (by omega)
  rw [show decide (¬ nI 0 < 0 ∧ ¬ (200 : Int32) < nI 0) = true from in_t (n := 200) (by omega) (by decide)] at hi
  have hi2 := m_in (sh := sh) (M := M) (x0 := nI span) (x1 := 1) (x2 := 1024) d (by omega)
  rw [show decide (¬ nI span < 1 ∧ ¬ (1024 : Int32) < nI span) = true from decide_eq_true ⟨nI_nlt (b := 1) h1 (by omega), nI_nlt (a := 1024) h2 (by omega)⟩] at hi2
  exact sg_90_0 hi (fun e => absurd e (by decide)) (fun _ => sg_90_12 hi2 (fun e => absurd e (by decide)) (fun _ => sg_90_23 (sg_90_28 (sg_90_40 (fun _ => sg_90_111 rfl) (fun h => absurd (nI_le (a := 0) (b := 0) (by omega) (by omega)) h)))))
theorem w_peek (hsh : shk sh) (hJ : Jn sh c W W) (x : Int32) : okc sh 112 91 [clk, am_I x, outk] [mok, am_I x] W c K := by
  rcases cas x (n := 1024) (by omega) with hb | ⟨w, hw, rfl⟩
  · exact okc_t hJ (v := 1) (by decide) (am_cq_of (k := 44) (Nat.le_of_ble_eq_true rfl) rfl rfl (fun d hd => sgc_112_3 (q_peekT hb d (by omega)) rfl)) (am_cq_up (m_peekT hb) (by omega))
  · exact okc_q hJ (am_cq_of (k := 44) (Nat.le_of_ble_eq_true rfl) rfl rfl (fun d hd => sg_112_0 (q_peek hsh hJ.1.1.1 hw d (by omega)) rfl)) (fun M hM => am_cq_up (m_peek hsh hM hw) (by omega))
theorem w_stored (hJ : Jn sh c W W) (x : Int32) : okc sh 113 93 [clk, am_I x, outk] [mok, am_I x] W c K := by
  rcases cas x (n := 1024) (by omega) with hb | ⟨w, hw, rfl⟩
  · exact okc_t hJ (v := 1) (by decide) (am_cq_of (k := 44) (Nat.le_of_ble_eq_true rfl) rfl rfl (fun d hd => sgc_113_3 (q_storedT hb d (by omega)) rfl)) (am_cq_up (m_storedT hb) (by omega))
  · exact okc_q hJ (am_cq_of (k := 44) (Nat.le_of_ble_eq_true rfl) rfl rfl (fun d hd => sg_113_0 (q_stored hw d (by omega)) rfl)) (fun M hM => am_cq_up (m_stored hM.2.2.1 hw) (by omega))
theorem w_run (hsh : shk sh) (hJ : Jn sh c W W) (x y z : Int32) (hc : c + 200 * KK sh.1 < 2 ^ 31) : okc sh 111 90 [clk, am_I x, am_I y, am_I z, outk] [mok, am_I x, am_I y, am_I z] W c (200 * KK sh.1) := by
  by_cases hb : (y < 0 ∨ 200 < y) ∨ z < 1 ∨ 1024 < z
  · obtain ⟨v, hv⟩ := m_runT (sh := sh) (M := W) (x := x) hb
    exact okc_t hJ (v := 1) (by decide) (am_cq_of (k := 44) (Nat.le_of_ble_eq_true rfl) rfl rfl (fun d hd => sgc_111_0 (q_runT hb d (by omega)) rfl)) (am_cq_up hv (by omega))
  · have le_to : ∀ {a b : Int32}, ¬ b < a → a ≤ b := fun {a b} h => by
      rw [Int32.le_iff_toInt_le]
      rw [Int32.lt_iff_toInt_lt] at h
      omega
    obtain ⟨n, hn, rfl⟩ : ∃ n : Nat, n ≤ 200 ∧ y = nI n := nI_of2 (M := 200) (n := 200) rfl (fun q => hb (Or.inl (Or.inl q))) (le_to (fun q => hb (Or.inl (Or.inr q))))
    obtain ⟨sp, hsp, rfl⟩ : ∃ n : Nat, n ≤ 1024 ∧ z = nI n := nI_of2 (M := 1024) (n := 1024) rfl (fun q => hb (Or.inr (Or.inl (by rw [Int32.lt_iff_toInt_lt] at q ⊢; exact Int.lt_trans q (by decide))))) (le_to (fun q => hb (Or.inr (Or.inr q))))
    have h1 : 1 ≤ sp := by
      refine Decidable.byContradiction fun q => hb (Or.inr (Or.inl ?_))
      exact nI_lt (b := 1) (by omega) (by omega)
    have hle : n * KK sh.1 ≤ 200 * KK sh.1 := Nat.mul_le_mul_right _ hn
    rcases Nat.eq_zero_or_pos n with rfl | hp1
    · exact okc_q hJ (r := 0) (am_cq_of (k := 44) (Nat.le_of_ble_eq_true rfl) rfl rfl (fun d hd => sg_111_0 (q_run hsh hJ.1.1 h1 hsp hn d (by omega)) rfl)) (fun M _ => am_cq_up (m_run0 h1 hsp) (by omega))
    refine okc_s hJ (runL_ok hsh h1 hsp n x 0 W hJ.1).2 (am_cq_of (k := 44) (Nat.le_of_ble_eq_true rfl) rfl rfl (fun d hd => sg_111_0 (q_run hsh hJ.1.1 h1 hsp hn d (by omega)) rfl)) (fun M hM => ?_)
    obtain ⟨c', M', g1, g2, g3, g4, g5⟩ := sim_mrun hsh hM h1 hsp hn (x := x) (by omega)
    exact ⟨c', M', am_cq_up g1 (by omega), g2, by omega, g4, g5, fun _ => prs_one (runL_7 hsh h1 hsp n x 0 W hJ.1 (Or.inl hp1))⟩
theorem w_flush (hsh : shk sh) (hJ : Jn sh c W W) (x : Int32) (hc : c + 64 * KK 4 < 2 ^ 31) (hK : ∀ n, n ≤ 4 → KK n ≤ KK 4) : okc sh 114 94 [clk, am_I x, outk] [mok, am_I x] W c (64 * KK 4) := by
  have h4 := hsh.1
  rcases cas x (n := sh.1) (by omega) with hb | ⟨t, ht, rfl⟩
  · exact okc_t hJ (v := 1) (by decide) (am_cq_of (k := 44) (Nat.le_of_ble_eq_true rfl) rfl rfl (fun d hd => sgc_114_3 (q_flushT hJ.1.1.1 hb d (by omega)) rfl)) (am_cq_up (m_flushT hsh hJ.2.2.1 hb) (by omega))
  · have hk := hK (sh.1 - (t + 1)) (by omega)
    refine okc_s hJ (fls_ok hsh ht _ _ W 0 hJ.1 (Nat.zero_add _)).2 (am_cq_of (k := 44) (Nat.le_of_ble_eq_true rfl) rfl rfl (fun d hd => sg_114_0 (q_flush hsh hJ.1.1 ht d (by omega)) rfl)) (fun M hM => ?_)
    obtain ⟨c', M', g1, g2, g3, g4, g5, g6⟩ := sim_mflush hsh hM ht (by omega)
    refine ⟨c', M', am_cq_up g1 (by omega), g2, by omega, g4, g5, fun hp h0 => ?_⟩
    have h7 : W (0, 0, 0) 7 = 0 := (fls_7 hsh ht _ _ W 0 hJ.1 (Nat.zero_add _)).symm.trans h0
    have hq := (hp h7).1 t ht
    have e1 : (fls sh t 0 (sh.2.1 t) W 0).1 = W := by rw [fls_elp (c' := 0), elp_none _ _ _ _ (fun i' _ b => hq i' (by omega))]
    rw [e1, g6 hq]
    exact prs_M hp (fun k j q => am_up_k (fun e => by rw [e] at q; exact absurd q (by decide))) h7
theorem w_empty (hsh : shk sh) (hJ : Jn sh c W W) (x : Int32) (hc : c + 64 * KK 4 < 2 ^ 31) (hK : ∀ n, n ≤ 4 → KK n ≤ KK 4) : okc sh 115 97 [clk, am_I x, outk] [mok, am_I x] W c (64 * KK 4) := by
  have h4 := hsh.1
  rcases cas x (n := sh.1) (by omega) with hb | ⟨t, ht, rfl⟩
  · exact okc_t hJ (v := 1) (by decide) (am_cq_of (k := 44) (Nat.le_of_ble_eq_true rfl) rfl rfl (fun d hd => sgc_115_3 (q_emptyT hJ.1.1.1 hb d (by omega)) rfl)) (am_cq_up (m_emptyT hsh hJ.2.2.1 hb) (by omega))
  · have hk := hK (sh.1 - (t + 1)) (by omega)
    refine okc_s hJ (emp_ok hsh ht _ _ W 0 hJ.1 (Nat.zero_add _)).2 (am_cq_of (k := 44) (Nat.le_of_ble_eq_true rfl) rfl rfl (fun d hd => sg_115_0 (q_empty hsh hJ.1.1 ht d (by omega)) rfl)) (fun M hM => ?_)
    obtain ⟨c', M', g1, g2, g3, g4, g5, g6⟩ := sim_mempty hsh hM ht (by omega)
    refine ⟨c', M', am_cq_up g1 (by omega), g2, by omega, g4, g5, fun hp h0 => ?_⟩
    have h7 : W (0, 0, 0) 7 = 0 := (emp_7 hsh ht _ _ W 0 hJ.1 (Nat.zero_add _)).symm.trans h0
    have hq := (hp h7).1 t ht
    have e1 : (emp sh t 0 (sh.2.1 t) W 0).1 = W := by rw [emp_elp, elp_none _ _ _ _ (fun i' _ b => hq i' (by omega))]
    rw [e1, g6 hq]
    exact prs_M hp (fun k j q => am_up_k (fun e => by rw [e] at q; exact absurd q (by decide))) h7
theorem w_count (hsh : shk sh) (hJ : Jn sh c W W) (x y : Int32) : okc sh 116 99 [clk, am_I x, am_I y, outk] [mok, am_I x, am_I y] W c K := by
  have h4 := hsh.1
  rcases cas x (n := sh.1) (by omega) with hb | ⟨t, ht, rfl⟩
  · exact okc_t hJ (v := 1) (by decide) (am_cq_of (k := 44) (Nat.le_of_ble_eq_true rfl) rfl rfl (fun d hd => sgc_116_3 (q_countT1 hJ.1.1.1 hb d (by omega)) rfl)) (am_cq_up (m_countT1 hsh hJ.2.2.1 hb) (by omega))
  · rcases cas y (n := 6) (by omega) with hb | ⟨j, hj, rfl⟩
    · exact okc_t hJ (v := 2) (by decide) (am_cq_of (k := 44) (Nat.le_of_ble_eq_true rfl) rfl rfl (fun d hd => sgc_116_0 (q_countT2 hsh hJ.1.1.1 ht hb d (by omega)) rfl)) (am_cq_up (m_countT2 hsh hJ.2.2.1 ht hb) (by omega))
    · exact okc_q hJ (am_cq_of (k := 44) (Nat.le_of_ble_eq_true rfl) rfl rfl (fun d hd => sg_116_0 (q_count hsh hJ.1.1.1 ht hj d (by omega)) rfl)) (fun M hM => am_cq_up (m_count hsh hM.2.2.1 ht hj) (by omega))
theorem w_way (hsh : shk sh) (hJ : Jn sh c W W) (x y : Int32) : okc sh 118 102 [clk, am_I x, am_I y, outk] [mok, am_I x, am_I y] W c K := by
  have h4 := hsh.1
  rcases cas x (n := sh.1) (by omega) with hb | ⟨t, ht, rfl⟩
  · exact okc_t hJ (v := 1) (by decide) (am_cq_of (k := 44) (Nat.le_of_ble_eq_true rfl) rfl rfl (fun d hd => sgc_118_3 (q_wayT1 hJ.1.1.1 hb d (by omega)) rfl)) (am_cq_up (m_wayT hsh hJ.2.2.1 (Or.inl hb)) (by omega))
  · rcases cas y (n := 256) (by omega) with hb | ⟨b, hb, rfl⟩
    · exact okc_t hJ (v := 1) (by decide) (am_cq_of (k := 44) (Nat.le_of_ble_eq_true rfl) rfl rfl (fun d hd => sgc_118_3 (q_wayT2 hsh hJ.1.1.1 ht hb d (by omega)) rfl)) (am_cq_up (m_wayT hsh hJ.2.2.1 (Or.inr ⟨t, ht, rfl, hb⟩)) (by omega))
    · exact okc_q hJ (am_cq_of (k := 44) (Nat.le_of_ble_eq_true rfl) rfl rfl (fun d hd => sg_118_0 (q_way hsh hJ.1.1.1 ht hb d (by omega)) rfl)) (fun M hM => am_cq_up (m_way hsh hM ht hb) (by omega))
theorem w_dirty (hsh : shk sh) (hJ : Jn sh c W W) (x y : Int32) : okc sh 119 103 [clk, am_I x, am_I y, outk] [mok, am_I x, am_I y] W c K := by
  have h4 := hsh.1
  rcases cas x (n := sh.1) (by omega) with hb | ⟨t, ht, rfl⟩
  · exact okc_t hJ (v := 1) (by decide) (am_cq_of (k := 44) (Nat.le_of_ble_eq_true rfl) rfl rfl (fun d hd => sgc_119_3 (q_dirtyT1 hJ.1.1.1 hb d (by omega)) rfl)) (am_cq_up (m_dirtyT hsh hJ.2.2.1 (Or.inl hb)) (by omega))
  · rcases cas y (n := 256) (by omega) with hb | ⟨b, hb, rfl⟩
    · exact okc_t hJ (v := 1) (by decide) (am_cq_of (k := 44) (Nat.le_of_ble_eq_true rfl) rfl rfl (fun d hd => sgc_119_3 (q_dirtyT2 hsh hJ.1.1.1 ht hb d (by omega)) rfl)) (am_cq_up (m_dirtyT hsh hJ.2.2.1 (Or.inr ⟨t, ht, rfl, hb⟩)) (by omega))
    · exact okc_q hJ (am_cq_of (k := 44) (Nat.le_of_ble_eq_true rfl) rfl rfl (fun d hd => sg_119_0 (q_dirty hsh hJ.1.1.1 ht hb d (by omega)) rfl)) (fun M hM => am_cq_up (m_dirty hsh hM ht hb) (by omega))
theorem w_next (hsh : shk sh) (hJ : Jn sh c W W) (x y : Int32) : okc sh 120 104 [clk, am_I x, am_I y, outk] [mok, am_I x, am_I y] W c K := by
  have h4 := hsh.1
  rcases cas x (n := sh.1) (by omega) with hb | ⟨t, ht, rfl⟩
  · exact okc_t hJ (v := 1) (by decide) (am_cq_of (k := 44) (Nat.le_of_ble_eq_true rfl) rfl rfl (fun d hd => sgc_120_3 (q_nextT1 hJ.1.1.1 hb d (by omega)) rfl)) (am_cq_up (m_nextT hsh hJ.2.2.1 (Or.inl hb)) (by omega))
  · have hz := zs_le hsh ht
    rcases cas y (n := zs sh t) (by omega) with hb | ⟨s, hs, rfl⟩
    · exact okc_t hJ (v := 1) (by decide) (am_cq_of (k := 44) (Nat.le_of_ble_eq_true rfl) rfl rfl (fun d hd => sgc_120_3 (q_nextT2 hsh hJ.1.1.1 ht hb d (by omega)) rfl)) (am_cq_up (m_nextT hsh hJ.2.2.1 (Or.inr ⟨t, ht, rfl, hb⟩)) (by omega))
    · exact okc_q hJ (am_cq_of (k := 44) (Nat.le_of_ble_eq_true rfl) rfl rfl (fun d hd => sg_120_0 (q_next hsh hJ.1.1 ht hs d (by omega)) rfl)) (fun M hM => am_cq_up (m_next hsh hM ht hs) (by omega))
theorem w_line (hsh : shk sh) (hJ : Jn sh c W W) (x y z : Int32) : okc sh 117 101 [clk, am_I x, am_I y, am_I z, outk] [mok, am_I x, am_I y, am_I z] W c K := by
  have h4 := hsh.1
  rcases cas x (n := sh.1) (by omega) with hb | ⟨t, ht, rfl⟩
  · exact okc_t hJ (v := 1) (by decide) (am_cq_of (k := 44) (Nat.le_of_ble_eq_true rfl) rfl rfl (fun d hd => sgc_117_3 (q_lineT1 hJ.1.1.1 hb d (by omega)) rfl)) (am_cq_up (m_lineT hsh hJ.2.2.1 (Or.inl hb)) (by omega))
  · have hz := zs_le hsh ht
    have hw5 := wy_lt hsh ht
    rcases cas y (n := zs sh t) (by omega) with hb | ⟨s, hs, rfl⟩
    · exact okc_t hJ (v := 1) (by decide) (am_cq_of (k := 44) (Nat.le_of_ble_eq_true rfl) rfl rfl (fun d hd => sgc_117_3 (q_lineT2 hsh hJ.1.1.1 ht hb d (by omega)) rfl)) (am_cq_up (m_lineT hsh hJ.2.2.1 (Or.inr ⟨t, ht, rfl, Or.inl hb⟩)) (by omega))
    · rcases cas z (n := wy sh t) (by omega) with hb | ⟨w, hw, rfl⟩
      · exact okc_t hJ (v := 1) (by decide) (am_cq_of (k := 44) (Nat.le_of_ble_eq_true rfl) rfl rfl (fun d hd => sgc_117_3 (q_lineT3 hsh hJ.1.1.1 ht hs hb d (by omega)) rfl)) (am_cq_up (m_lineT hsh hJ.2.2.1 (Or.inr ⟨t, ht, rfl, Or.inr ⟨s, hs, rfl, hb⟩⟩)) (by omega))
      · exact okc_q hJ (am_cq_of (k := 44) (Nat.le_of_ble_eq_true rfl) rfl rfl (fun d hd => sg_117_0 (q_line hsh hJ.1.1.1 ht hs hw d (by omega)) rfl)) (fun M hM => am_cq_up (m_line hsh hM.2.2.1 ht hs hw) (by omega))
end WB
