-- the reference's calls: read, write, run
section VA
variable {sh : am_Sh} {c : Nat} {X M M' M'' : am_M}
/-- what stands between calls -/
def Jn (sh : am_Sh) (c : Nat) (X M : am_M) : Prop := II sh X ∧ chk sh X ∧ rel sh c nol X M ∧ M (20, 0, 0) 23 = nI 0 ∧ ∀ k, k < 4 → M (21, 22, 0) k = X (4, 0, 0) k
/-- only the reference's own cells change -/
def mou (M M' : am_M) : Prop := ∀ k j, ¬ k.1 = 20 → ¬ k.1 = 21 → M' k j = M k j
theorem mou_refl : mou M M := fun _ _ _ _ => rfl
theorem mou_trans (h : mou M M') (h' : mou M' M'') : mou M M'' := fun k j a b => (h' k j a b).trans (h k j a b)
theorem mou_up {k : am_K} {j : Nat} {v : Int32} (hk : k.1 = 20 ∨ k.1 = 21) : mou M (am_up M k j v) := fun k' j' a b => am_up_k (fun e => by rw [e] at a b; omega)
theorem mou_mfm {t j : Nat} (h : mfm t j M M') : mou M M' := fun k i a b => h k i (Or.inr (Or.inr (Or.inr (Or.inr (Or.inr ⟨a, b⟩)))))
theorem mou_psh {j : Nat} {x1 x2 x3 x4 x5 : Int32} : mou M (mpsh M j x1 x2 x3 x4 x5) := mou_mfm (mfm_psh (t := 0) (j := 0) (Nat.zero_le _))
theorem g_lvh (hsh : shk sh) : gR sh 0 (lv sh sh.1).1 ∧ gW sh 0 (lv sh sh.1).2 := by
  have h := g_lv hsh sh.1 (Nat.le_refl _)
  rw [Nat.sub_self] at h
  exact h
theorem sim_lvh (hsh : shk sh) : SR sh 0 sh.1 (lv sh sh.1).1 ∧ SW sh 0 sh.1 (lv sh sh.1).2 := by
  have h := sim_lv hsh sh.1 (Nat.le_refl _)
  rw [Nat.sub_self] at h
  exact h
theorem kup0 {k : am_K} (h : ¬ k.1 = 10) : kup 0 k := fun e => absurd e h
theorem kab3 : kab sh X (3, 0, 0) := fun t s w _ _ _ e => by simp at e
theorem sim_readWord (hsh : shk sh) (hJ : Jn sh c X M) {w : Nat} (hw : w < 1024) (hc : c + KK sh.1 < 2 ^ 31) : ∃ c' M', am_cq sh 7 64 M [mok, am_I (nI w)] (M', Sum.inl (some (am_I (rdw sh w X (3, 0, 0) (w % 4))))) ∧ Jn sh c' (rdw sh w X) M' ∧ c' ≤ c + KK sh.1 ∧ mou M M' ∧ M' (20, 0, 0) 0 = M (20, 0, 0) 0 := by
  obtain ⟨hII, hch, hrel, h0, hg⟩ := hJ
  have h4 := hsh.1
  have hII1 : II sh (am_up X (0, 0, 0) 7 1) := II_up hII (by simp)
  have hch1 : chk sh (am_up X (0, 0, 0) 7 1) := chk_of hch (fun u => am_up_k (by simp))
  have hr1 := rel_begun hrel 1
  have hpt := mpsh_top (M := am_up M (20, 0, 0) 2 1) (j := 0) (x1 := 0) (x2 := nI 0) (x3 := nI (w / 4)) (x4 := 0) (x5 := 0)
  have hb : w / 4 < 256 := by omega
  obtain ⟨c', M', g1, g2, g3, g4, g5, g6⟩ := (sim_lvh hsh).1 c _ _ 0 (w / 4) (3, 0, 0) hII1 hch1 (rel_psh (j := 0) (x1 := 0) (x2 := nI 0) (x3 := nI (w / 4)) (x4 := 0) (x5 := 0) hr1) hb (Or.inl rfl) (kup0 (by simp)) kab3 (by omega) hc hpt.1 hpt.2.1 hpt.2.2.1 hpt.2.2.2.1 hpt.2.2.2.2.2.2
  obtain ⟨d1, d2, -⟩ := (g_lvh hsh).1 (am_up X (0, 0, 0) 7 1) (w / 4) (3, 0, 0) hII1 hb (Or.inl rfl) (kup0 (by simp))
  refine ⟨c', M', am_cq_of (Nat.le_of_ble_eq_true rfl) rfl rfl (fun d hd => sg_64_0 (j1 := w % 4) (M1 := mpsh (am_up M (20, 0, 0) 2 1) 0 0 (nI 0) (nI (w / 4)) 0 0) ?_ (m_workOff g1 g4 d hd) (pk_rem (d := 4) (by omega) (by omega) (by omega)) (by omega) ?_), ⟨d1, chk_cfr (by simp) hch1 d2, g2, g4, fun k hk => ?_⟩, g3, mou_trans (mou_up (Or.inl rfl)) (mou_trans mou_psh (mou_mfm g5)), ?_⟩
  · rw [show nI w / 4 = nI (w / 4) from pk_div (d := 4) (by omega) (by omega) (by omega)]
    exact m_push (j := 0) (by omega) (by rw [am_up_j (by decide)]; exact h0) d (by omega)
  · have := g6 (w % 4) (by omega)
    rw [show 4 * 0 + w % 4 = w % 4 by omega] at this
    rw [this]
    rfl
  · rw [g5 (21, 22, 0) k (Or.inr (Or.inl ⟨rfl, by omega⟩)), mpsh_else (by simp) (by simp; omega), am_up_k (by simp), hg k hk]
    show X (4, 0, 0) k = rdw sh w X (4, 0, 0) k
    unfold rdw
    rw [d2.1 (4, 0, 0) k (by unfold unch; simp) (by simp), am_up_k (by simp)]
  · rw [g5 (20, 0, 0) 0 (Or.inr (Or.inr (Or.inr (Or.inl ⟨rfl, rfl⟩)))), mpsh_else (by simp) (by simp), am_up_j (by decide)]
theorem shl4 : ∀ k : Fin 4, (1 : Int32) <<< (nI k.val &&& 31) = nI (2 ^ k.val) ∧ 2 ^ k.val < 16 := by decide +kernel
/-- one write of a block's words, from above -/
theorem sim_top (hsh : shk sh) (hJ : Jn sh c X M) {b m : Nat} (hb : b < 256) (hm : m < 16) (hc : c + KK sh.1 < 2 ^ 31) : ∃ c' M', am_cq sh 6 66 (mpsh M 0 1 (nI 0) (nI b) (nI m) 0) [mok] (M', Sum.inl none) ∧ Jn sh c' ((lv sh sh.1).2 b (nI m) (4, 0, 0) X) M' ∧ c' ≤ c + KK sh.1 ∧ mou M M' ∧ M' (20, 0, 0) 0 = M (20, 0, 0) 0 := by
  obtain ⟨hII, hch, hrel, h0, hg⟩ := hJ
  have h4 := hsh.1
  have hpt := mpsh_top (M := M) (j := 0) (x1 := 1) (x2 := nI 0) (x3 := nI b) (x4 := nI m) (x5 := 0)
  obtain ⟨c', M', g1, g2, g3, g4, g5⟩ := (sim_lvh hsh).2 c X _ 0 b m (4, 0, 0) hII hch (rel_psh (j := 0) (x1 := 1) (x2 := nI 0) (x3 := nI b) (x4 := nI m) (x5 := 0) hrel) hb hm (Or.inr (Or.inl rfl)) (kup0 (by simp)) (fun k hk => by rw [mpsh_else (by simp) (by simp; omega), show 4 * 0 + k = k by omega]; exact hg k hk) (by omega) hc hpt.1 hpt.2.1 hpt.2.2.1 hpt.2.2.2.1 hpt.2.2.2.2.1 hpt.2.2.2.2.2.2
  obtain ⟨d1, d2⟩ := (g_lvh hsh).2 X b m (4, 0, 0) hII hb hm (Or.inr (Or.inl rfl)) (kup0 (by simp))
  refine ⟨c', M', m_workOff g1 g4, ⟨d1, chk_cfr (by simp) hch d2, g2, g4, fun k hk => ?_⟩, g3, mou_trans mou_psh (mou_mfm g5), ?_⟩
  · rw [g5 (21, 22, 0) k (Or.inr (Or.inl ⟨rfl, by omega⟩)), mpsh_else (by simp) (by simp; omega), hg k hk, d2.1 (4, 0, 0) k (by unfold unch; simp) (by simp)]
  · rw [g5 (20, 0, 0) 0 (Or.inr (Or.inr (Or.inr (Or.inl ⟨rfl, rfl⟩)))), mpsh_else (by simp) (by simp)]
/-- a word given, on both sides -/
theorem Jn_give (hJ : Jn sh c X M) {k : Nat} (v : Int32) : Jn sh c (am_up X (4, 0, 0) k v) (am_up M (21, 22, 0) k v) := by
  obtain ⟨hII, hch, hrel, h0, hg⟩ := hJ
  refine ⟨II_up hII (by simp), chk_of hch (fun u => am_up_k (by simp)), rel_X (rel_up hrel (mv_no21 (by omega))) (fun k j q => am_up_k (fun e => by rw [e] at q; simp at q)) (fun t s w _ _ _ _ _ k _ => am_up_k (by simp)), by rw [am_up_k (by simp)]; exact h0, fun i hi => ?_⟩
  rw [am_up_a, am_up_a]
  by_cases e : i = k
  · rw [if_pos ⟨rfl, e⟩, if_pos ⟨rfl, e⟩]
  · rw [if_neg (fun r => e r.2), if_neg (fun r => e r.2)]; exact hg i hi
theorem Jn_begun (hJ : Jn sh c X M) : Jn sh c (am_up X (0, 0, 0) 7 1) (am_up M (20, 0, 0) 2 1) := by
  obtain ⟨hII, hch, hrel, h0, hg⟩ := hJ
  exact ⟨II_up hII (by simp), chk_of hch (fun u => am_up_k (by simp)), rel_begun hrel 1, by rw [am_up_j (by decide)]; exact h0, fun k hk => by rw [am_up_k (by simp), am_up_k (by simp)]; exact hg k hk⟩
theorem Jn_code (hJ : Jn sh c X M) (v : Int32) : Jn sh c X (am_up M (20, 0, 0) 0 v) := by
  obtain ⟨hII, hch, hrel, h0, hg⟩ := hJ
  exact ⟨hII, hch, rel_up hrel (mv_no20 (Or.inl rfl)), by rw [am_up_j (by decide)]; exact h0, fun k hk => by rw [am_up_k (by simp)]; exact hg k hk⟩
theorem sim_writeWord (hsh : shk sh) (hJ : Jn sh c X M) {w : Nat} (hw : w < 1024) {v : Int32} (hc : c + KK sh.1 < 2 ^ 31) : ∃ c' M', am_cq sh 7 88 M [mok, am_I (nI w), am_I v] (M', Sum.inl none) ∧ Jn sh c' (wrw sh w v X) M' ∧ c' ≤ c + KK sh.1 ∧ mou M M' ∧ M' (20, 0, 0) 0 = M (20, 0, 0) 0 := by
  have h0 := hJ.2.2.2.1
  have hs4 := shl4 ⟨w % 4, by omega⟩
  obtain ⟨c', M', g1, g2, g3, g4, g5⟩ := sim_top hsh (Jn_give (k := w % 4) (Jn_begun hJ) v) (show w / 4 < 256 by omega) hs4.2 hc
  have e : nI w - nI w / 4 * 4 = nI (w % 4) := pk_rem (d := 4) (by omega) (by omega) (by omega)
  refine ⟨c', M', am_cq_of (Nat.le_of_ble_eq_true rfl) rfl rfl (fun d hd => sg_88_0 (j1 := w % 4) (M1 := mpsh (am_up (am_up M (20, 0, 0) 2 1) (21, 22, 0) (w % 4) v) 0 1 (nI 0) (nI (w / 4)) (nI (2 ^ (w % 4))) 0) e (by omega) ?_ (g1 d hd) rfl), ?_, g3, mou_trans (mou_up (Or.inl rfl)) (mou_trans (mou_up (Or.inr rfl)) g4), ?_⟩
  · rw [e, hs4.1, show nI w / 4 = nI (w / 4) from pk_div (d := 4) (by omega) (by omega) (by omega)]
    exact m_push (j := 0) (by omega) (by rw [am_up_k (by simp), am_up_j (by decide)]; exact h0) d (by omega)
  · unfold wrw
    rw [hs4.1]
    exact g2
  · rw [g5, am_up_k (by simp), am_up_j (by decide)]
theorem m_in {x0 x1 x2 : Int32} : am_cq sh 1 62 M [am_I x0, am_I x1, am_I x2] (M, Sum.inl (some (am_I (b01 (decide (¬ x0 < x1 ∧ ¬ x2 < x0)))))) := by
  refine am_cq_of (Nat.le_of_ble_eq_true rfl) rfl rfl (fun d hd => sg_62_0 (fun h => sg_62_14 (sg_62_15 (Or.inl rfl) ?_)) (fun h => sg_62_5 (fun h2 => sg_62_14 (sg_62_15 (Or.inl rfl) ?_)) (fun h2 => sg_62_10 (sg_62_15 (Or.inr rfl) ?_))))
  · rw [decide_eq_false (fun q => q.1 h)]; rfl
  · rw [decide_eq_false (fun q => q.2 h2)]; rfl
  · rw [decide_eq_true ⟨h, h2⟩]; rfl
theorem in_t {w n : Nat} (h : w < n + 1) (hn : n < 2 ^ 30) : decide (¬ nI w < 0 ∧ ¬ nI n < nI w) = true := decide_eq_true ⟨nI_pos (by omega), nI_nlt (by omega) (by omega)⟩
theorem in_f {x : Int32} {n : Nat} (h : bad x (n + 1)) (hn : n < 2 ^ 30) : decide (¬ x < 0 ∧ ¬ nI n < x) = false := by
  refine decide_eq_false (fun q => ?_)
  rcases h with h | h
  · exact q.1 h
  · refine q.2 ?_
    rw [Int32.lt_iff_toInt_lt]
    rw [Int32.le_iff_toInt_le, nI_toInt (by omega)] at h
    rw [nI_toInt (by omega)]
    omega
theorem sim_mread (hsh : shk sh) (hJ : Jn sh c X M) {w : Nat} (hw : w < 1024) (hc : c + KK sh.1 < 2 ^ 31) : ∃ c' M', am_cq sh 8 63 M [mok, am_I (nI w)] (M', Sum.inl (some (am_I (rdw sh w X (3, 0, 0) (w % 4))))) ∧ Jn sh c' (rdw sh w X) M' ∧ c' ≤ c + KK sh.1 ∧ mou M M' ∧ M' (20, 0, 0) 0 = 0 := by
  obtain ⟨c', M', g1, g2, g3, g4, g5⟩ := sim_readWord hsh (Jn_code hJ 0) hw hc
  refine ⟨c', M', am_cq_of (Nat.le_of_ble_eq_true rfl) rfl rfl (fun d hd => ?_), g2, g3, mou_trans (mou_up (Or.inl rfl)) g4, by rw [g5, am_up_same]⟩
  have hi := m_in (sh := sh) (M := M) (x0 := nI w) (x1 := 0) (x2 := 1023) d (by omega)
  rw [show decide (¬ nI w < 0 ∧ ¬ (1023 : Int32) < nI w) = true from in_t (n := 1023) hw (by decide)] at hi
  exact sg_63_0 hi (fun e => absurd e (by decide)) (fun _ => sg_63_12 (sg_63_17 (fun _ => sg_63_31 (g1 d hd) (sg_63_36 rfl)) (fun e => absurd (by rw [am_up_same]; decide) e)))
theorem m_readT {x : Int32} (hx : bad x 1024) : am_cq sh 8 63 M [mok, am_I x] (am_up M (20, 0, 0) 0 1, Sum.inl (some (am_I 0))) := by
  refine am_cq_of (Nat.le_of_ble_eq_true rfl) rfl rfl (fun d hd => ?_)
  have hi := m_in (sh := sh) (M := M) (x0 := x) (x1 := 0) (x2 := 1023) d (by omega)
  rw [show decide (¬ x < 0 ∧ ¬ (1023 : Int32) < x) = false from in_f (n := 1023) hx (by decide)] at hi
  exact sg_63_0 hi (fun _ => sg_63_16 (sg_63_17 (fun e => by rw [am_up_same] at e; exact absurd e (by decide)) (fun _ => sg_63_27 (sg_63_36 rfl)))) (fun e => absurd rfl e)
theorem sim_mwrite (hsh : shk sh) (hJ : Jn sh c X M) {w : Nat} (hw : w < 1024) {v : Int32} (hc : c + KK sh.1 < 2 ^ 31) : ∃ c' M', am_cq sh 8 87 M [mok, am_I (nI w), am_I v] (M', Sum.inl none) ∧ Jn sh c' (wrw sh w v X) M' ∧ c' ≤ c + KK sh.1 ∧ mou M M' ∧ M' (20, 0, 0) 0 = 0 := by
  obtain ⟨c', M', g1, g2, g3, g4, g5⟩ := sim_writeWord hsh (Jn_code hJ 0) hw (v := v) hc
  refine ⟨c', M', am_cq_of (Nat.le_of_ble_eq_true rfl) rfl rfl (fun d hd => ?_), g2, g3, mou_trans (mou_up (Or.inl rfl)) g4, by rw [g5, am_up_same]⟩
  have hi := m_in (sh := sh) (M := M) (x0 := nI w) (x1 := 0) (x2 := 1023) d (by omega)
  rw [show decide (¬ nI w < 0 ∧ ¬ (1023 : Int32) < nI w) = true from in_t (n := 1023) hw (by decide)] at hi
  exact sg_87_0 hi (fun e => absurd e (by decide)) (fun _ => sg_87_12 (sg_87_17 (fun e => absurd (am_up_same _ _ _ _) e) (fun _ => sg_87_27 (g1 d hd) (sg_87_33 rfl))))
theorem m_writeT {x v : Int32} (hx : bad x 1024) : am_cq sh 8 87 M [mok, am_I x, am_I v] (am_up M (20, 0, 0) 0 1, Sum.inl none) := by
  refine am_cq_of (Nat.le_of_ble_eq_true rfl) rfl rfl (fun d hd => ?_)
  have hi := m_in (sh := sh) (M := M) (x0 := x) (x1 := 0) (x2 := 1023) d (by omega)
  rw [show decide (¬ x < 0 ∧ ¬ (1023 : Int32) < x) = false from in_f (n := 1023) hx (by decide)] at hi
  exact sg_87_0 hi (fun _ => sg_87_16 (sg_87_17 (fun _ => sg_87_33 rfl) (fun e => by rw [am_up_same] at e; exact absurd e (by decide)))) (fun e => absurd rfl e)
-- run
theorem nxt_comm (x : Int32) : (1103515245 : Int32) * x + 12345 = nxtx x := by unfold nxtx; rw [Int32.mul_comm]
theorem sim_runL (hsh : shk sh) {span n : Nat} (h1 : 1 ≤ span) (h2 : span ≤ 1024) (hn : n ≤ 200) {x1 : Int32} : ∀ (k i : Nat) (x sum : Int32) (X M : am_M) (c : Nat), Jn sh c X M → i + k = n → c + k * KK sh.1 < 2 ^ 31 → M (20, 0, 0) 0 = 0 → ∃ c' M', (∀ d, 7 ≤ d → ∀ u7, am_ev sh (am_cr sh d) 90 (40, [some mok, some (am_I x1), some (am_I (nI n)), some (am_I (nI span)), some (am_I x), some (am_I sum), some (am_I (nI i)), u7], [], M, 0) (fun r => r = Sum.inr (M', Sum.inl (some (am_I (runL sh span k x sum X).2))))) ∧ Jn sh c' (runL sh span k x sum X).1 M' ∧ c' ≤ c + k * KK sh.1 ∧ mou M M' ∧ M' (20, 0, 0) 0 = 0 := by
  intro k
  induction k with
  | zero =>
    intro i x sum X M c hJ hi hc h0
    exact ⟨c, M, fun d hd u7 => sg_90_40 (fun _ => sg_90_111 rfl) (fun h => absurd (nI_le (by omega) (by omega)) h), hJ, by omega, mou_refl, h0⟩
  | succ k ih =>
    intro i x sum X M c hJ hi hc h0
    obtain ⟨e, hlt⟩ := rword_eq h1 h2 (nxtx x)
    have hkk : (k + 1) * KK sh.1 = k * KK sh.1 + KK sh.1 := Nat.succ_mul _ _
    by_cases h' : shr20 (nxtx x) - shr20 (nxtx x) / 4 * 4 = 0
    · obtain ⟨c1, M1, g1, g2, g3, g4, g5⟩ := sim_writeWord hsh hJ hlt (v := nxtx x) (by omega)
      obtain ⟨c2, M2, i1, i2, i3, i4, i5⟩ := ih (i + 1) (nxtx x) sum (wrw sh (rword span (nxtx x)) (nxtx x) X) M1 c1 g2 (by omega) (by omega) (g5.trans h0)
      have er : runL sh span (k + 1) x sum X = runL sh span k (nxtx x) sum (wrw sh (rword span (nxtx x)) (nxtx x) X) := by rw [runL, if_pos h']
      rw [er]
      refine ⟨c2, M2, fun d hd u7 => sg_90_40 (fun h => absurd h (nI_ge (by omega) (by omega))) (fun _ => sg_90_46 (fun h => absurd h0 h) (fun _ => sg_90_53 (nI_ne0 (by omega) (by omega)) (fun h => absurd ?_ h) (fun h => ?_))), i2, by omega, mou_trans g4 i4, i5⟩
      · rw [nxt_comm]; exact h'
      · rw [nxt_comm]
        show am_ev sh (am_cr sh d) 90 (83, [some mok, some (am_I x1), some (am_I (nI n)), some (am_I (nI span)), some (am_I (nxtx x)), some (am_I sum), some (am_I (nI i)), some (am_I (shr8 (nxtx x) - shr8 (nxtx x) / nI span * nI span))], [], M, 0) _
        rw [e]
        refine sg_90_83 (g1 d hd) (sg_90_105 ?_)
        rw [nI_1]
        exact i1 d hd _
    · obtain ⟨c1, M1, g1, g2, g3, g4, g5⟩ := sim_readWord hsh hJ hlt (by omega)
      obtain ⟨c2, M2, i1, i2, i3, i4, i5⟩ := ih (i + 1) (nxtx x) (sum + rdw sh (rword span (nxtx x)) X (3, 0, 0) (rword span (nxtx x) % 4)) (rdw sh (rword span (nxtx x)) X) M1 c1 g2 (by omega) (by omega) (g5.trans h0)
      have er : runL sh span (k + 1) x sum X = runL sh span k (nxtx x) (sum + rdw sh (rword span (nxtx x)) X (3, 0, 0) (rword span (nxtx x) % 4)) (rdw sh (rword span (nxtx x)) X) := by rw [runL, if_neg h']
      rw [er]
      refine ⟨c2, M2, fun d hd u7 => sg_90_40 (fun h => absurd h (nI_ge (by omega) (by omega))) (fun _ => sg_90_46 (fun h => absurd h0 h) (fun _ => sg_90_53 (nI_ne0 (by omega) (by omega)) (fun h => ?_) (fun h => absurd ?_ h'))), i2, by omega, mou_trans g4 i4, i5⟩
      · rw [nxt_comm]
        show am_ev sh (am_cr sh d) 90 (94, [some mok, some (am_I x1), some (am_I (nI n)), some (am_I (nI span)), some (am_I (nxtx x)), some (am_I sum), some (am_I (nI i)), some (am_I (shr8 (nxtx x) - shr8 (nxtx x) / nI span * nI span))], [], M, 0) _
        rw [e]
        refine sg_90_94 (g1 d hd) (sg_90_105 ?_)
        rw [nI_1]
        exact i1 d hd _
      · rw [nxt_comm] at h; exact h
theorem sim_mrun (hsh : shk sh) (hJ : Jn sh c X M) {span n : Nat} (h1 : 1 ≤ span) (h2 : span ≤ 1024) (hn : n ≤ 200) {x : Int32} (hc : c + n * KK sh.1 < 2 ^ 31) : ∃ c' M', am_cq sh 8 90 M [mok, am_I x, am_I (nI n), am_I (nI span)] (M', Sum.inl (some (am_I (runL sh span n x 0 X).2))) ∧ Jn sh c' (runL sh span n x 0 X).1 M' ∧ c' ≤ c + n * KK sh.1 ∧ mou M M' ∧ M' (20, 0, 0) 0 = 0 := by
  obtain ⟨c', M', g1, g2, g3, g4, g5⟩ := sim_runL hsh h1 h2 hn (x1 := x) n 0 x 0 X (am_up M (20, 0, 0) 0 0) c (Jn_code hJ 0) (Nat.zero_add _) hc (am_up_same _ _ _ _)
  refine ⟨c', M', am_cq_of (Nat.le_of_ble_eq_true rfl) rfl rfl (fun d hd => ?_), g2, g3, mou_trans (mou_up (Or.inl rfl)) g4, g5⟩
  have hi := m_in (sh := sh) (M := M) (x0 := nI n) (x1 := 0) (x2 := 200) d (by omega)
  rw [show decide (¬ nI n < 0 ∧ ¬ (200 : Int32) < nI n) = true from in_t (n := 200) (by omega) (by decide)] at hi
  have hi2 := m_in (sh := sh) (M := M) (x0 := nI span) (x1 := 1) (x2 := 1024) d (by omega)
  rw [show decide (¬ nI span < 1 ∧ ¬ (1024 : Int32) < nI span) = true from decide_eq_true ⟨nI_nlt (b := 1) h1 (by omega), nI_nlt (a := 1024) h2 (by omega)⟩] at hi2
  exact sg_90_0 hi (fun e => absurd e (by decide)) (fun _ => sg_90_12 hi2 (fun e => absurd e (by decide)) (fun _ => sg_90_23 (sg_90_28 (g1 d (by omega) none))))
end VA
