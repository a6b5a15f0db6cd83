-- fill
section VF
variable {sh : am_Sh} {c : Nat} {X M : am_M}
theorem fl4_past {w e : Nat} {v st : Int32} {b : Nat} : ∀ (k i : Nat) (bits : Int32) (X : am_M), e < b * 4 + i → fl4 w e v st b i k bits X = (bits, X) := by
  intro k
  induction k with
  | zero => exact fun _ _ _ _ => rfl
  | succ k ih =>
    intro i bits X h
    unfold fl4
    rw [if_neg (by omega)]
    exact ih _ _ _ (by omega)
theorem fl4_front {w e : Nat} {v st : Int32} {b : Nat} : ∀ (k i k' : Nat) (bits : Int32) (X : am_M), b * 4 + i + k ≤ w → fl4 w e v st b i (k + k') bits X = fl4 w e v st b (i + k) k' bits X := by
  intro k
  induction k with
  | zero => intro i k' bits X _; rw [Nat.zero_add]; rfl
  | succ k ih =>
    intro i k' bits X h
    rw [show k + 1 + k' = (k + k') + 1 by omega, fl4, if_neg (by omega), ih _ _ _ _ (by omega), show i + 1 + k = i + (k + 1) by omega]
theorem fi_in {w n : Nat} {v st : Int32} {b : Nat} (hn : 1 ≤ n) (hwn : w + n ≤ 1024) (hb : b < 256) {x6 : Int32} (hx6 : x6 = nI b) : ∀ (k i m : Nat) (X M : am_M), i + k = 4 → (k = 0 ∨ w ≤ b * 4 + i) → m < 16 → Jn sh c X M → ∃ m' M' a', m' < 16 ∧ (fl4 w (w + n - 1) v st b i k (nI m) X).1 = nI m' ∧ Jn sh c (fl4 w (w + n - 1) v st b i k (nI m) X).2 M' ∧ mou M M' ∧ M' (20, 0, 0) 0 = M (20, 0, 0) 0 ∧ (b * 4 + i ≤ w + n → a' = min (w + n) (b * 4 + 4)) ∧ ∀ d (P : am_S ⊕ am_O → Prop), b * 4 + i ≤ w + n → am_ev sh (am_cr sh d) 89 (123, [some mok, some (am_I (nI w)), some (am_I (nI n)), some (am_I v), some (am_I st), some (am_I (nI a')), some (am_I x6), some (am_I (nI m'))], [], M', 0) P → am_ev sh (am_cr sh d) 89 (71, [some mok, some (am_I (nI w)), some (am_I (nI n)), some (am_I v), some (am_I st), some (am_I (nI (b * 4 + i))), some (am_I x6), some (am_I (nI m))], [], M, 0) P := by
  intro k
  subst hx6
  induction k with
  | zero =>
    intro i m X M hi _ hm hJ
    have : i = 4 := by omega
    subst this
    refine ⟨m, M, min (w + n) (b * 4 + 4), hm, rfl, hJ, mou_refl, rfl, fun _ => rfl, fun d P hle hP => sg_89_71 (fun e => ?_) (fun e => sg_89_79 (fun _ => ?_) (fun q => ?_))⟩
    · rw [show b * 4 + 4 = min (w + n) (b * 4 + 4) by omega]; exact hP
    · rw [show b * 4 + 4 = min (w + n) (b * 4 + 4) by omega]; exact hP
    · rw [show nI (b * 4 + 4) / 4 = nI ((b * 4 + 4) / 4) from pk_div (d := 4) (by omega) (by omega) (by omega)] at q
      exact absurd q (nt_ne (by omega) (by omega) (by omega))
  | succ k ih =>
    intro i m X M hi hwi hm hJ
    by_cases hpast : w + n - 1 < b * 4 + i
    · rw [fl4_past _ _ _ _ hpast]
      refine ⟨m, M, min (w + n) (b * 4 + 4), hm, rfl, hJ, mou_refl, rfl, fun _ => rfl, fun d P hle hP => sg_89_71 (fun _ => ?_) (fun e => absurd ?_ e)⟩
      · rw [show b * 4 + i = min (w + n) (b * 4 + 4) by omega]; exact hP
      · rw [nI_add]; exact nI_le (by omega) (by omega)
    · have hs4 := shl4 ⟨i, by omega⟩
      have ho := or16 ⟨m, hm⟩ ⟨2 ^ i, hs4.2⟩
      have hfl : fl4 w (w + n - 1) v st b i (k + 1) (nI m) X = fl4 w (w + n - 1) v st b (i + 1) k (nI (m ||| 2 ^ i)) (am_up X (4, 0, 0) i (v + (nI (b * 4 + i) - nI w) * st)) := by
        rw [fl4, if_pos (by omega), hs4.1, ho.1]
      rw [hfl]
      obtain ⟨m', M', a', h1, h2, h3, h4, h5, h6, h7⟩ := ih (i + 1) (m ||| 2 ^ i) _ _ (by omega) (Or.inr (by omega)) ho.2 (Jn_give (k := i) hJ (v + (nI (b * 4 + i) - nI w) * st))
      have e4 : nI (b * 4 + i) - nI (b * 4 + i) / 4 * 4 = nI i := by
        have := pk_rem (a := b * 4 + i) (d := 4) (by omega) (by omega) (by omega)
        rw [show (b * 4 + i) % 4 = i by omega] at this
        exact this
      refine ⟨m', M', a', h1, h2, h3, mou_trans (mou_up (Or.inr rfl)) h4, h5.trans (am_up_k (by simp)), fun _ => h6 (by omega), fun d P hle hP => sg_89_71 (fun e => ?_) (fun _ => sg_89_79 (fun q => absurd ?_ q) (fun _ => sg_89_88 e4 (show i < 20 by omega) ?_))⟩
      · rw [nI_add] at e; exact absurd e (nI_ge (by omega) (by omega))
      · rw [show nI (b * 4 + i) / 4 = nI ((b * 4 + i) / 4) from pk_div (d := 4) (by omega) (by omega) (by omega), show (b * 4 + i) / 4 = b by omega]
      · rw [e4, hs4.1, ho.1, nI_1]
        exact h7 d P (by omega) hP
theorem fi_out (hsh : shk sh) {w n : Nat} {v st : Int32} (hn : 1 ≤ n) (hwn : w + n ≤ 1024) : ∀ (k b : Nat) (X M : am_M) (c : Nat), Jn sh c X M → b + k = (w + n - 1) / 4 + 1 → w / 4 ≤ b → c + k * KK sh.1 < 2 ^ 31 → ∃ c' M', Jn sh c' (filL sh w (w + n - 1) v st b k X) M' ∧ c' ≤ c + k * KK sh.1 ∧ mou M M' ∧ M' (20, 0, 0) 0 = M (20, 0, 0) 0 ∧ ∀ d, 6 ≤ d → ∀ u6 u7 a, a = min (w + n) (max w (b * 4)) → am_ev sh (am_cr sh d) 89 (54, [some mok, some (am_I (nI w)), some (am_I (nI n)), some (am_I v), some (am_I st), some (am_I (nI a)), u6, u7], [], M, 0) (fun r => r = Sum.inr (M', Sum.inl none)) := by
  intro k
  induction k with
  | zero =>
    intro b X M c hJ hb hwb hc
    refine ⟨c, M, hJ, by omega, mou_refl, rfl, fun d hd u6 u7 a ha => sg_89_54 (fun _ => sg_89_141 rfl) (fun e => absurd ?_ e)⟩
    rw [nI_add]; exact nI_le (by omega) (by omega)
  | succ k ih =>
    intro b X M c hJ hb hwb hc
    have hkk : (k + 1) * KK sh.1 = k * KK sh.1 + KK sh.1 := Nat.succ_mul _ _
    have hb' : b < 256 := by omega
    obtain ⟨i0, hi0, hi0w⟩ : ∃ i0, i0 < 4 ∧ b * 4 + i0 = max w (b * 4) := ⟨max w (b * 4) - b * 4, by omega, by omega⟩
    have hfr : fl4 w (w + n - 1) v st b 0 4 0 X = fl4 w (w + n - 1) v st b i0 (4 - i0) (nI 0) X := by
      by_cases hz : i0 = 0
      · subst hz; rfl
      · have := fl4_front (w := w) (e := w + n - 1) (v := v) (st := st) (b := b) i0 0 (4 - i0) (nI 0) X (by omega)
        rw [show i0 + (4 - i0) = 4 by omega, Nat.zero_add] at this
        exact this
    obtain ⟨m', M1, a', h1, h2, h3, h4, h5, h6, h7⟩ := fi_in (sh := sh) (c := c) (v := v) (st := st) hn hwn hb' (x6 := nI b) rfl (4 - i0) i0 0 X M (by omega) (Or.inr (by omega)) (by decide) hJ
    have ha' := h6 (by omega)
    rw [← hfr] at h2 h3
    obtain ⟨c1, M2, t1, t2, t3, t4, t5⟩ := sim_top hsh h3 hb' h1 (by omega)
    rw [← h2] at t2
    obtain ⟨c', M', g1, g2, g3, g4, g5⟩ := ih (b + 1) (filB sh w (w + n - 1) v st b X) M2 c1 t2 (by omega) (by omega) (by omega)
    refine ⟨c', M', g1, by omega, mou_trans h4 (mou_trans t4 g3), g4.trans (t5.trans h5), fun d hd u6 u7 a ha => sg_89_54 (fun e => ?_) (fun _ => sg_89_62 ?_)⟩
    · rw [nI_add] at e
      exact absurd e (nI_ge (by omega) (by omega))
    · have hae : a = b * 4 + i0 := by omega
      rw [hae, show nI (b * 4 + i0) / 4 = nI ((b * 4 + i0) / 4) from pk_div (d := 4) (by omega) (by omega) (by omega), show (b * 4 + i0) / 4 = b by omega]
      refine h7 d _ (by omega) (sg_89_123 (m_push (j := 0) (by omega) h3.2.2.2.1 d (by omega)) (t1 d hd) ?_)
      exact g5 d hd _ _ a' (by omega)
theorem sim_mfill (hsh : shk sh) (hJ : Jn sh c X M) {w n : Nat} {v st : Int32} (hw : w < 1024) (hn : 1 ≤ n) (hwn : w + n ≤ 1024) (hc : c + 256 * KK sh.1 < 2 ^ 31) : ∃ c' M', am_cq sh 7 89 M [mok, am_I (nI w), am_I (nI n), am_I v, am_I st] (M', Sum.inl none) ∧ Jn sh c' (filA sh w n v st X) M' ∧ c' ≤ c + 256 * KK sh.1 ∧ mou M M' ∧ M' (20, 0, 0) 0 = 0 := by
  have hle : ((w + n - 1) / 4 + 1 - w / 4) * KK sh.1 ≤ 256 * KK sh.1 := Nat.mul_le_mul_right _ (by omega)
  obtain ⟨c', M', g1, g2, g3, g4, g5⟩ := fi_out hsh (v := v) (st := st) hn hwn ((w + n - 1) / 4 + 1 - w / 4) (w / 4) _ _ c (Jn_begun (Jn_code hJ 0)) (by omega) (Nat.le_refl _) (by omega)
  refine ⟨c', M', am_cq_of (Nat.le_of_ble_eq_true rfl) rfl rfl (fun d hd => ?_), g1, by omega, mou_trans (mou_up (Or.inl rfl)) (mou_trans (mou_up (Or.inl rfl)) g3), by rw [g4, am_up_j (by decide), am_up_same]⟩
  have hi := m_in (sh := sh) (M := M) (x0 := nI w) (x1 := 0) (x2 := 1023) d (by omega)
  rw [show decide (¬ nI w < 0 ∧ ¬ (1023 : Int32) < nI w) = true from in_t (n := 1023) hw (by decide)] at hi
  refine sg_89_0 (fun _ => sg_89_10 hi (fun e => absurd e (by decide)) (fun _ => sg_89_21 (fun _ => sg_89_34 (sg_89_35 (fun _ => sg_89_46 (g5 d hd _ _ w (by omega))) (fun e => absurd c0_le e))) (fun e => absurd ?_ e))) (fun e => absurd (nI_le (a := 1) hn (by omega)) e)
  rw [show (1024 : Int32) - nI w = nI (1024 - w) from pk_sub (a := 1024) (by omega)]
  exact nI_le (by omega) (by omega)
theorem m_fillT1 {x y v st : Int32} (hy : y < 1) : am_cq sh 2 89 M [mok, am_I x, am_I y, am_I v, am_I st] (am_up M (20, 0, 0) 0 1, Sum.inl none) :=
  am_cq_of (Nat.le_of_ble_eq_true rfl) rfl rfl (fun d hd => sg_89_0 (fun e => absurd hy (i_nlt e)) (fun _ => sg_89_6 (sg_89_35 (fun e => absurd e c1_nle) (fun _ => sg_89_45 rfl))))
theorem m_fillT2 {x y v st : Int32} (hy : ¬ y < 1) (h : bad x 1024 ∨ ∃ w, w < 1024 ∧ x = nI w ∧ nI (1024 - w) < y) : am_cq sh 2 89 M [mok, am_I x, am_I y, am_I v, am_I st] (am_up M (20, 0, 0) 0 2, Sum.inl none) := by
  refine am_cq_of (Nat.le_of_ble_eq_true rfl) rfl rfl (fun d hd => ?_)
  have hend : am_ev sh (am_cr sh d) 89 (30, [some mok, some (am_I x), some (am_I y), some (am_I v), some (am_I st), none, none, none], [mok], M, 0) (fun r => r = Sum.inr (am_up M (20, 0, 0) 0 2, Sum.inl none)) :=
    sg_89_30 (sg_89_35 (fun e => by rw [am_up_same] at e; exact absurd e (by decide)) (fun _ => sg_89_45 rfl))
  have hi := m_in (sh := sh) (M := M) (x0 := x) (x1 := 0) (x2 := 1023) d hd
  refine sg_89_0 (fun _ => sg_89_10 hi (fun _ => hend) (fun e => sg_89_21 (fun e2 => ?_) (fun _ => hend))) (fun e => absurd (i_nle e) hy)
  rcases h with h | ⟨w, hw, rfl, h⟩
  · rw [show decide (¬ x < 0 ∧ ¬ (1023 : Int32) < x) = false from in_f (n := 1023) h (by decide)] at e
    exact absurd rfl e
  · rw [show (1024 : Int32) - nI w = nI (1024 - w) from pk_sub (a := 1024) (by omega)] at e2
    exact absurd h (i_nlt e2)
end VF
