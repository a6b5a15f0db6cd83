-- the reference's calls that only look
section VB
variable {sh : am_Sh} {c : Nat} {X M : am_M}
theorem m_runT {x y z : Int32} (h : (y < 0 ∨ 200 < y) ∨ z < 1 ∨ 1024 < z) : ∃ v, am_cq sh 8 90 M [mok, am_I x, am_I y, am_I z] (am_up M (20, 0, 0) 0 1, Sum.inl (some (am_I v))) := by
  refine ⟨0, am_cq_of (Nat.le_of_ble_eq_true rfl) rfl rfl (fun d hd => ?_)⟩
  have hend : am_ev sh (am_cr sh d) 90 (27, [some mok, some (am_I x), some (am_I y), some (am_I z), none, none, none, none], [mok], M, 0) (fun r => r = Sum.inr (am_up M (20, 0, 0) 0 1, Sum.inl (some (am_I 0)))) :=
    sg_90_27 (sg_90_28 (sg_90_40 (fun _ => sg_90_111 rfl) (fun _ => sg_90_46 (fun _ => sg_90_111 rfl) (fun e => by rw [am_up_same] at e; exact absurd e (by decide)))))
  refine sg_90_0 (m_in d (by omega)) (fun _ => hend) (fun e => sg_90_12 (m_in d (by omega)) (fun _ => hend) (fun e2 => ?_))
  exfalso
  have d1 : ¬ y < 0 ∧ ¬ 200 < y := by
    refine Decidable.byContradiction fun q => ?_
    rw [decide_eq_false q] at e
    exact e rfl
  have d2 : ¬ z < 1 ∧ ¬ 1024 < z := by
    refine Decidable.byContradiction fun q => ?_
    rw [decide_eq_false q] at e2
    exact e2 rfl
  rcases h with (h | h) | h | h
  · exact d1.1 h
  · exact d1.2 h
  · exact d2.1 h
  · exact d2.2 h
theorem in_p {x : Int32} {n : Nat} (hn : n < 2 ^ 30) : decide (¬ x < 0 ∧ ¬ nI n - 1 < x) = decide (¬ bad x n) := by
  have e : (¬ x < 0 ∧ ¬ nI n - 1 < x) ↔ ¬ bad x n := by
    unfold bad
    cases n with
    | zero =>
      rw [show nI 0 - 1 = -1 from by decide, show nI 0 = 0 from rfl, Int32.lt_iff_toInt_lt, Int32.lt_iff_toInt_lt, Int32.le_iff_toInt_le]
      have h1 : (0 : Int32).toInt = 0 := by decide
      have h2 : (-1 : Int32).toInt = -1 := by decide
      rw [h1, h2]
      omega
    | succ m =>
      rw [nI_pred, Int32.lt_iff_toInt_lt, Int32.lt_iff_toInt_lt, Int32.le_iff_toInt_le, nI_toInt (by omega), nI_toInt (by omega)]
      have h1 : (0 : Int32).toInt = 0 := by decide
      rw [h1]
      omega
  by_cases q : ¬ bad x n
  · rw [decide_eq_true q, decide_eq_true (e.mpr q)]
  · rw [decide_eq_false q, decide_eq_false (fun r => q (e.mp r))]
theorem m_isTier {x : Int32} {h : Nat} (hh : h ≤ 4) (htc : M (20, 0, 0) 1 = nI h) : am_cq sh 2 95 M [mok, am_I x] (M, Sum.inl (some (am_I (b01 (decide (¬ bad x h)))))) := by
  refine am_cq_of (Nat.le_of_ble_eq_true rfl) rfl rfl (fun d hd => sg_95_0 (M1 := M) (r1 := b01 (decide (¬ bad x h))) ?_ (b01_of _) rfl)
  rw [htc, ← in_p (by omega)]
  exact m_in d hd
theorem nbad {t n : Nat} (h : t < n) (hn : n < 2 ^ 31) : ¬ bad (nI t) n := by
  rintro (q | q)
  · exact nI_pos (by omega) q
  · exact nI_ge h hn q
theorem m_isT (hsh : shk sh) (hrel : rel sh c nol X M) {t : Nat} (ht : t < sh.1) : am_cq sh 2 95 M [mok, am_I (nI t)] (M, Sum.inl (some (am_I 1))) := by
  have h := m_isTier (sh := sh) (x := nI t) hsh.1 hrel.1.1
  have h4 := hsh.1
  rw [decide_eq_true (nbad ht (by omega))] at h
  exact h
theorem m_isTf (hsh : shk sh) (hrel : rel sh c nol X M) {x : Int32} (hx : bad x sh.1) : am_cq sh 2 95 M [mok, am_I x] (M, Sum.inl (some (am_I 0))) := by
  have h := m_isTier (sh := sh) (x := x) hsh.1 hrel.1.1
  rw [decide_eq_false (fun q => q hx)] at h
  exact h
theorem c1_nle : ¬ am_up M (20, 0, 0) 0 1 (20, 0, 0) 0 ≤ 0 := by rw [am_up_same]; decide
theorem c0_le : am_up M (20, 0, 0) 0 0 (20, 0, 0) 0 ≤ 0 := by rw [am_up_same]; decide
-- stored
theorem m_stored (hrel : rel sh c nol X M) {w : Nat} (hw : w < 1024) : am_cq sh 2 93 M [mok, am_I (nI w)] (am_up M (20, 0, 0) 0 0, Sum.inl (some (am_I (X (1, 0, 0) w)))) := by
  refine am_cq_of (Nat.le_of_ble_eq_true rfl) rfl rfl (fun d hd => ?_)
  have hi := m_in (sh := sh) (M := M) (x0 := nI w) (x1 := 0) (x2 := 1023) d (by omega)
  rw [show decide (¬ nI w < 0 ∧ ¬ (1023 : Int32) < nI w) = true from in_t (n := 1023) hw (by decide)] at hi
  refine sg_93_0 hi (fun e => absurd e (by decide)) (fun _ => sg_93_12 (sg_93_17 (fun _ => sg_93_31 rfl hw (sg_93_37 ?_)) (fun e => absurd c0_le e)))
  rw [am_up_k (by simp), hrel.1.2.2.2.2.2 w hw]
theorem m_storedT {x : Int32} (hx : bad x 1024) : am_cq sh 2 93 M [mok, am_I x] (am_up M (20, 0, 0) 0 1, Sum.inl (some (am_I 0))) := by
  refine am_cq_of (Nat.le_of_ble_eq_true rfl) rfl rfl (fun d hd => ?_)
  have hi := m_in (sh := sh) (M := M) (x0 := x) (x1 := 0) (x2 := 1023) d (by omega)
  rw [show decide (¬ x < 0 ∧ ¬ (1023 : Int32) < x) = false from in_f (n := 1023) hx (by decide)] at hi
  exact sg_93_0 hi (fun _ => sg_93_16 (sg_93_17 (fun e => absurd e c1_nle) (fun _ => sg_93_27 (sg_93_37 rfl)))) (fun e => absurd rfl e)
-- newest, peek
def nwk (sh : am_Sh) (X : am_M) (w : Nat) : Nat → Int32 → Int32
  | 0, v => v
  | k + 1, v => nwk sh X w k (match fnd sh X k (w / 4) with
    | some i => X (10, k, i) (w % 4)
    | none => v)
theorem nw_loop (hsh : shk sh) (hu : uq sh X) (hrel : rel sh c nol X M) {w : Nat} (hw : w < 1024) {d : Nat} (hd : 2 ≤ d) {P : am_S ⊕ am_O → Prop} : ∀ (k : Nat) (v : Int32) (u4 : Option am_V), k ≤ sh.1 → P (Sum.inr (M, Sum.inl (some (am_I (nwk sh X w k v))))) → am_ev sh (am_cr sh d) 92 (14, [some mok, some (am_I (nI w)), some (am_I v), some (am_I (nI k - 1)), u4], [], M, 0) P := by
  intro k
  have h4 := hsh.1
  induction k with
  | zero =>
    intro v u4 _ hP
    exact sg_92_14 (fun _ => sg_92_57 hP) (fun e => absurd (by decide) e)
  | succ k ih =>
    intro v u4 hk hP
    rw [nI_pred]
    have hks : k < sh.1 := by omega
    have hb : w / 4 < 256 := by omega
    have hm1 : nI k + (-1) = nI k - 1 := by rw [Int32.sub_eq_add_neg]
    have hset := b_set hsh hks (w / 4)
    have hfd := m_find (sh := sh) (rel_mcf hsh hrel hks) hb d hd
    have ed : nI w / 4 = nI (w / 4) := pk_div (d := 4) (by omega) (by omega) (by omega)
    rw [← ed] at hfd
    unfold nwk at hP
    refine sg_92_14 (fun e => absurd e (nI_pos (by omega))) (fun _ => sg_92_18 hfd (fun e => ?_) (fun e => ?_))
    · rw [ed] at e
      rcases rel_find hsh hrel hu hks hb with ⟨f1, f2⟩ | ⟨w', hw', f1, f2⟩
      · rw [f1] at hP
        refine sg_92_49 (sg_92_50 ?_)
        rw [hm1]
        exact ih _ _ (by omega) hP
      · rw [f2] at e
        exact absurd e (nI_pos (by obtain ⟨k4, k5, k6⟩ := sw_lt hsh hks hset hw'; have := mi_lt k6 k4 k5; omega))
    · rw [ed] at e ⊢
      rcases rel_find hsh hrel hu hks hb with ⟨f1, f2⟩ | ⟨w', hw', f1, f2⟩
      · rw [f2] at e
        exact absurd (by decide) e
      · rw [f1] at hP
        rw [f2]
        obtain ⟨k4, k5, k6⟩ := sw_lt hsh hks hset hw'
        have hl := mi_lt k6 k4 k5
        have e4 : nI w - nI w / 4 * 4 = nI (w % 4) := pk_rem (d := 4) (by omega) (by omega) (by omega)
        have hwd := ((hrel.2.2.1 k (w / 4 % zs sh k) w' hks hset hw').2 (by rw [fnd_blk f1]; exact nI_ne_m1 (by omega))).2.2.2 (by simp; omega) (w % 4) (by omega)
        refine sg_92_33 (j1 := 4 * mi k (w / 4 % zs sh k) w' + w % 4) (by rw [e4]; exact n4 _ _) (by omega) (sg_92_50 ?_)
        rw [hm1, hwd]
        exact ih _ _ (by omega) hP
/-- the newest of a word: from below, or the uppermost -/
theorem nwk_eq {w : Nat} : ∀ (k u : Nat) (v : Int32), nwk sh X w (u + k) v = nwk sh X w u (match upm sh X (w / 4) u k with
    | some q => X (10, q.1, q.2) (w % 4)
    | none => v) := by
  intro k
  induction k with
  | zero => intro u v; rfl
  | succ k ih =>
    intro u v
    have h := ih (u + 1) v
    rw [show u + 1 + k = u + (k + 1) by omega] at h
    rw [h]
    show nwk sh X w (u + 1) _ = _
    rw [nwk, show upm sh X (w / 4) u (k + 1) = (match fnd sh X u (w / 4) with
      | some i => some (u, i)
      | none => upm sh X (w / 4) (u + 1) k) from rfl]
    cases hq : fnd sh X u (w / 4) with
    | some i => rfl
    | none => rfl
theorem m_newest (hsh : shk sh) (hu : uq sh X) (hrel : rel sh c nol X M) {w : Nat} (hw : w < 1024) : am_cq sh 3 92 M [mok, am_I (nI w)] (M, Sum.inl (some (am_I (pek sh X w)))) := by
  refine am_cq_of (Nat.le_of_ble_eq_true rfl) rfl rfl (fun d hd => sg_92_0 rfl hw ?_)
  rw [hrel.1.1, hrel.1.2.2.2.2.2 w hw]
  refine nw_loop hsh hu hrel hw hd sh.1 _ _ (Nat.le_refl _) ?_
  have h := nwk_eq (sh := sh) (X := X) (w := w) sh.1 0 (X (1, 0, 0) w)
  rw [Nat.zero_add] at h
  rw [h]
  unfold pek
  rw [nwk]
  cases upm sh X (w / 4) 0 sh.1 with
  | none => rfl
  | some q => rfl
theorem m_peek (hsh : shk sh) (hJ : Jn sh c X M) {w : Nat} (hw : w < 1024) : am_cq sh 4 91 M [mok, am_I (nI w)] (am_up M (20, 0, 0) 0 0, Sum.inl (some (am_I (pek sh X w)))) := by
  refine am_cq_of (Nat.le_of_ble_eq_true rfl) rfl rfl (fun d hd => ?_)
  have hi := m_in (sh := sh) (M := M) (x0 := nI w) (x1 := 0) (x2 := 1023) d (by omega)
  rw [show decide (¬ nI w < 0 ∧ ¬ (1023 : Int32) < nI w) = true from in_t (n := 1023) hw (by decide)] at hi
  exact sg_91_0 hi (fun e => absurd e (by decide)) (fun _ => sg_91_12 (sg_91_17 (fun _ => sg_91_31 (m_newest hsh hJ.1.2.1 (Jn_code hJ 0).2.2.1 hw d hd) (sg_91_36 rfl)) (fun e => absurd c0_le e)))
theorem m_peekT {x : Int32} (hx : bad x 1024) : am_cq sh 2 91 M [mok, am_I x] (am_up M (20, 0, 0) 0 1, Sum.inl (some (am_I 0))) := by
  refine am_cq_of (Nat.le_of_ble_eq_true rfl) rfl rfl (fun d hd => ?_)
  have hi := m_in (sh := sh) (M := M) (x0 := x) (x1 := 0) (x2 := 1023) d (by omega)
  rw [show decide (¬ x < 0 ∧ ¬ (1023 : Int32) < x) = false from in_f (n := 1023) hx (by decide)] at hi
  exact sg_91_0 hi (fun _ => sg_91_16 (sg_91_17 (fun e => absurd e c1_nle) (fun _ => sg_91_27 (sg_91_36 rfl)))) (fun e => absurd rfl e)
-- count, traffic, tiers, astray, thrown
theorem m_count (hsh : shk sh) (hrel : rel sh c nol X M) {t j : Nat} (ht : t < sh.1) (hj : j < 6) : am_cq sh 3 99 M [mok, am_I (nI t), am_I (nI j)] (am_up M (20, 0, 0) 0 0, Sum.inl (some (am_I (X (8, t, 0) j)))) := by
  have h4 := hsh.1
  refine am_cq_of (Nat.le_of_ble_eq_true rfl) rfl rfl (fun d hd => ?_)
  have hi := m_in (sh := sh) (M := M) (x0 := nI j) (x1 := 0) (x2 := 5) d (by omega)
  rw [show decide (¬ nI j < 0 ∧ ¬ (5 : Int32) < nI j) = true from in_t (n := 5) hj (by decide)] at hi
  refine sg_99_0 (m_isT hsh hrel ht d hd) (fun _ => sg_99_13 hi (fun e => absurd e (by decide)) (fun _ => sg_99_22 (sg_99_27 (fun _ => sg_99_41 (n6 t j) (show 6 * t + j < 24 by omega) (sg_99_52 ?_)) (fun e => absurd c0_le e)))) (fun e => absurd e (by decide))
  rw [am_up_k (by simp), (hrel.2.1 t ht).2.1 j hj]
theorem m_countT1 (hsh : shk sh) (hrel : rel sh c nol X M) {x y : Int32} (hx : bad x sh.1) : am_cq sh 3 99 M [mok, am_I x, am_I y] (am_up M (20, 0, 0) 0 1, Sum.inl (some (am_I 0))) :=
  am_cq_of (Nat.le_of_ble_eq_true rfl) rfl rfl (fun d hd => sg_99_0 (m_isTf hsh hrel hx d hd) (fun e => absurd rfl e) (fun _ => sg_99_9 (sg_99_27 (fun e => absurd e c1_nle) (fun _ => sg_99_37 (sg_99_52 rfl)))))
theorem m_countT2 (hsh : shk sh) (hrel : rel sh c nol X M) {t : Nat} (ht : t < sh.1) {y : Int32} (hy : bad y 6) : am_cq sh 3 99 M [mok, am_I (nI t), am_I y] (am_up M (20, 0, 0) 0 2, Sum.inl (some (am_I 0))) := by
  refine am_cq_of (Nat.le_of_ble_eq_true rfl) rfl rfl (fun d hd => ?_)
  have hi := m_in (sh := sh) (M := M) (x0 := y) (x1 := 0) (x2 := 5) d (by omega)
  rw [show decide (¬ y < 0 ∧ ¬ (5 : Int32) < y) = false from in_f (n := 5) hy (by decide)] at hi
  exact sg_99_0 (m_isT hsh hrel ht d hd) (fun _ => sg_99_13 hi (fun _ => sg_99_26 (sg_99_27 (fun e => by rw [am_up_same] at e; exact absurd e (by decide)) (fun _ => sg_99_37 (sg_99_52 rfl)))) (fun e => absurd rfl e)) (fun e => absurd e (by decide))
theorem m_traffic (hrel : rel sh c nol X M) {x : Int32} : am_cq sh 1 100 M [mok, am_I x] (am_up M (20, 0, 0) 0 0, Sum.inl (some (am_I (if x = 0 then X (0, 0, 0) 5 else X (0, 0, 0) 6)))) := by
  refine am_cq_of (Nat.le_of_ble_eq_true rfl) rfl rfl (fun d hd => sg_100_0 (fun e => sg_100_16 (sg_100_20 ?_)) (fun e => sg_100_9 (sg_100_20 ?_)))
  · rw [if_pos e, am_up_j (by decide), hrel.1.2.2.1]
  · rw [if_neg e, am_up_j (by decide), hrel.1.2.2.2.1]
theorem m_tiers (hrel : rel sh c nol X M) : am_cq sh 1 105 M [mok] (am_up M (20, 0, 0) 0 0, Sum.inl (some (am_I (nI sh.1)))) :=
  am_cq_of (Nat.le_of_ble_eq_true rfl) rfl rfl (fun d hd => sg_105_0 (by rw [am_up_j (by decide), hrel.1.1]))
theorem m_astray : am_cq sh 1 106 M [mok] (am_up M (20, 0, 0) 0 0, Sum.inl (some (am_I 0))) :=
  am_cq_of (Nat.le_of_ble_eq_true rfl) rfl rfl (fun d hd => sg_106_0 rfl)
theorem m_thrown : am_cq sh 1 60 M [mok] (M, Sum.inl (some (am_I (M (20, 0, 0) 0)))) :=
  am_cq_of (Nat.le_of_ble_eq_true rfl) rfl rfl (fun d hd => sg_60_0 rfl)
end VB
