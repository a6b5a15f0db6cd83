-- the reference's steps
abbrev mpop (M : am_M) : am_M := am_up M (20, 0, 0) 23 (M (20, 0, 0) 23 - 1)
abbrev mcn (M : am_M) (i : Nat) : am_M := am_up M (21, 8, 0) i (M (21, 8, 0) i + 1)
section US
variable {sh : am_Sh} {M : am_M} {j t b l : Nat}
theorem rd0_loop (hb : b < 256) (ht : t < 5) {x1 : Int32} {d : Nat} {P : am_S ⊕ am_O → Prop} : ∀ (k i : Nat), i + k = 4 → P (Sum.inr (mpop (mcp M allp (21, 18, 0) (21, 21, 0) (4 * b) (4 * t) 4), Sum.inl none)) → am_ev sh (am_cr sh d) 67 (35, [some mok, some (am_I x1), some (am_I (nI t)), some (am_I (nI b)), some (am_I (nI i))], [], mcp M allp (21, 18, 0) (21, 21, 0) (4 * b) (4 * t) i, 0) P := by
  intro k
  induction k with
  | zero =>
    intro i hi hP
    have : i = 4 := by omega
    subst this
    exact sg_67_35 (fun _ => sg_67_69 (sg_67_220 hP)) (fun h => absurd (nI_le (a := 4) (by omega) (by omega)) h)
  | succ k ih =>
    intro i hi hP
    refine sg_67_35 (fun h => absurd h (nI_ge (b := 4) (by omega) (by omega))) (fun _ => sg_67_41 (n4 b i) (show 4 * b + i < 1024 by omega) (n4 t i) (show 4 * t + i < 20 by omega) ?_)
    rw [nI_1, mcp_t (Or.inl (by simp)) rfl]
    exact ih _ (by omega) hP
theorem m_read0 (hj : j < 64) (hb : b < 256) (ht : t < 5) (hjt : M (21, 25, 0) j = nI t) (hjb : M (21, 26, 0) j = nI b) (htc : M (20, 0, 0) 1 = nI t) : am_cq sh 1 67 M [mok, am_I (nI j)] (mpop (mcp (am_up M (20, 0, 0) 19 (M (20, 0, 0) 19 + 1)) allp (21, 18, 0) (21, 21, 0) (4 * b) (4 * t) 4), Sum.inl none) := by
  refine am_cq_of (Nat.le_of_ble_eq_true rfl) rfl rfl (fun d hd => sg_67_0 rfl hj rfl hj (fun h => absurd (hjt.trans htc.symm) h) (fun _ => ?_))
  rw [hjt, hjb]
  refine sg_67_22 ?_
  have h := rd0_loop (sh := sh) (M := am_up M (20, 0, 0) 19 (M (20, 0, 0) 19 + 1)) hb ht (x1 := nI j) (d := d) (P := fun r => r = Sum.inr (mpop (mcp (am_up M (20, 0, 0) 19 (M (20, 0, 0) 19 + 1)) allp (21, 18, 0) (21, 21, 0) (4 * b) (4 * t) 4), Sum.inl none)) 4 0 rfl rfl
  rw [mcp_0] at h
  exact h
theorem nt_ne {a b : Nat} (ha : a < 2 ^ 31) (hb : b < 2 ^ 31) (h : ¬ a = b) : ¬ nI a = nI b := fun e => h ((nI_eq ha hb).mp e)
theorem m_readHit {h z y : Nat} (hj : j < 64) (hb : b < 256) (ht : t < h) (hh : h ≤ 4) (hl : l < 256) (hm : mcf M t z y) (hjt : M (21, 25, 0) j = nI t) (hjb : M (21, 26, 0) j = nI b) (hst : M (21, 29, 0) j = 0) (htc : M (20, 0, 0) 1 = nI h) (hf : mfl M (nI b) (64 * t + 4 * (b % z)) 0 y (-1) = nI l) : am_cq sh 3 67 M [mok, am_I (nI j)] (mpop (mcp (muse (mcn M (6 * t + 0)) l) allp (21, 16, 0) (21, 21, 0) (4 * l) (4 * t) 4), Sum.inl none) := by
  refine am_cq_of (Nat.le_of_ble_eq_true rfl) rfl rfl (fun d hd => sg_67_0 rfl hj rfl hj (fun _ => ?_) (fun e => absurd (hjt.symm.trans (e.trans htc)) (nt_ne (by omega) (by omega) (by omega))))
  rw [hjt, hjb]
  have hfd := m_find (sh := sh) hm hb d hd
  rw [hf] at hfd
  refine sg_67_82 rfl hj (fun e => absurd hst e) (fun _ => sg_67_91 hfd (fun e => absurd e (nI_pos (by omega))) (fun _ => sg_67_112 (sg_67_117 (j1 := 6 * t + 0) (Ns0 := 24) (by decide) ?_ (by omega) rfl (fun _ => sg_67_136 (m_use hl d (by omega)) (m_answerLine (by omega) hl d (by omega)) (sg_67_159 (sg_67_220 rfl))) (fun e => absurd (nI_pos' (by omega)) e))))
  exact n6 t 0
theorem m_room0 {h z y : Nat} (hj : j < 64) (hb : b < 256) (hm : mcf M t z y) (hl : l < 256) (hjt : M (21, 25, 0) j = nI t) (hjb : M (21, 26, 0) j = nI b) (hf : mfr (am_up M (21, 29, 0) j 1) (64 * t + 4 * (b % z)) y (-1) = nI l) : am_cq sh 3 70 M [mok, am_I (nI j)] (am_up (am_up M (21, 29, 0) j 1) (21, 28, 0) j (nI l), Sum.inl none) := by
  have hm' : mcf (am_up M (21, 29, 0) j 1) t z y := by
    obtain ⟨a1, a2, a3, a4, a5, a6, a7⟩ := hm
    exact ⟨a1, a2, a3, a4, a5, by rw [am_up_k (by simp)]; exact a6, by rw [am_up_k (by simp)]; exact a7⟩
  obtain ⟨a1, a2, a3, a4, a5, a6, a7⟩ := hm
  refine am_cq_of (Nat.le_of_ble_eq_true rfl) rfl rfl (fun d hd => ?_)
  have hfr := m_freeIn (sh := sh) hm' (Nat.mod_lt b (show 0 < z by omega)) d hd
  rw [hf] at hfr
  refine sg_70_0 (j3 := t) (M1 := am_up M (21, 29, 0) j 1) (r1 := nI l) rfl hj rfl hj hjt a1 (by rw [a6]; exact nI_ne0 (by omega) (by omega)) rfl hj ?_ (fun e => absurd e (nI_pos (by omega))) (fun _ => sg_70_41 rfl hj rfl)
  rw [hjt, hjb, a6, pk_rem (by omega) (by omega) (by omega)]
  exact hfr
/-- room by one that leaves -/
def mrm (M : am_M) (j t s y a : Nat) : am_M := mpsh (am_up (mcn (mchs (am_up M (21, 29, 0) j 1) t s y a) (6 * t + 4)) (21, 28, 0) j (nI (64 * t + 4 * s + mcho (am_up M (21, 29, 0) j 1) t s y a))) (j + 1) 2 (nI t) 0 0 (nI (64 * t + 4 * s + mcho (am_up M (21, 29, 0) j 1) t s y a))
theorem m_room1 {z y a : Nat} (hj : j < 63) (hb : b < 256) (hm : mcf M t z y) (ha : a < y) (hjt : M (21, 25, 0) j = nI t) (hjb : M (21, 26, 0) j = nI b) (hjn : M (20, 0, 0) 23 = nI (j + 1)) (hh : M (21, 9, 0) (16 * t + b % z) = nI a) (hf : mfr (am_up M (21, 29, 0) j 1) (64 * t + 4 * (b % z)) y (-1) = -1) (h23 : mchs (am_up M (21, 29, 0) j 1) t (b % z) y a (20, 0, 0) 23 = nI (j + 1)) : am_cq sh 3 70 M [mok, am_I (nI j)] (mrm M j t (b % z) y a, Sum.inl none) := by
  have hm' : mcf (am_up M (21, 29, 0) j 1) t z y := by
    obtain ⟨a1, a2, a3, a4, a5, a6, a7⟩ := hm
    exact ⟨a1, a2, a3, a4, a5, by rw [am_up_k (by simp)]; exact a6, by rw [am_up_k (by simp)]; exact a7⟩
  obtain ⟨a1, a2, a3, a4, a5, a6, a7⟩ := hm
  have hset := Nat.mod_lt b (show 0 < z by omega)
  have hh' : am_up M (21, 29, 0) j 1 (21, 9, 0) (16 * t + b % z) = nI a := by rw [am_up_k (by simp)]; exact hh
  refine am_cq_of (Nat.le_of_ble_eq_true rfl) rfl rfl (fun d hd => ?_)
  have hfr := m_freeIn (sh := sh) hm' hset d hd
  rw [hf] at hfr
  have hch := m_choice (sh := sh) hm' hset ha hh' d hd
  have hend : ∀ N, N = mchs (am_up M (21, 29, 0) j 1) t (b % z) y a → am_ev sh (am_cr sh d) 70 (74, [some mok, some (am_I (nI j)), some (am_I (nI t)), some (am_I (nI (b % z))), some (am_I (nI (64 * t + 4 * (b % z) + mcho (am_up M (21, 29, 0) j 1) t (b % z) y a)))], [], N, 0) (fun r => r = Sum.inr (mrm M j t (b % z) y a, Sum.inl none)) := by
    rintro N rfl
    refine sg_70_74 (j1 := 6 * t + 4) (n6 t 4) (by omega) rfl (by omega) (m_push (j := j + 1) (by omega) ?_ d (by omega)) rfl
    rw [am_up_k (by simp), am_up_k (by simp)]
    exact h23
  refine sg_70_0 (j3 := t) (M1 := am_up M (21, 29, 0) j 1) (r1 := -1) rfl (by omega) rfl (by omega) hjt a1 (by rw [a6]; exact nI_ne0 (by omega) (by omega)) rfl (by omega) ?_ (fun _ => ?_) (fun e => absurd (by decide) e)
  · rw [hjt, hjb, a6, pk_rem (by omega) (by omega) (by omega)]
    exact hfr
  · rw [hjt, hjb, a6, pk_rem (by omega) (by omega) (by omega)]
    refine sg_70_50 hch rfl a1 (fun e => hend _ ?_) (fun e => sg_70_68 (m_moveHand a1 (by omega) a4 a5 ha (by rw [am_up_k (by simp)]; exact a7) hh' d hd) (hend _ ?_))
    · unfold mchs; rw [if_neg e]
    · unfold mchs; rw [if_pos e]
theorem m_readMiss {h z y : Nat} {M' : am_M} (hj : j < 64) (hb : b < 256) (ht : t < h) (hh : h ≤ 4) (hm : mcf M t z y) (hjt : M (21, 25, 0) j = nI t) (hjb : M (21, 26, 0) j = nI b) (hst : M (21, 29, 0) j = 0) (htc : M (20, 0, 0) 1 = nI h) (hf : mfl M (nI b) (64 * t + 4 * (b % z)) 0 y (-1) = -1) (hr : am_cq sh 3 70 (mcn M (6 * t + 1)) [mok, am_I (nI j)] (M', Sum.inl none)) : am_cq sh 4 67 M [mok, am_I (nI j)] (M', Sum.inl none) := by
  refine am_cq_of (Nat.le_of_ble_eq_true rfl) rfl rfl (fun d hd => sg_67_0 rfl hj rfl hj (fun _ => ?_) (fun e => absurd (hjt.symm.trans (e.trans htc)) (nt_ne (by omega) (by omega) (by omega))))
  rw [hjt, hjb]
  have hfd := m_find (sh := sh) hm hb d (by omega)
  rw [hf] at hfd
  refine sg_67_82 rfl hj (fun e => absurd hst e) (fun _ => sg_67_91 hfd (fun _ => sg_67_116 (sg_67_117 (j1 := 6 * t + 1) (Ns0 := 24) (by decide) ?_ (by omega) rfl (fun e => absurd e (by decide)) (fun _ => sg_67_128 (hr d hd) (sg_67_159 (sg_67_220 rfl))))) (fun e => absurd (by decide) e))
  exact n6 t 1
theorem m_readDown {h : Nat} (hj : j < 63) (ht : t < h) (hh : h ≤ 4) (hjt : M (21, 25, 0) j = nI t) (hjb : M (21, 26, 0) j = nI b) (hst : M (21, 29, 0) j = 1) (htc : M (20, 0, 0) 1 = nI h) (hjn : M (20, 0, 0) 23 = nI (j + 1)) : am_cq sh 2 67 M [mok, am_I (nI j)] (mpsh (am_up M (21, 29, 0) j 2) (j + 1) 0 (nI (t + 1)) (nI b) 0 0, Sum.inl none) := by
  refine am_cq_of (Nat.le_of_ble_eq_true rfl) rfl rfl (fun d hd => sg_67_0 rfl (by omega) rfl (by omega) (fun _ => ?_) (fun e => absurd (hjt.symm.trans (e.trans htc)) (nt_ne (by omega) (by omega) (by omega))))
  rw [hjt, hjb]
  refine sg_67_82 rfl (by omega) (fun _ => sg_67_162 rfl (by omega) (fun e => absurd hst e) (fun _ => sg_67_172 rfl (show j < 64 by omega) (M1 := mpsh (am_up M (21, 29, 0) j 2) (j + 1) 0 (nI (t + 1)) (nI b) 0 0) ?_ (sg_67_220 rfl))) (fun e => by rw [hst] at e; exact absurd e (by decide))
  rw [nI_1]
  exact m_push (by omega) (by rw [am_up_k (by simp)]; exact hjn) d (by omega)
theorem m_readFill {h : Nat} (hj : j < 64) (ht : t < h) (hh : h ≤ 4) (hl : l < 256) (hjt : M (21, 25, 0) j = nI t) (hjb : M (21, 26, 0) j = nI b) (hjl : M (21, 28, 0) j = nI l) (hst : M (21, 29, 0) j = 2) (htc : M (20, 0, 0) 1 = nI h) : am_cq sh 4 67 M [mok, am_I (nI j)] (mpop (mcp (mfil M t l (nI b) true) allp (21, 16, 0) (21, 21, 0) (4 * l) (4 * t) 4), Sum.inl none) := by
  refine am_cq_of (Nat.le_of_ble_eq_true rfl) rfl rfl (fun d hd => sg_67_0 rfl hj rfl hj (fun _ => ?_) (fun e => absurd (hjt.symm.trans (e.trans htc)) (nt_ne (by omega) (by omega) (by omega))))
  rw [hjt, hjb]
  have h28 : mfil M t l (nI b) true (21, 28, 0) j = nI l := by
    unfold mfil
    rw [if_pos rfl, mplc_else (fun a h1 h2 r => by have := r.1; simp at this; omega) (by simp), mcp_else (by simp)]
    exact hjl
  refine sg_67_82 rfl hj (fun _ => sg_67_162 rfl hj (fun _ => sg_67_193 (m_fillLine hj (by omega) hl hjt hjl hjb true d hd) rfl hj (M2 := mcp (mfil M t l (nI b) true) allp (21, 16, 0) (21, 21, 0) (4 * l) (4 * t) 4) ?_ (sg_67_220 rfl)) (fun e => by rw [hst] at e; exact absurd e (by decide))) (fun e => by rw [hst] at e; exact absurd e (by decide))
  rw [h28]
  exact m_answerLine (by omega) hl d (by omega)
-- leaving
theorem m_leave0 {v : Int32} {M1 : am_M} {k : Nat} (hj : j < 64) (hl : l < 256) (ht : t < 4) (hjt : M (21, 25, 0) j = nI t) (hjl : M (21, 28, 0) j = nI l) (hst : M (21, 29, 0) j = 0) (hg : (¬ M (21, 24, 0) j = 2 ∧ M1 = am_up M (21, 29, 0) j 1) ∨ (M (21, 24, 0) j = 2 ∧ M (21, 7, 0) t = 0 ∧ M1 = am_up M (21, 29, 0) j 1) ∨ (M (21, 24, 0) j = 2 ∧ ¬ M (21, 7, 0) t = 0 ∧ am_cq sh 3 86 (am_up M (21, 29, 0) j 1) [mok, am_I (nI t), am_I (nI l)] (M1, Sum.inl none))) (h0 : M1 (21, 11, 0) l = 0) : am_cq sh 4 85 M [mok, am_I (nI j)] (am_up M1 (21, 11, 0) l 0, Sum.inl none) := by
  refine am_cq_of (Nat.le_of_ble_eq_true rfl) rfl rfl (fun d hd => sg_85_0 rfl hj rfl hj rfl hj (fun e => absurd hst e) (fun _ => ?_))
  rw [hjt, hjl]
  have hend : am_ev sh (am_cr sh d) 85 (55, [some mok, some (am_I (nI j)), some (am_I (nI t)), some (am_I (nI l)), none], [], M1, 0) (fun r => r = Sum.inr (am_up M1 (21, 11, 0) l 0, Sum.inl none)) :=
    sg_85_55 rfl hl (fun _ => sg_85_95 rfl) (fun e => absurd h0 e)
  have e24 : am_up M (21, 29, 0) j 1 (21, 24, 0) j = M (21, 24, 0) j := am_up_k (by simp)
  have e7 : am_up M (21, 29, 0) j 1 (21, 7, 0) t = M (21, 7, 0) t := am_up_k (by simp)
  refine sg_85_23 rfl hj rfl hj (fun e => ?_) (fun e => ?_)
  · rw [e24] at e
    rcases hg with ⟨-, rfl⟩ | ⟨q, -⟩ | ⟨q, -⟩
    · exact hend
    · exact absurd q e
    · exact absurd q e
  · rw [e24] at e
    refine sg_85_40 rfl ht (fun e2 => ?_) (fun e2 => ?_)
    · rw [e7] at e2
      rcases hg with ⟨q, -⟩ | ⟨-, -, rfl⟩ | ⟨-, q, -⟩
      · exact absurd e q
      · exact hend
      · exact absurd e2 q
    · rw [e7] at e2
      rcases hg with ⟨q, -⟩ | ⟨-, q, -⟩ | ⟨-, -, q⟩
      · exact absurd e q
      · exact absurd q e2
      · exact sg_85_49 (q d hd) hend
theorem m_leave1 {m b' : Int32} {M1 : am_M} (hj : j < 63) (hl : l < 256) (ht : t < 4) (hjt : M (21, 25, 0) j = nI t) (hjl : M (21, 28, 0) j = nI l) (hst : M (21, 29, 0) j = 0) (hg : (¬ M (21, 24, 0) j = 2 ∧ M1 = am_up M (21, 29, 0) j 1) ∨ (M (21, 24, 0) j = 2 ∧ M (21, 7, 0) t = 0 ∧ M1 = am_up M (21, 29, 0) j 1) ∨ (M (21, 24, 0) j = 2 ∧ ¬ M (21, 7, 0) t = 0 ∧ am_cq sh 3 86 (am_up M (21, 29, 0) j 1) [mok, am_I (nI t), am_I (nI l)] (M1, Sum.inl none))) (hm : M1 (21, 11, 0) l = m) (h0 : ¬ m = 0) (hb : M1 (21, 10, 0) l = b') (h23 : M1 (20, 0, 0) 23 = nI (j + 1)) : am_cq sh 4 85 M [mok, am_I (nI j)] (mdn (am_up M1 (21, 11, 0) l 0) t (j + 1) b' m (21, 16, 0) (4 * l), Sum.inl none) := by
  refine am_cq_of (Nat.le_of_ble_eq_true rfl) rfl rfl (fun d hd => sg_85_0 rfl (by omega) rfl (by omega) rfl (by omega) (fun e => absurd hst e) (fun _ => ?_))
  rw [hjt, hjl]
  have hend : am_ev sh (am_cr sh d) 85 (55, [some mok, some (am_I (nI j)), some (am_I (nI t)), some (am_I (nI l)), none], [], M1, 0) (fun r => r = Sum.inr (mdn (am_up M1 (21, 11, 0) l 0) t (j + 1) b' m (21, 16, 0) (4 * l), Sum.inl none)) := by
    refine sg_85_55 rfl hl (fun e => absurd (hm.symm.trans e) h0) (fun _ => ?_)
    rw [hm]
    refine sg_85_75 rfl hl (M1 := mdn (am_up M1 (21, 11, 0) l 0) t (j + 1) b' m (21, 16, 0) (4 * l)) ?_ (sg_85_95 rfl)
    rw [am_up_k (by simp), hb, show (4 : Int32) * nI l = nI (4 * l) from pk_mul 4 l]
    exact m_goDown (N := 1024) ht (by omega) rfl (by omega) (by decide) (Or.inl (by simp)) (by rw [am_up_k (by simp)]; exact h23) d (by omega)
  have e24 : am_up M (21, 29, 0) j 1 (21, 24, 0) j = M (21, 24, 0) j := am_up_k (by simp)
  have e7 : am_up M (21, 29, 0) j 1 (21, 7, 0) t = M (21, 7, 0) t := am_up_k (by simp)
  refine sg_85_23 rfl (by omega) rfl (by omega) (fun e => ?_) (fun e => ?_)
  · rw [e24] at e
    rcases hg with ⟨-, rfl⟩ | ⟨q, -⟩ | ⟨q, -⟩
    · exact hend
    · exact absurd q e
    · exact absurd q e
  · rw [e24] at e
    refine sg_85_40 rfl ht (fun e2 => ?_) (fun e2 => ?_)
    · rw [e7] at e2
      rcases hg with ⟨q, -⟩ | ⟨-, -, rfl⟩ | ⟨-, q, -⟩
      · exact absurd e q
      · exact hend
      · exact absurd e2 q
    · rw [e7] at e2
      rcases hg with ⟨q, -⟩ | ⟨-, q, -⟩ | ⟨-, -, q⟩
      · exact absurd e q
      · exact absurd q e2
      · exact sg_85_49 (q d hd) hend
theorem m_leaveEnd {v : Int32} (hj : j < 64) (hl : l < 256) (hjl : M (21, 28, 0) j = nI l) (hst : ¬ M (21, 29, 0) j = 0) (hv : v = if M (21, 24, 0) j = 2 then -1 else M (21, 10, 0) l) : am_cq sh 1 85 M [mok, am_I (nI j)] (mpop (am_up M (21, 10, 0) l v), Sum.inl none) := by
  refine am_cq_of (Nat.le_of_ble_eq_true rfl) rfl rfl (fun d hd => sg_85_0 rfl hj rfl hj rfl hj (fun _ => ?_) (fun e => absurd e hst))
  rw [hjl]
  refine sg_85_96 rfl hj (fun e => ?_) (fun e => ?_)
  · rw [if_neg e] at hv
    subst hv
    exact sg_85_115 rfl hl (sg_85_121 (Ns0 := 256) (by decide) rfl hl rfl rfl)
  · rw [if_pos e] at hv
    subst hv
    exact sg_85_111 (sg_85_121 (Ns0 := 256) (by decide) rfl hl rfl rfl)
end US
