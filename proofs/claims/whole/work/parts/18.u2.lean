-- the reference's steps of writing; its loop
section UW
variable {sh : am_Sh} {M : am_M} {j t b l : Nat} {m : Int32}
theorem m_write0 {h : Nat} (hj : j < 64) (hb : b < 256) (hh : h < 5) (hjt : M (21, 25, 0) j = nI h) (hjb : M (21, 26, 0) j = nI b) (hjm : M (21, 27, 0) j = m) (htc : M (20, 0, 0) 1 = nI h) : am_cq sh 2 79 M [mok, am_I (nI j)] (msto M b h m, Sum.inl none) := by
  refine am_cq_of (Nat.le_of_ble_eq_true rfl) rfl rfl (fun d hd => sg_79_0 rfl hj rfl hj rfl hj (fun e => absurd (hjt.trans htc.symm) e) (fun _ => ?_))
  rw [hjt, hjb, hjm]
  exact sg_79_30 (m_storeWords hb hh htc d hd) rfl
/-- what a write job at tier t says -/
def wj (M : am_M) (h j t b : Nat) (m st : Int32) : Prop := j < 64 ∧ t < h ∧ h ≤ 4 ∧ M (20, 0, 0) 1 = nI h ∧ M (21, 25, 0) j = nI t ∧ M (21, 26, 0) j = nI b ∧ M (21, 27, 0) j = m ∧ M (21, 29, 0) j = st
theorem wj_go {h : Nat} {st : Int32} (hw : wj M h j t b m st) {d : Nat} {P : am_S ⊕ am_O → Prop} (k : am_ev sh (am_cr sh d) 79 (44, [some mok, some (am_I (nI j)), some (am_I (nI t)), some (am_I (nI b)), some (am_I m), none, none], [am_I st], M, 0) P) : am_ev sh (am_cr sh d) 79 (0, [some mok, some (am_I (nI j)), none, none, none, none, none], [], M, 0) P := by
  obtain ⟨hj, ht, hh, htc, hjt, hjb, hjm, hst⟩ := hw
  refine sg_79_0 rfl hj rfl hj rfl hj (fun _ => ?_) (fun e => absurd (hjt.symm.trans (e.trans htc)) (nt_ne (by omega) (by omega) (by omega)))
  rw [hjt, hjb, hjm]
  refine sg_79_38 rfl hj ?_
  rw [hst]
  exact k
theorem wj_cq {h : Nat} {st : Int32} {k : Nat} {o : am_O} (hw : wj M h j t b m st) (hk : ∀ d, k ≤ d → am_ev sh (am_cr sh d) 79 (44, [some mok, some (am_I (nI j)), some (am_I (nI t)), some (am_I (nI b)), some (am_I m), none, none], [am_I st], M, 0) (fun r => r = Sum.inr o)) : am_cq sh (k + 1) 79 M [mok, am_I (nI j)] o :=
  am_cq_of (Nat.le_of_ble_eq_true rfl) rfl rfl (fun d hd => wj_go hw (hk d hd))
theorem m_begin {h : Nat} {M' : am_M} (hw : wj M h j t b m 0) (hr : am_cq sh 4 81 M [mok, am_I (nI j)] (M', Sum.inl none)) : am_cq sh 5 79 M [mok, am_I (nI j)] (M', Sum.inl none) :=
  wj_cq hw (fun d hd => am_e_tsw dd_79_44 (by decide) (off := 36) rfl (tgt := 80) rfl (sg_79_80 (hr d hd) (sg_79_304 rfl)))
theorem m_beginHit {h z y : Nat} (hw : wj M h j t b m 0) (hb : b < 256) (hl : l < 256) (hm : mcf M t z y) (hnw : ¬ M (21, 6, 0) t = 2) (hf : mfl M (nI b) (64 * t + 4 * (b % z)) 0 y (-1) = nI l) : am_cq sh 4 81 M [mok, am_I (nI j)] (am_up (muse (mcn (am_up M (21, 28, 0) j (nI l)) (6 * t + 2)) l) (21, 29, 0) j 3, Sum.inl none) := by
  obtain ⟨hj, ht, hh, htc, hjt, hjb, hjm, hst⟩ := hw
  refine am_cq_of (Nat.le_of_ble_eq_true rfl) rfl rfl (fun d hd => ?_)
  have hfd := m_find (sh := sh) hm hb d (by omega)
  rw [hf, ← hjt, ← hjb] at hfd
  refine sg_81_0 rfl hj rfl hj hfd rfl hj hjt hm.1 (fun _ => ?_) (fun e => absurd (by rw [am_up_k (by simp)] at e; exact e) hnw)
  rw [hjt]
  refine sg_81_72 (fun e => absurd e (nI_pos (by omega))) (fun _ => sg_81_84 (sg_81_89 (j1 := 6 * t + 2) (Ns0 := 24) (by decide) (n6 t 2) (by omega) rfl (fun _ => sg_81_107 (m_use hl d (by omega)) rfl hj (sg_81_119 rfl)) (fun e => absurd (nI_pos' (by omega)) e)))
theorem m_beginMiss {h z y : Nat} {M' : am_M} (hw : wj M h j t b m 0) (hb : b < 256) (hm : mcf M t z y) (hnw : ¬ M (21, 6, 0) t = 2) (hf : mfl M (nI b) (64 * t + 4 * (b % z)) 0 y (-1) = -1) (hr : am_cq sh 3 70 (mcn (am_up M (21, 28, 0) j (-1)) (6 * t + 3)) [mok, am_I (nI j)] (M', Sum.inl none)) : am_cq sh 4 81 M [mok, am_I (nI j)] (M', Sum.inl none) := by
  obtain ⟨hj, ht, hh, htc, hjt, hjb, hjm, hst⟩ := hw
  refine am_cq_of (Nat.le_of_ble_eq_true rfl) rfl rfl (fun d hd => ?_)
  have hfd := m_find (sh := sh) hm hb d (by omega)
  rw [hf, ← hjt, ← hjb] at hfd
  refine sg_81_0 rfl hj rfl hj hfd rfl hj hjt hm.1 (fun _ => ?_) (fun e => absurd (by rw [am_up_k (by simp)] at e; exact e) hnw)
  rw [hjt]
  refine sg_81_72 (fun _ => sg_81_88 (sg_81_89 (j1 := 6 * t + 3) (Ns0 := 24) (by decide) (n6 t 3) (by omega) rfl (fun e => absurd e (by decide)) (fun _ => sg_81_99 (hr d hd) (sg_81_119 rfl)))) (fun e => absurd (by decide) e)
theorem m_aroundMiss {h z y : Nat} (hw : wj M h j t b m 0) (hb : b < 256) (hm : mcf M t z y) (hnw : M (21, 6, 0) t = 2) (hf : mfl M (nI b) (64 * t + 4 * (b % z)) 0 y (-1) = -1) : am_cq sh 4 81 M [mok, am_I (nI j)] (am_up (mcn (am_up M (21, 28, 0) j (-1)) (6 * t + 3)) (21, 29, 0) j 4, Sum.inl none) := by
  obtain ⟨hj, ht, hh, htc, hjt, hjb, hjm, hst⟩ := hw
  refine am_cq_of (Nat.le_of_ble_eq_true rfl) rfl rfl (fun d hd => ?_)
  have hfd := m_find (sh := sh) hm hb d (by omega)
  rw [hf, ← hjt, ← hjb] at hfd
  refine sg_81_0 rfl hj rfl hj hfd rfl hj hjt hm.1 (fun e => absurd (by rw [am_up_k (by simp)]; exact hnw) e) (fun _ => ?_)
  rw [hjt]
  exact sg_81_36 (j1 := 6 * t + 3) (n6 t 3) (by omega) rfl hj (fun _ => sg_81_71 rfl) (fun e => absurd (by decide) e)
theorem m_aroundHit {h z y : Nat} (hw : wj M h j t b m 0) (hj3 : j < 63) (hb : b < 256) (hl : l < 256) (hm : mcf M t z y) (hnw : M (21, 6, 0) t = 2) (hjn : M (20, 0, 0) 23 = nI (j + 1)) (hf : mfl M (nI b) (64 * t + 4 * (b % z)) 0 y (-1) = nI l) : am_cq sh 4 81 M [mok, am_I (nI j)] (mpsh (am_up (mcn (am_up M (21, 28, 0) j (nI l)) (6 * t + 3)) (21, 29, 0) j 4) (j + 1) 2 (nI t) 0 0 (nI l), Sum.inl none) := by
  obtain ⟨hj, ht, hh, htc, hjt, hjb, hjm, hst⟩ := hw
  refine am_cq_of (Nat.le_of_ble_eq_true rfl) rfl rfl (fun d hd => ?_)
  have hfd := m_find (sh := sh) hm hb d (by omega)
  rw [hf, ← hjt, ← hjb] at hfd
  refine sg_81_0 rfl hj rfl hj hfd rfl hj hjt hm.1 (fun e => absurd (by rw [am_up_k (by simp)]; exact hnw) e) (fun _ => ?_)
  rw [hjt]
  refine sg_81_36 (j1 := 6 * t + 3) (n6 t 3) (by omega) rfl hj (fun e => absurd e (nI_pos (by omega))) (fun _ => sg_81_62 (m_push (by omega) ?_ d (by omega)) (sg_81_71 rfl))
  rw [am_up_k (by simp), am_up_k (by simp), am_up_k (by simp)]
  exact hjn
def mwat (M : am_M) (t h : Nat) : Bool := (ff (fun u => decide (¬ M (21, 7, 0) u = 0)) (t + 1) (h - (t + 1))).isSome
theorem m_writeDown {h : Nat} (hw : wj M h j t b m 1) (hj3 : j < 63) (hjn : M (20, 0, 0) 23 = nI (j + 1)) (hc : (decide (¬ m = 15) || mwat M t h) = true) : am_cq sh 3 79 M [mok, am_I (nI j)] (mpsh (am_up M (21, 29, 0) j 2) (j + 1) 0 (nI (t + 1)) (nI b) 0 0, Sum.inl none) := by
  have hw' := hw
  obtain ⟨hj, ht, hh, htc, hjt, hjb, hjm, hst⟩ := hw
  refine wj_cq hw' (fun d hd => am_e_tsw dd_79_44 (by decide) (off := 44) rfl (tgt := 88) rfl ?_)
  have hend : am_ev sh (am_cr sh d) 79 (103, [some mok, some (am_I (nI j)), some (am_I (nI t)), some (am_I (nI b)), some (am_I m), none, none], [], M, 0) (fun r => r = Sum.inr (mpsh (am_up M (21, 29, 0) j 2) (j + 1) 0 (nI (t + 1)) (nI b) 0 0, Sum.inl none)) := by
    refine sg_79_103 rfl hj (M1 := mpsh (am_up M (21, 29, 0) j 2) (j + 1) 0 (nI (t + 1)) (nI b) 0 0) ?_ (sg_79_304 rfl)
    rw [nI_1]
    exact m_push (by omega) (by rw [am_up_k (by simp)]; exact hjn) d (by omega)
  refine sg_79_88 (fun _ => hend) (fun e => sg_79_95 (m_isWatched (by omega) ht htc d (by omega)) (fun e2 => ?_) (fun _ => hend))
  rw [decide_eq_false (fun q => q e), Bool.false_or] at hc
  unfold mwat at hc
  rw [hc] at e2
  exact absurd e2 (by decide)
theorem m_writeFill0 {h : Nat} (hw : wj M h j t b m 1) (hl : l < 256) (hjl : M (21, 28, 0) j = nI l) (hc : (decide (¬ m = 15) || mwat M t h) = false) : am_cq sh 4 79 M [mok, am_I (nI j)] (am_up (mfil M t l (nI b) false) (21, 29, 0) j 3, Sum.inl none) := by
  have hw' := hw
  obtain ⟨hj, ht, hh, htc, hjt, hjb, hjm, hst⟩ := hw
  obtain ⟨h1, h2⟩ := Bool.or_eq_false_iff.mp hc
  have h15 : m = 15 := Decidable.not_not.mp (of_decide_eq_false h1)
  refine wj_cq hw' (fun d hd => am_e_tsw dd_79_44 (by decide) (off := 44) rfl (tgt := 88) rfl (sg_79_88 (fun e => absurd h15 e) (fun _ => sg_79_95 (m_isWatched (by omega) ht htc d (by omega)) (fun _ => sg_79_124 (m_fillLine hj (by omega) hl hjt hjl hjb false d hd) rfl hj (sg_79_304 rfl)) (fun e => ?_))))
  unfold mwat at h2
  rw [h2] at e
  exact absurd rfl e
theorem m_writeFill1 {h : Nat} (hw : wj M h j t b m 2) (hl : l < 256) (hjl : M (21, 28, 0) j = nI l) : am_cq sh 4 79 M [mok, am_I (nI j)] (am_up (mfil M t l (nI b) true) (21, 29, 0) j 3, Sum.inl none) := by
  have hw' := hw
  obtain ⟨hj, ht, hh, htc, hjt, hjb, hjm, hst⟩ := hw
  exact wj_cq hw' (fun d hd => am_e_tsw dd_79_44 (by decide) (off := 96) rfl (tgt := 140) rfl (sg_79_140 (m_fillLine hj (by omega) hl hjt hjl hjb true d hd) rfl hj (sg_79_304 rfl)))
theorem wc_loop (hj : j < 64) (ht : t < 4) (hl : l < 256) (hjl : M (21, 28, 0) j = nI l) {x3 : Int32} {d : Nat} {P : am_S ⊕ am_O → Prop} : ∀ (k i : Nat) (u6 : Option am_V), i + k = 4 → (∀ u6, am_ev sh (am_cr sh d) 79 (223, [some mok, some (am_I (nI j)), some (am_I (nI t)), some (am_I x3), some (am_I m), some (am_I (nI 4)), u6], [], mcp M (mbt m) (21, 22, 0) (21, 16, 0) (4 * t) (4 * l) 4, 0) P) → am_ev sh (am_cr sh d) 79 (159, [some mok, some (am_I (nI j)), some (am_I (nI t)), some (am_I x3), some (am_I m), some (am_I (nI i)), u6], [], mcp M (mbt m) (21, 22, 0) (21, 16, 0) (4 * t) (4 * l) i, 0) P := by
  intro k
  induction k with
  | zero =>
    intro i u6 hi hP
    have : i = 4 := by omega
    subst this
    exact sg_79_159 (fun _ => hP _) (fun h => absurd (nI_le (a := 4) (by omega) (by omega)) h)
  | succ k ih =>
    intro i u6 hi hP
    have e28 : (4 : Int32) * mcp M (mbt m) (21, 22, 0) (21, 16, 0) (4 * t) (4 * l) i (21, 28, 0) j + nI i = nI (4 * l + i) := by rw [mcp_else (by simp), hjl]; exact n4 l i
    refine sg_79_159 (fun h => absurd h (nI_ge (b := 4) (by omega) (by omega))) (fun _ => sg_79_165 rfl hj (fun q => ?_) (fun q => ?_))
    · rw [e28]
      refine sg_79_209 rfl (show 4 * l + i < 1024 by omega) (sg_79_216 (Ns0 := 1024) (by decide) rfl (by omega) rfl ?_)
      rw [nI_1, am_up_id, mcp_f (decide_eq_false q)]
      exact ih _ _ (by omega) hP
    · rw [e28]
      refine sg_79_195 (n4 t i) (show 4 * t + i < 20 by omega) (sg_79_216 (Ns0 := 1024) (by decide) rfl (show 4 * l + i < 1024 by omega) rfl ?_)
      rw [nI_1, mcp_t (Or.inl (by simp)) (decide_eq_true q)]
      exact ih _ _ (by omega) hP
theorem m_writeWords {h : Nat} (hw : wj M h j t b m 3) (hl : l < 256) (hjl : M (21, 28, 0) j = nI l) : am_cq sh 1 79 M [mok, am_I (nI j)] (if M (21, 6, 0) t = 1 then mpop (am_up ((am_up (mcp M (mbt m) (21, 22, 0) (21, 16, 0) (4 * t) (4 * l) 4) (21, 29, 0) j 4)) (21, 11, 0) l (M (21, 11, 0) l ||| m)) else (am_up (mcp M (mbt m) (21, 22, 0) (21, 16, 0) (4 * t) (4 * l) 4) (21, 29, 0) j 4), Sum.inl none) := by
  have hw' := hw
  obtain ⟨hj, ht, hh, htc, hjt, hjb, hjm, hst⟩ := hw
  refine wj_cq hw' (fun d hd => am_e_tsw dd_79_44 (by decide) (off := 112) rfl (tgt := 156) rfl (sg_79_156 ?_))
  have e6 : am_up (mcp M (mbt m) (21, 22, 0) (21, 16, 0) (4 * t) (4 * l) 4) (21, 29, 0) j 4 (21, 6, 0) t = M (21, 6, 0) t := by rw [am_up_k (by simp), mcp_else (by simp)]
  have e28 : am_up (mcp M (mbt m) (21, 22, 0) (21, 16, 0) (4 * t) (4 * l) 4) (21, 29, 0) j 4 (21, 28, 0) j = nI l := by rw [am_up_k (by simp), mcp_else (by simp)]; exact hjl
  have e11 : am_up (mcp M (mbt m) (21, 22, 0) (21, 16, 0) (4 * t) (4 * l) 4) (21, 29, 0) j 4 (21, 11, 0) l = M (21, 11, 0) l := by rw [am_up_k (by simp), mcp_else (by simp)]
  have hlp := wc_loop (sh := sh) (M := M) (m := m) hj (show t < 4 by omega) hl hjl (x3 := nI b) (d := d) (P := fun r => r = Sum.inr (if M (21, 6, 0) t = 1 then mpop (am_up ((am_up (mcp M (mbt m) (21, 22, 0) (21, 16, 0) (4 * t) (4 * l) 4) (21, 29, 0) j 4)) (21, 11, 0) l (M (21, 11, 0) l ||| m)) else (am_up (mcp M (mbt m) (21, 22, 0) (21, 16, 0) (4 * t) (4 * l) 4) (21, 29, 0) j 4), Sum.inl none)) 4 0 none rfl (fun u6 => sg_79_223 rfl hj rfl (by omega) (fun e => ?_) (fun e => ?_))
  · rw [mcp_0] at hlp
    exact hlp
  · rw [e6] at e
    refine sg_79_304 ?_
    rw [if_neg e]
  · rw [e6] at e
    refine sg_79_240 rfl hj e28 hl (sg_79_304 ?_)
    rw [e11, if_pos e]
theorem m_writeNext {h : Nat} (hw : wj M h j t b m 4) (hj3 : j < 63) (hjn : M (20, 0, 0) 23 = nI (j + 1)) : am_cq sh 3 79 M [mok, am_I (nI j)] (mdn (am_up M (21, 29, 0) j 5) t (j + 1) (nI b) m (21, 22, 0) (4 * t), Sum.inl none) := by
  have hw' := hw
  obtain ⟨hj, ht, hh, htc, hjt, hjb, hjm, hst⟩ := hw
  refine wj_cq hw' (fun d hd => am_e_tsw dd_79_44 (by decide) (off := 225) rfl (tgt := 269) rfl (sg_79_269 rfl hj (M1 := mdn (am_up M (21, 29, 0) j 5) t (j + 1) (nI b) m (21, 22, 0) (4 * t)) ?_ (sg_79_304 rfl)))
  rw [show (4 : Int32) * nI t = nI (4 * t) from pk_mul 4 t]
  exact m_goDown (N := 20) (by omega) (by omega) rfl (by omega) (by decide) (Or.inr (by omega)) (by rw [am_up_k (by simp)]; exact hjn) d hd
theorem m_writeEnd {h : Nat} (hw : wj M h j t b m 5) : am_cq sh 1 79 M [mok, am_I (nI j)] (mpop M, Sum.inl none) :=
  wj_cq hw (fun d hd => am_e_tswOut dd_79_44 (by decide) (tgt := 294) rfl (sg_79_294 (sg_79_304 rfl)))
-- the loop
def wk (sh : am_Sh) (d : Nat) (P : am_S ⊕ am_O → Prop) (M : am_M) : Prop := ∀ u, am_ev sh (am_cr sh d) 66 (0, [some mok, u], [], M, 0) P
theorem wk_pre {d : Nat} {P : am_S ⊕ am_O → Prop} {x : Int32} (hj : j < 64) (hn : M (20, 0, 0) 23 = nI (j + 1)) (hx : M (21, 24, 0) j = x) (k : am_ev sh (am_cr sh d) 66 (20, [some mok, some (am_I (nI j))], [am_I x], M, 0) P) : wk sh d P M := by
  intro u
  have e : M (20, 0, 0) 23 - 1 = nI j := by rw [hn]; exact nI_pred j
  refine sg_66_0 (fun h => ?_) (fun _ => sg_66_7 e hj ?_)
  · rw [hn] at h
    exact absurd h (nI_nle (by omega) (by omega))
  · rw [e, hx]
    exact k
theorem wk_read {d : Nat} {P : am_S ⊕ am_O → Prop} {M' : am_M} (hj : j < 64) (hn : M (20, 0, 0) 23 = nI (j + 1)) (hx : M (21, 24, 0) j = 0) (hc : am_cq sh 5 67 M [mok, am_I (nI j)] (M', Sum.inl none)) (hd : 5 ≤ d) (k : wk sh d P M') : wk sh d P M :=
  wk_pre hj hn hx (am_e_lsw dd_66_20 (by decide) (off := 28) (by decide) (tgt := 48) rfl (sg_66_48 (hc d hd) (sg_66_69 (k _))))
theorem wk_write {d : Nat} {P : am_S ⊕ am_O → Prop} {M' : am_M} (hj : j < 64) (hn : M (20, 0, 0) 23 = nI (j + 1)) (hx : M (21, 24, 0) j = 1) (hc : am_cq sh 5 79 M [mok, am_I (nI j)] (M', Sum.inl none)) (hd : 5 ≤ d) (k : wk sh d P M') : wk sh d P M :=
  wk_pre hj hn hx (am_e_lsw dd_66_20 (by decide) (off := 36) (by decide) (tgt := 56) rfl (sg_66_56 (hc d hd) (sg_66_69 (k _))))
theorem wk_leave {d : Nat} {P : am_S ⊕ am_O → Prop} {M' : am_M} (hj : j < 64) (hn : M (20, 0, 0) 23 = nI (j + 1)) (hx : M (21, 24, 0) j = 2 ∨ M (21, 24, 0) j = 3) (hc : am_cq sh 5 85 M [mok, am_I (nI j)] (M', Sum.inl none)) (hd : 5 ≤ d) (k : wk sh d P M') : wk sh d P M := by
  rcases hx with hx | hx
  · exact wk_pre hj hn hx (am_e_lsw dd_66_20 (by decide) (off := 44) (by decide) (tgt := 64) rfl (sg_66_64 (hc d hd) (sg_66_69 (k _))))
  · exact wk_pre hj hn hx (am_e_lsw dd_66_20 (by decide) (off := 44) (by decide) (tgt := 64) rfl (sg_66_64 (hc d hd) (sg_66_69 (k _))))
theorem wk_done {d : Nat} {P : am_S ⊕ am_O → Prop} (hn : M (20, 0, 0) 23 = nI 0) (k : P (Sum.inr (M, Sum.inl none))) : wk sh d P M :=
  fun u => sg_66_0 (fun _ => sg_66_72 k) (fun h => absurd (by rw [hn]; decide) h)
end UW
