-- leaving, on both sides
section UL
variable {sh : am_Sh} {c n : Nat} {X X1 M M1 : am_M} {t s w j b m : Nat} {wr : Wr}
theorem mpop_23 (h : M (20, 0, 0) 23 = nI (j + 1)) : mpop M (20, 0, 0) 23 = nI j := by
  unfold mpop
  rw [am_up_same, h]
  exact nI_pred j
theorem mpop_else {k : am_K} {i : Nat} (h : ¬ (k = (20, 0, 0) ∧ i = 23)) : mpop M k i = M k i := am_up_n h
theorem rel_pop {q : Nat × Nat × Nat} (h : rel sh c q X M) : rel sh c q X (mpop M) := rel_up h (mv_no20 (Or.inr rfl))
theorem sim_wdir (hsh : shk sh) (ht : t < sh.1) (hs : s < zs sh t) (hw : w < wy sh t) (hsw : SW sh (t + 1) n wr) (hII : II sh (am_up X1 (9, t, ci sh t s w) 2 0)) (hch : chk sh X1) (hrel : rel sh c nol X1 M1) (hb : b < 256) (hk : X1 (9, t, ci sh t s w) 1 = nI b) (hm : m < 16) (hd : X1 (9, t, ci sh t s w) 2 = nI m) (hjn : j + 2 * n + 3 ≤ 64) (hc : c + KK n < 2 ^ 31) (h23 : M (20, 0, 0) 23 = nI (j + 1)) (h24 : M (21, 24, 0) j = 2 ∨ M (21, 24, 0) j = 3) (h25 : M (21, 25, 0) j = nI t) (h28 : M (21, 28, 0) j = nI (mi t s w)) (h29 : M (21, 29, 0) j = 0) (hmg : mgf (am_up M (21, 29, 0) j 1) M1)
    (hg : (¬ M (21, 24, 0) j = 2 ∧ M1 = am_up M (21, 29, 0) j 1) ∨ (M (21, 24, 0) j = 2 ∧ M (21, 7, 0) t = 0 ∧ M1 = am_up M (21, 29, 0) j 1) ∨ (M (21, 24, 0) j = 2 ∧ ¬ M (21, 7, 0) t = 0 ∧ am_cq sh 3 86 (am_up M (21, 29, 0) j 1) [mok, am_I (nI t), am_I (nI (mi t s w))] (M1, Sum.inl none))) :
    ∃ c' M', wkr sh M M' ∧ rel sh c' nol (wdir wr t (ci sh t s w) X1) M' ∧ c' ≤ c + KK n ∧ M' (20, 0, 0) 23 = nI (j + 1) ∧ mfm t j M M' ∧ M' (21, 24, 0) j = M (21, 24, 0) j ∧ M' (21, 28, 0) j = nI (mi t s w) ∧ M' (21, 29, 0) j = 1 := by
  obtain ⟨k1, k2, k3⟩ := sw_lt hsh ht hs hw
  have hl := mi_lt k3 k1 k2
  have hp : ¬ X1 (9, t, ci sh t s w) 1 = -1 := by rw [hk]; exact nI_ne_m1 (by omega)
  obtain ⟨r1, r2⟩ := hrel.2.2.1 t s w ht hs hw
  obtain ⟨r3, r4, r5, r6⟩ := r2 hp
  have q23 : M1 (20, 0, 0) 23 = nI (j + 1) := by rw [hmg _ _ (by simp) (by simp) (by simp), am_up_k (by simp)]; exact h23
  have q24 : M1 (21, 24, 0) j = M (21, 24, 0) j := by rw [hmg _ _ (by simp) (by simp) (by simp), am_up_k (by simp)]
  have q28 : M1 (21, 28, 0) j = nI (mi t s w) := by rw [hmg _ _ (by simp) (by simp) (by simp), am_up_k (by simp)]; exact h28
  have q29 : M1 (21, 29, 0) j = 1 := by rw [hmg _ _ (by simp) (by simp) (by simp), am_up_same]
  have hf1 : mfm t j M M1 := mfm_trans (mfm_up (munJ (by omega) (Nat.le_refl _))) (mfm_gt hmg)
  have hf2 : mfm t j M (am_up M1 (21, 11, 0) (mi t s w) 0) := mfm_trans hf1 (mfm_up (mun21 (by omega)))
  have hr1 := rel_drt hsh hrel ht hs hw 0
  rw [wdir_eq hb hk hd]
  by_cases h0 : nI m = 0
  · rw [if_pos h0]
    refine ⟨c, am_up M1 (21, 11, 0) (mi t s w) 0, fun d P hd5 k => ?_, hr1, by omega, ?_, hf2, ?_, ?_, ?_⟩
    · exact wk_leave (by omega) h23 h24 (am_cq_up (m_leave0 (v := 0) (k := 0) (by omega) hl k3 h25 h28 h29 hg (by rw [r3, hd]; exact h0)) (by omega)) hd5 k
    · rw [am_up_k (by simp)]; exact q23
    · rw [am_up_k (by simp)]; exact q24
    · rw [am_up_k (by simp)]; exact q28
    · rw [am_up_k (by simp)]; exact q29
  · rw [if_neg h0]
    have hMA := m_leave1 (sh := sh) (m := nI m) (b' := nI b) (by omega) hl k3 h25 h28 h29 hg (by rw [r3, hd]) h0 (by rw [r1, hk]) q23
    have hbof : bof (nI m) = bcf (nI m) := bof_bcf ⟨m, hm⟩
    have e8 : am_up M1 (21, 11, 0) (mi t s w) 0 (21, 8, 0) (6 * t + 5) + bof (nI m) = am_up X1 (9, t, ci sh t s w) 2 0 (8, t, 0) 5 + bcf (nI m) := by rw [hbof, (hr1.2.1 t ht).2.1 5 (by omega)]
    have hrA : rel sh c nol (am_up (am_up X1 (9, t, ci sh t s w) 2 0) (8, t, 0) 5 (am_up X1 (9, t, ci sh t s w) 2 0 (8, t, 0) 5 + bcf (nI m))) (mdn (am_up M1 (21, 11, 0) (mi t s w) 0) t (j + 1) (nI b) (nI m) (21, 16, 0) (4 * mi t s w)) := by
      unfold mdn
      rw [e8]
      exact rel_psh (rel_mcp (rel_cnt hr1 ht (by omega) _) (by omega))
    have hwd : ∀ k, k < 4 → mdn (am_up M1 (21, 11, 0) (mi t s w) 0) t (j + 1) (nI b) (nI m) (21, 16, 0) (4 * mi t s w) (21, 22, 0) (4 * (t + 1) + k) = am_up (am_up X1 (9, t, ci sh t s w) 2 0) (8, t, 0) 5 (am_up X1 (9, t, ci sh t s w) 2 0 (8, t, 0) 5 + bcf (nI m)) (10, t, ci sh t s w) k := by
      intro k hk4
      unfold mdn
      rw [mpsh_else (by simp) (by simp; omega), show 4 * (t + 1) + k = 4 * t + 4 + k by omega, mcp_in hk4, if_pos rfl, am_up_k (by simp), am_up_k (by simp), am_up_k (by simp), am_up_k (by simp)]
      exact r6 (by simp; omega) k hk4
    have htop : ∀ a v, 24 ≤ a → a ≤ 29 → M1 (21, a, 0) j = v → mdn (am_up M1 (21, 11, 0) (mi t s w) 0) t (j + 1) (nI b) (nI m) (21, 16, 0) (4 * mi t s w) (21, a, 0) j = v := by
      intro a v h1 h2 hv
      unfold mdn
      rw [mpsh_job (by omega), mcp_else (by simp; omega), am_up_k (by simp; omega), am_up_k (by simp; omega)]
      exact hv
    have hpt := mpsh_top (M := mcp (am_up (am_up M1 (21, 11, 0) (mi t s w) 0) (21, 8, 0) (6 * t + 5) (am_up M1 (21, 11, 0) (mi t s w) 0 (21, 8, 0) (6 * t + 5) + bof (nI m))) allp (21, 16, 0) (21, 22, 0) (4 * mi t s w) (4 * t + 4) 4) (j := j + 1) (x1 := 1) (x2 := nI (t + 1)) (x3 := nI b) (x4 := nI m) (x5 := 0)
    have hfA : mfm t j M (mdn (am_up M1 (21, 11, 0) (mi t s w) 0) t (j + 1) (nI b) (nI m) (21, 16, 0) (4 * mi t s w)) := by
      unfold mdn
      exact mfm_trans (mfm_trans (mfm_trans hf2 (mfm_up (mun21 (by omega)))) (mfm_mcp (fun i h1 _ => munW h1))) (mfm_psh (by omega))
    have hch2 : chk sh (am_up (am_up X1 (9, t, ci sh t s w) 2 0) (8, t, 0) 5 (am_up X1 (9, t, ci sh t s w) 2 0 (8, t, 0) 5 + bcf (nI m))) := chk_of hch (fun u => by rw [am_up_k (by simp), am_up_k (by simp)])
    have hi := lx_lt hsh ht hs hw
    obtain ⟨c', MB, g1, g2, g3, g4, g5⟩ := hsw c _ _ (j + 1) b m (10, t, ci sh t s w) (II_up hII (by simp)) hch2 hrA hb hm (key10 ht hi).1 (key10 ht hi).2 hwd (by omega) hc hpt.1 hpt.2.1 hpt.2.2.1 hpt.2.2.2.1 hpt.2.2.2.2.1 hpt.2.2.2.2.2.2
    have hjob : ∀ a v, 24 ≤ a → a ≤ 29 → M1 (21, a, 0) j = v → MB (21, a, 0) j = v := fun a v h1 h2 hv => (g5 (21, a, 0) j (Or.inr (Or.inr (Or.inl ⟨a, rfl, h1, h2, by omega⟩)))).trans (htop a v h1 h2 hv)
    refine ⟨c', MB, fun d P hd5 k => ?_, g2, g3, g4, mfm_trans hfA (mfm_dn g5 (by omega) (by omega)), hjob 24 _ (by omega) (by omega) q24, hjob 28 _ (by omega) (by omega) q28, hjob 29 _ (by omega) (by omega) q29⟩
    exact wk_leave (by omega) h23 h24 (am_cq_up hMA (by omega)) hd5 (g1 d P hd5 k)
theorem sim_leave (hsh : shk sh) (ht : t < sh.1) (hs : s < zs sh t) (hw : w < wy sh t) (hsw : SW sh (t + 1) n wr) (hII : II sh X) (hch : chk sh X) (hrel : rel sh c nol X M) (hb : b < 256) (hk : X (9, t, ci sh t s w) 1 = nI b) (hjn : j + 2 * n + 3 ≤ 64) (hc : c + KK n < 2 ^ 31) (h23 : M (20, 0, 0) 23 = nI (j + 1)) (h24 : M (21, 24, 0) j = 2) (h25 : M (21, 25, 0) j = nI t) (h28 : M (21, 28, 0) j = nI (mi t s w)) (h29 : M (21, 29, 0) j = 0) :
    ∃ c' M', wkr sh M M' ∧ rel sh c' nol (lev sh wr t (ci sh t s w) X) M' ∧ c' ≤ c + KK n ∧ M' (20, 0, 0) 23 = nI j ∧ mfm t j M M' := by
  obtain ⟨k1, k2, k3⟩ := sw_lt hsh ht hs hw
  have hl := mi_lt k3 k1 k2
  have hi := lx_lt hsh ht hs hw
  obtain ⟨z1, z2, z3, z4, ⟨m, hm, z5⟩, z6⟩ := lv0_eff (key := nok) hsh hII ht hi hb hk
  have hr0 : rel sh c nol X (am_up M (21, 29, 0) j 1) := rel_up hrel (mv_no21 (by omega))
  have e7 : M (21, 7, 0) t = X (5, t, 0) 4 := (hrel.2.1 t ht).1.2.2.2.2
  have hch1 : chk sh (lv0 sh t (ci sh t s w) X) := chk_of hch (fun u => z6 _ _ (by simp) (by simp))
  have key : ∃ M1, rel sh c nol (lv0 sh t (ci sh t s w) X) M1 ∧ mgf (am_up M (21, 29, 0) j 1) M1 ∧ ((¬ M (21, 24, 0) j = 2 ∧ M1 = am_up M (21, 29, 0) j 1) ∨ (M (21, 24, 0) j = 2 ∧ M (21, 7, 0) t = 0 ∧ M1 = am_up M (21, 29, 0) j 1) ∨ (M (21, 24, 0) j = 2 ∧ ¬ M (21, 7, 0) t = 0 ∧ am_cq sh 3 86 (am_up M (21, 29, 0) j 1) [mok, am_I (nI t), am_I (nI (mi t s w))] (M1, Sum.inl none))) := by
    by_cases h0 : X (5, t, 0) 4 = 0
    · refine ⟨am_up M (21, 29, 0) j 1, ?_, fun _ _ _ _ _ => rfl, Or.inr (Or.inl ⟨h24, e7.trans h0, rfl⟩)⟩
      unfold lv0
      rw [if_pos h0]
      exact hr0
    · obtain ⟨g1, g2, g3⟩ := mgt_rel hsh ht hs hw hb hr0 hII.2.1 hII.2.2.1 hII.2.2.2.1 hk
      refine ⟨_, ?_, g3, Or.inr (Or.inr ⟨h24, fun e => h0 (e7.symm.trans e), g1⟩)⟩
      unfold lv0
      rw [if_neg h0]
      exact g2
  obtain ⟨M1, p1, p2, p3⟩ := key
  obtain ⟨c', MB, b1, b2, b3, b4, b5, b6, b7, b8⟩ := sim_wdir hsh ht hs hw hsw z1 hch1 p1 hb (by rw [z4]; exact hk) hm z5 hjn hc h23 (Or.inl h24) h25 h28 h29 p2 p3
  have e24 : MB (21, 24, 0) j = 2 := b6.trans h24
  have hE := m_leaveEnd (sh := sh) (M := MB) (j := j) (l := mi t s w) (v := -1) (by omega) hl b7 (by rw [b8]; decide) (by rw [if_pos e24])
  refine ⟨c', _, wkr_trans b1 (fun d P hd5 k => wk_leave (by omega) b4 (Or.inl e24) (am_cq_up hE (by omega)) hd5 k), ?_, b3, ?_, mfm_trans b5 (mfm_trans (mfm_up (mun21 (by omega))) mfm_pop)⟩
  · have hlev : lev sh wr t (ci sh t s w) X = go1 (wdir wr t (ci sh t s w) (lv0 sh t (ci sh t s w) X)) t (ci sh t s w) := rfl
    rw [hlev]
    refine rel_go hsh b2 ht hs hw (by rw [mpop_else (by simp), am_up_same]) (fun k i hv n1 n2 => ?_)
    rw [mpop_else (fun e => by rw [e.1, e.2] at hv; exact mv_no20 (Or.inr rfl) hv), am_up_n n1]
  · exact mpop_23 (by rw [am_up_k (by simp)]; exact b4)
/-- cleaning: the line stays -/
theorem sim_clean (hsh : shk sh) (ht : t < sh.1) (hs : s < zs sh t) (hw : w < wy sh t) (hsw : SW sh (t + 1) n wr) (hII : II sh X) (hch : chk sh X) (hrel : rel sh c nol X M) (hb : b < 256) (hk : X (9, t, ci sh t s w) 1 = nI b) (hjn : j + 2 * n + 3 ≤ 64) (hc : c + KK n < 2 ^ 31) (h23 : M (20, 0, 0) 23 = nI (j + 1)) (h24 : M (21, 24, 0) j = 3) (h25 : M (21, 25, 0) j = nI t) (h28 : M (21, 28, 0) j = nI (mi t s w)) (h29 : M (21, 29, 0) j = 0) :
    ∃ c' M', wkr sh M M' ∧ rel sh c' nol (wdir wr t (ci sh t s w) X) M' ∧ c' ≤ c + KK n ∧ M' (20, 0, 0) 23 = nI j ∧ mfm t j M M' := by
  obtain ⟨k1, k2, k3⟩ := sw_lt hsh ht hs hw
  have hl := mi_lt k3 k1 k2
  have hi := lx_lt hsh ht hs hw
  obtain ⟨m, hm, hd⟩ := hII.2.2.2.1 t ht _ hi
  have hr0 : rel sh c nol X (am_up M (21, 29, 0) j 1) := rel_up hrel (mv_no21 (by omega))
  obtain ⟨c', MB, b1, b2, b3, b4, b5, b6, b7, b8⟩ := sim_wdir hsh ht hs hw hsw (II_dirty (m := 0) hII (by decide) (fun _ => rfl)) hch hr0 hb hk hm hd hjn hc h23 (Or.inr h24) h25 h28 h29 (fun _ _ _ _ _ => rfl) (Or.inl ⟨by rw [h24]; decide, rfl⟩)
  have e24 : ¬ MB (21, 24, 0) j = 2 := by rw [b6, h24]; decide
  have hE := m_leaveEnd (sh := sh) (M := MB) (j := j) (l := mi t s w) (v := MB (21, 10, 0) (mi t s w)) (by omega) hl b7 (by rw [b8]; decide) (by rw [if_neg e24])
  refine ⟨c', _, wkr_trans b1 (fun d P hd5 k => wk_leave (by omega) b4 (Or.inr (b6.trans h24)) (am_cq_up hE (by omega)) hd5 k), ?_, b3, ?_, mfm_trans b5 (mfm_trans (mfm_up (mun21 (by omega))) mfm_pop)⟩
  · rw [am_up_id]
    exact rel_pop b2
  · exact mpop_23 (by rw [am_up_k (by simp)]; exact b4)
end UL
