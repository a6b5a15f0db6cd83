-- room, reading: on both sides
section UR
variable {sh : am_Sh} {c n : Nat} {X M : am_M} {t s w j b m : Nat} {rd : Rd} {wr : Wr}
theorem sim_room (hsh : shk sh) (ht : t < sh.1) (hsw : SW sh (t + 1) n wr) (hII : II sh X) (hch : chk sh X) (hrel : rel sh c nol X M) (hb : b < 256) (hjn : j + 2 * n + 4 ≤ 64) (hc : c + KK n < 2 ^ 31) (h23 : M (20, 0, 0) 23 = nI (j + 1)) (h25 : M (21, 25, 0) j = nI t) (h26 : M (21, 26, 0) j = nI b) :
    ∃ M1 c' M' w, am_cq sh 3 70 M [mok, am_I (nI j)] (M1, Sum.inl none) ∧ wkr sh M1 M' ∧ w < wy sh t ∧ (mkr sh wr t b X).2 = ci sh t (b % zs sh t) w ∧ rel sh c' nol (mkr sh wr t b X).1 M' ∧ c' ≤ c + KK n ∧ M' (20, 0, 0) 23 = nI (j + 1) ∧ mfm t j M M' ∧ (∀ a, 24 ≤ a → a ≤ 27 → M' (21, a, 0) j = M (21, a, 0) j) ∧ M' (21, 28, 0) j = nI (mi t (b % zs sh t) w) ∧ M' (21, 29, 0) j = 1 := by
  have hset := b_set hsh ht b
  have hr0 : rel sh c nol X (am_up M (21, 29, 0) j 1) := rel_up hrel (mv_no21 (by omega))
  have hmc := rel_mcf hsh hrel ht
  have hfr := rel_free hsh hr0 hII.1 ht hset
  have hf0 : mfm t j M (am_up M (21, 29, 0) j 1) := mfm_up (munJ (by omega) (Nat.le_refl _))
  unfold mkr
  cases hf : ff (freeB sh X t (b % zs sh t)) 0 (wy sh t) with
  | some w =>
    rw [hf] at hfr
    dsimp only at hfr ⊢
    have hw : w < wy sh t := by have := (ff_some hf).2.1; omega
    obtain ⟨k1, k2, k3⟩ := sw_lt hsh ht hset hw
    refine ⟨_, c, _, w, m_room0 (h := 0) (by omega) hb hmc (mi_lt k3 k1 k2) h25 h26 hfr, wkr_refl, hw, rfl, rel_up hr0 (mv_no21 (by omega)), by omega, ?_, mfm_trans hf0 (mfm_up (munJ (by omega) (Nat.le_refl _))), fun a h1 h2 => ?_, by rw [am_up_same], ?_⟩
    · rw [am_up_k (by simp), am_up_k (by simp)]; exact h23
    · rw [am_up_k (by simp; omega), am_up_k (by simp; omega)]
    · rw [am_up_k (by simp), am_up_same]
  | none =>
    rw [hf] at hfr
    dsimp only at hfr ⊢
    obtain ⟨ha, hh⟩ := hd_of hsh hII.1 ht hset
    have hp : ∀ w, w < wy sh t → ¬ X (9, t, ci sh t (b % zs sh t) w) 1 = -1 := fun w hw => of_decide_eq_false (ff_none hf w (Nat.zero_le _) (by omega))
    have hhM : M (21, 9, 0) (16 * t + b % zs sh t) = nI (hdN X t (b % zs sh t)) := ((hrel.2.1 t ht).2.2 _ hset).trans hh
    have hwl := chs_lt hsh (X := X) (s := b % zs sh t) ht ha
    have hcho := (rel_choice hsh hch hr0 ht hset hp ha).1
    have hrc := rel_chs hsh hr0 ht hset hp ha
    have h23c : mchs (am_up M (21, 29, 0) j 1) t (b % zs sh t) (wy sh t) (hdN X t (b % zs sh t)) (20, 0, 0) 23 = nI (j + 1) := by rw [mchs_else (by simp) (by simp), am_up_k (by simp)]; exact h23
    have hM1 := m_room1 (sh := sh) (by omega) hb hmc ha h25 h26 h23 hhM hfr h23c
    have hval : mchs (am_up M (21, 29, 0) j 1) t (b % zs sh t) (wy sh t) (hdN X t (b % zs sh t)) (21, 8, 0) (6 * t + 4) + 1 = (chs sh X t (b % zs sh t) (hdN X t (b % zs sh t))).1 (8, t, 0) 4 + 1 := by rw [(hrc.2.1 t ht).2.1 4 (by omega)]
    obtain ⟨b', hb', hbk⟩ : ∃ b', b' < 256 ∧ X (9, t, ci sh t (b % zs sh t) (chs sh X t (b % zs sh t) (hdN X t (b % zs sh t))).2) 1 = nI b' := ((hII.1.2 t ht).2 _ (lx_lt hsh ht hset hwl)).resolve_left (hp _ hwl)
    have hII1 : II sh (am_up (chs sh X t (b % zs sh t) (hdN X t (b % zs sh t))).1 (8, t, 0) 4 ((chs sh X t (b % zs sh t) (hdN X t (b % zs sh t))).1 (8, t, 0) 4 + 1)) := II_up (II_chs hsh hII ht) (by simp)
    have hch1 : chk sh (am_up (chs sh X t (b % zs sh t) (hdN X t (b % zs sh t))).1 (8, t, 0) 4 ((chs sh X t (b % zs sh t) (hdN X t (b % zs sh t))).1 (8, t, 0) 4 + 1)) := chk_of hch (fun u => by rw [am_up_k (by simp), chs_else (by simp) (by simp)])
    have hel : 64 * t + 4 * (b % zs sh t) + mcho (am_up M (21, 29, 0) j 1) t (b % zs sh t) (wy sh t) (hdN X t (b % zs sh t)) = mi t (b % zs sh t) (chs sh X t (b % zs sh t) (hdN X t (b % zs sh t))).2 := by rw [hcho]; rfl
    unfold mrm at hM1
    rw [hel] at hM1
    generalize hN : am_up (mcn (mchs (am_up M (21, 29, 0) j 1) t (b % zs sh t) (wy sh t) (hdN X t (b % zs sh t))) (6 * t + 4)) (21, 28, 0) j (nI (mi t (b % zs sh t) (chs sh X t (b % zs sh t) (hdN X t (b % zs sh t))).2)) = N at hM1
    have hrN : rel sh c nol (am_up (chs sh X t (b % zs sh t) (hdN X t (b % zs sh t))).1 (8, t, 0) 4 ((chs sh X t (b % zs sh t) (hdN X t (b % zs sh t))).1 (8, t, 0) 4 + 1)) N := by
      rw [← hN]
      unfold mcn
      rw [hval]
      exact rel_up (rel_cnt hrc ht (by omega) _) (mv_no21 (by omega))
    have hNj : ∀ a, 24 ≤ a → a ≤ 27 → N (21, a, 0) j = M (21, a, 0) j := by
      intro a h1 h2
      rw [← hN, am_up_k (by simp; omega)]
      unfold mcn
      rw [am_up_k (by simp; omega), mchs_else (by simp; omega) (by simp; omega), am_up_k (by simp; omega)]
    have hN28 : N (21, 28, 0) j = nI (mi t (b % zs sh t) (chs sh X t (b % zs sh t) (hdN X t (b % zs sh t))).2) := by rw [← hN, am_up_same]
    have hN29 : N (21, 29, 0) j = 1 := by
      rw [← hN, am_up_k (by simp)]
      unfold mcn
      rw [am_up_k (by simp), mchs_else (by simp) (by simp), am_up_same]
    have hfN : mfm t j M N := by
      rw [← hN]
      exact mfm_trans (mfm_trans (mfm_trans hf0 mfm_chs) mfm_cn) (mfm_up (munJ (by omega) (Nat.le_refl _)))
    have hpt := mpsh_top (M := N) (j := j + 1) (x1 := 2) (x2 := nI t) (x3 := 0) (x4 := 0) (x5 := nI (mi t (b % zs sh t) (chs sh X t (b % zs sh t) (hdN X t (b % zs sh t))).2))
    obtain ⟨c', M', g1, g2, g3, g4, g5⟩ := sim_leave hsh ht hset hwl hsw hII1 hch1 (rel_psh (j := j + 1) (x1 := 2) (x2 := nI t) (x3 := 0) (x4 := 0) (x5 := nI (mi t (b % zs sh t) (chs sh X t (b % zs sh t) (hdN X t (b % zs sh t))).2)) hrN) hb' (by rw [am_up_k (by simp), blk_chs]; exact hbk) (by omega) hc hpt.1 hpt.2.1 hpt.2.2.1 hpt.2.2.2.2.2.1 hpt.2.2.2.2.2.2
    have hjob : ∀ a, 24 ≤ a → a ≤ 29 → M' (21, a, 0) j = N (21, a, 0) j := fun a h1 h2 => by rw [g5 (21, a, 0) j (Or.inr (Or.inr (Or.inl ⟨a, rfl, h1, h2, by omega⟩))), mpsh_job (by omega)]
    exact ⟨_, c', M', _, hM1, g1, hwl, rfl, g2, g3, g4, mfm_trans hfN (mfm_trans (mfm_psh (by omega)) (mfm_dn g5 (Nat.le_refl _) (by omega))), fun a h1 h2 => (hjob a h1 (by omega)).trans (hNj a h1 h2), (hjob 28 (by omega) (by omega)).trans hN28, (hjob 29 (by omega) (by omega)).trans hN29⟩
/-- the line is filled, with what was read, or not -/
theorem rel_fil (hsh : shk sh) (h : rel sh c nol X M) (ht : t < sh.1) (hs : s < zs sh t) (hw : w < wy sh t) (hab : X (9, t, ci sh t s w) 1 = -1) (hc : c + 1 < 2 ^ 31) (hwd : ∀ k, k < 4 → M (21, 21, 0) (4 * (t + 1) + k) = X (10, t, ci sh t s w) k) : rel sh (c + 1) nol (plac X t (ci sh t s w) (nI b)) (mfil M t (mi t s w) (nI b) true) := by
  unfold mfil
  rw [if_pos rfl]
  have h1 : rel sh c nol X (mcp M allp (21, 21, 0) (21, 16, 0) (4 * t + 4) (4 * mi t s w) 4) := rel_wds hsh h (Or.inl rfl) ht hs hw (fun _ _ _ => rfl) (fun k i _ hn => if_neg (fun r => hn ⟨r.1, r.2.1, r.2.2.1⟩)) (fun hp => absurd hab hp)
  refine rel_unex (rel_plc hsh h1 ht hs hw hc b) (fun k hk => ?_)
  rw [mplc_else (by simp; omega) (by simp), mcp_in hk, if_pos rfl, plac_else (by simp) (by simp), ← hwd k hk, show 4 * (t + 1) + k = 4 * t + 4 + k by omega]
theorem kab_of {i : Nat} (h : X (9, t, i) 1 = -1) : kab sh X (10, t, i) := by
  intro t' s' w' _ _ _ e
  simp at e
  obtain ⟨rfl, rfl⟩ := e
  exact h
/-- what is read lands in its place -/
theorem rel_key (h : rel sh c nol X M) {Y : am_M} {k0 key : am_K} (hk : okk sh key) (hkab : kab sh Y key) (hY : ∀ t' i, X (9, t', i) 1 = Y (9, t', i) 1) : rel sh c nol (am_cp X k0 key 0 0 4) M := by
  have h1 := okk_1 hk
  refine rel_X h (fun k j q => am_cp_else (fun e => by subst e; omega)) (fun t' s' w' h2 h3 h4 hp _ k hk4 => am_cp_else (fun e => hp ?_))
  rw [hY]
  exact hkab t' s' w' h2 h3 h4 e.symm
theorem am_cp_in {k0 k1 : am_K} {k : Nat} (hk : k < 4) : am_cp X k0 k1 0 0 4 k1 k = X k0 k := by
  unfold am_cp va_cpy
  rw [if_pos rfl, if_pos ⟨Nat.zero_le _, by omega⟩, Nat.zero_add, Nat.sub_zero]
theorem sim_read (hsh : shk sh) (ht : t < sh.1) (hr : SR sh (t + 1) n rd) (hsw : SW sh (t + 1) n wr) (hgr : gR sh (t + 1) rd) (hgw : gW sh (t + 1) wr) : SR sh t (n + 1) (rda sh rd wr t) := by
  intro c X M j b key hII hch hrel hb hkk hku hkab hjn hc h23 h24 h25 h26 h29
  have hset := b_set hsh ht b
  have hmc := rel_mcf hsh hrel ht
  have htc := hrel.1.1
  have h4 := hsh.1
  have hk1 := okk_1 hkk
  have hKK : KK (n + 1) = 3 * KK n + 1 := rfl
  have hkne : ∀ i, ¬ (10, t, i) = key := fun i e => by have := hku (by rw [← e]); rw [← e] at this; exact absurd this (Nat.lt_irrefl _)
  have hcnt : ∀ a, a < 6 → rel sh c nol (inc8 X t a) (mcn M (6 * t + a)) := by
    intro a ha
    unfold inc8 mcn
    rw [(hrel.2.1 t ht).2.1 a ha]
    exact rel_cnt hrel ht ha _
  unfold rda
  rcases rel_find hsh hrel hII.2.1 ht hb with ⟨f1, f2⟩ | ⟨w, hw, f1, f2⟩
  · -- not there
    rw [f1]
    dsimp only
    have hn : ¬ inT sh (inc8 X t 1) t b := fun ⟨i, hi, hki⟩ => fnd_none hsh hII.2.2.1 ht hb f1 ⟨i, hi, by unfold inc8 at hki; rw [am_up_k (by simp)] at hki; exact hki⟩
    have hII1 := II_inc8 hII t 1
    have hch1 : chk sh (inc8 X t 1) := chk_of hch (fun u => am_up_k (by simp))
    obtain ⟨m1, m2, -, m4, m5⟩ := g_mkr hsh ht hgw hII1 hb
    obtain ⟨M1, c1, M2, w, p1, p2, p3, p4, p5, p6, p7, p8, p9, p10, p11⟩ := sim_room hsh ht hsw hII1 hch1 (hcnt 1 (by omega)) hb (show j + 2 * n + 4 ≤ 64 by omega) (by omega) (show mcn M (6 * t + 1) (20, 0, 0) 23 = nI (j + 1) by unfold mcn; rw [am_up_k (by simp)]; exact h23) (show mcn M (6 * t + 1) (21, 25, 0) j = nI t by unfold mcn; rw [am_up_k (by simp)]; exact h25) (show mcn M (6 * t + 1) (21, 26, 0) j = nI b by unfold mcn; rw [am_up_k (by simp)]; exact h26)
    obtain ⟨k1, k2, k3⟩ := sw_lt hsh ht hset p3
    have hl := mi_lt k3 k1 k2
    have hcn : ∀ a, 24 ≤ a → mcn M (6 * t + 1) (21, a, 0) j = M (21, a, 0) j := fun a h => by unfold mcn; exact am_up_k (by simp; omega)
    have o24 : M2 (21, 24, 0) j = 0 := (p9 24 (by omega) (by omega)).trans ((hcn 24 (by omega)).trans h24)
    have o25 : M2 (21, 25, 0) j = nI t := (p9 25 (by omega) (by omega)).trans ((hcn 25 (by omega)).trans h25)
    have o26 : M2 (21, 26, 0) j = nI b := (p9 26 (by omega) (by omega)).trans ((hcn 26 (by omega)).trans h26)
    have hD := m_readDown (sh := sh) (M := M2) (b := b) (h := sh.1) (by omega) ht h4 o25 o26 p11 p5.1.1 p7
    have hpt := mpsh_top (M := am_up M2 (21, 29, 0) j 2) (j := j + 1) (x1 := 0) (x2 := nI (t + 1)) (x3 := nI b) (x4 := 0) (x5 := 0)
    have hi : (mkr sh wr t b (inc8 X t 1)).2 < sh.2.1 t := by rw [p4]; exact lx_lt hsh ht hset p3
    obtain ⟨c2, M3, r1, r2, r3, r4, r5, r6⟩ := hr c1 (mkr sh wr t b (inc8 X t 1)).1 _ (j + 1) b (10, t, (mkr sh wr t b (inc8 X t 1)).2) m1 (chk_cfr (by simp) hch1 m2) (rel_psh (j := j + 1) (x1 := 0) (x2 := nI (t + 1)) (x3 := nI b) (x4 := 0) (x5 := 0) (rel_up (k := (21, 29, 0)) (i := j) (v := 2) p5 (mv_no21 (by omega)))) hb (key10 ht hi).1 (key10 ht hi).2 (kab_of m4) (by omega) (by omega) hpt.1 hpt.2.1 hpt.2.2.1 hpt.2.2.2.1 hpt.2.2.2.2.2.2
    have hjob : ∀ a v, 24 ≤ a → a ≤ 29 → am_up M2 (21, 29, 0) j 2 (21, a, 0) j = v → M3 (21, a, 0) j = v := fun a v h1 h2 hv => by rw [r5 (21, a, 0) j (Or.inr (Or.inr (Or.inl ⟨a, rfl, h1, h2, by omega⟩))), mpsh_job (by omega)]; exact hv
    have s24 := hjob 24 0 (by omega) (by omega) (by rw [am_up_k (by simp)]; exact o24)
    have s25 := hjob 25 (nI t) (by omega) (by omega) (by rw [am_up_k (by simp)]; exact o25)
    have s26 := hjob 26 (nI b) (by omega) (by omega) (by rw [am_up_k (by simp)]; exact o26)
    have s28 := hjob 28 (nI (mi t (b % zs sh t) w)) (by omega) (by omega) (by rw [am_up_k (by simp)]; exact p10)
    have s29 := hjob 29 2 (by omega) (by omega) (by rw [am_up_same])
    have hF := m_readFill (sh := sh) (M := M3) (b := b) (h := sh.1) (by omega) ht h4 hl s25 s26 s28 s29 r2.1.1
    obtain ⟨d1, d2, d3⟩ := hgr (mkr sh wr t b (inc8 X t 1)).1 b (10, t, (mkr sh wr t b (inc8 X t 1)).2) m1 hb (key10 ht hi).1 (key10 ht hi).2
    unfold fet
    dsimp only
    rw [if_pos rfl]
    rw [p4] at r2 r6 d2 m4 ⊢
    have hab : rd b (10, t, ci sh t (b % zs sh t) w) (mkr sh wr t b (inc8 X t 1)).1 (9, t, ci sh t (b % zs sh t) w) 1 = -1 := by
      rcases d2.2 t (by omega) (ci sh t (b % zs sh t) w) with q | q
      · rw [q.1]; exact m4
      · exact q.1
    have hrf := rel_fil (b := b) hsh r2 ht hset p3 hab (by omega) r6
    have hp4w : ∀ k, k < 4 → mfil M3 t (mi t (b % zs sh t) w) (nI b) true (21, 16, 0) (4 * mi t (b % zs sh t) w + k) = plac (rd b (10, t, ci sh t (b % zs sh t) w) (mkr sh wr t b (inc8 X t 1)).1) t (ci sh t (b % zs sh t) w) (nI b) (10, t, ci sh t (b % zs sh t) w) k := fun k hk => ((hrf.2.2.1 t (b % zs sh t) w ht hset p3).2 (by rw [plac_blk]; simp; exact nI_ne_m1 (by omega))).2.2.2 (by simp; omega) k hk
    have hfrm : cfr t nok X (plac (rd b (10, t, ci sh t (b % zs sh t) w) (mkr sh wr t b (inc8 X t 1)).1) t (ci sh t (b % zs sh t) w) (nI b)) := cfr_trans (cfr_trans (cfr_trans (cfr_inc8 1) m2) (cfr_dn d2 (Or.inr (unch_10 t _)))) (cfr_plac _ _)
    refine ⟨c2 + 1, _, wkr_trans (fun d P hd5 k => wk_read (by omega) h23 h24 (am_cq_up (m_readMiss (by omega) hb ht h4 hmc h25 h26 h29 htc f2 p1) (by omega)) hd5 k) (wkr_trans p2 (wkr_trans (fun d P hd5 k => wk_read (by omega) p7 o24 (am_cq_up hD (by omega)) hd5 k) (wkr_trans r1 (fun d P hd5 k => wk_read (by omega) r4 s24 (am_cq_up hF (by omega)) hd5 k)))), ?_, by omega, ?_, ?_, fun k hk => ?_⟩
    · refine rel_X (rel_pop (rel_mcp hrf (by omega))) (fun k i q => am_cp_else (fun e => by subst e; omega)) (fun t' s' w' h2 h3 h4' hp _ k hk4 => am_cp_else (fun e => hp ?_))
      have hkt : t' < t := by have := hku (by rw [← e]); rw [← e] at this; exact this
      rcases hfrm.2 t' hkt (ci sh t' s' w') with q | q
      · rw [q.1]; exact hkab t' s' w' h2 h3 h4' e.symm
      · exact q.1
    · exact mpop_23 (by rw [mcp_else (by simp)]; unfold mfil; rw [mplc_else (by simp) (by simp), if_pos rfl, mcp_else (by simp)]; exact r4)
    · refine mfm_trans (mfm_trans mfm_cn p8) (mfm_trans (mfm_trans (mfm_up (munJ (by omega) (Nat.le_refl _))) (mfm_trans (mfm_psh (by omega)) (mfm_dn r5 (by omega) (by omega)))) ?_)
      unfold mfil
      rw [if_pos rfl]
      exact mfm_trans (mfm_trans (mfm_trans (mfm_mcp (fun i _ _ => mun21 (by omega))) mfm_plc) (mfm_mcp (fun i h1 _ => munA h1))) mfm_pop
    · rw [mpop_else (by simp), mcp_in hk, if_pos rfl, hp4w k hk, am_cp_in hk]
  · -- there
    rw [f1]
    dsimp only
    obtain ⟨k1, k2, k3⟩ := sw_lt hsh ht hset hw
    have hl := mi_lt k3 k1 k2
    have hbk := fnd_blk f1
    have hp : ¬ inc8 X t 0 (9, t, ci sh t (b % zs sh t) w) 1 = -1 := by unfold inc8; rw [am_up_k (by simp), hbk]; exact nI_ne_m1 (by omega)
    have hru := rel_use hsh (hcnt 0 (by omega)) ht hset hw hp (by omega)
    refine ⟨c + 1, _, fun d P hd5 k => wk_read (by omega) h23 h24 (am_cq_up (m_readHit (by omega) hb ht h4 hl hmc h25 h26 h29 htc f2) (by omega)) hd5 k, ?_, by omega, ?_, mfm_trans (mfm_trans (mfm_trans mfm_cn mfm_use) (mfm_mcp (fun i h1 _ => munA h1))) mfm_pop, fun k hk => ?_⟩
    · refine rel_key (Y := X) (rel_pop (rel_mcp hru (by omega))) hkk hkab (fun t' i => ?_)
      rw [nuse_else (by omega) (by simp)]
      unfold inc8
      rw [am_up_k (by simp)]
    · exact mpop_23 (by rw [mcp_else (by simp), muse_else (by simp) (by simp)]; unfold mcn; rw [am_up_k (by simp)]; exact h23)
    · rw [mpop_else (by simp), mcp_in hk, if_pos rfl, am_cp_in hk]
      refine ((hru.2.2.1 t (b % zs sh t) w ht hset hw).2 ?_).2.2.2 (by simp; omega) k hk
      rw [nuse_else (by omega) (by simp)]
      exact hp
end UR
