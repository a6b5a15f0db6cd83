-- writing: on both sides; every level
section UX
variable {sh : am_Sh} {c n : Nat} {q : Nat × Nat × Nat} {X Y M : am_M} {t s w j b m : Nat} {rd : Rd} {wr : Wr} {key : am_K}
theorem bitz15 : ∀ k : Fin 4, ¬ bitz 15 k.val := by decide +kernel
/-- a write goes down one tier from a write job -/
theorem sim_next (hsh : shk sh) (ht : t < sh.1) (hsw : SW sh (t + 1) n wr) (hII : II sh Y) (hch : chk sh Y) (hrel : rel sh c nol Y M) (hb : b < 256) (hm : m < 16) (hkk : okk sh key) (hku : kup t key) (hwd : ∀ k, k < 4 → M (21, 22, 0) (4 * t + k) = Y key k) (hjn : j + 2 * n + 3 ≤ 64) (hc : c + KK n < 2 ^ 31) (h23 : M (20, 0, 0) 23 = nI (j + 1)) (h24 : M (21, 24, 0) j = 1) (hw : wj M sh.1 j t b (nI m) 4) :
    ∃ c' M', wkr sh M M' ∧ rel sh c' nol (wbel wr t b (nI m) key Y) M' ∧ c' ≤ c + KK n ∧ M' (20, 0, 0) 23 = nI j ∧ mfm t j M M' := by
  have hw' := hw
  obtain ⟨hj, -, hh, htc, hjt, hjb, hjm, hst⟩ := hw
  have hN := m_writeNext (sh := sh) hw' (by omega) h23
  have hk1 := okk_1 hkk
  have hr5 : rel sh c nol Y (am_up M (21, 29, 0) j 5) := rel_up hrel (mv_no21 (by omega))
  have e8 : am_up M (21, 29, 0) j 5 (21, 8, 0) (6 * t + 5) + bof (nI m) = Y (8, t, 0) 5 + bcf (nI m) := by rw [bof_bcf ⟨m, hm⟩, (hr5.2.1 t ht).2.1 5 (by omega)]
  have hrA : rel sh c nol (am_up Y (8, t, 0) 5 (Y (8, t, 0) 5 + bcf (nI m))) (mdn (am_up M (21, 29, 0) j 5) t (j + 1) (nI b) (nI m) (21, 22, 0) (4 * t)) := by
    unfold mdn
    rw [e8]
    exact rel_psh (rel_mcp (rel_cnt hr5 ht (by omega) _) (by omega))
  have hwd1 : ∀ k, k < 4 → mdn (am_up M (21, 29, 0) j 5) t (j + 1) (nI b) (nI m) (21, 22, 0) (4 * t) (21, 22, 0) (4 * (t + 1) + k) = am_up Y (8, t, 0) 5 (Y (8, t, 0) 5 + bcf (nI m)) key k := by
    intro k hk4
    unfold mdn
    rw [mpsh_else (by simp) (by simp; omega), show 4 * (t + 1) + k = 4 * t + 4 + k by omega, mcp_in hk4, if_pos rfl, am_up_k (by simp), am_up_k (by simp), am_up_k (fun e => by rw [e] at hk1; simp at hk1)]
    exact hwd k hk4
  have hpt := mpsh_top (M := mcp (am_up (am_up M (21, 29, 0) j 5) (21, 8, 0) (6 * t + 5) (am_up M (21, 29, 0) j 5 (21, 8, 0) (6 * t + 5) + bof (nI m))) allp (21, 22, 0) (21, 22, 0) (4 * t) (4 * t + 4) 4) (j := j + 1) (x1 := 1) (x2 := nI (t + 1)) (x3 := nI b) (x4 := nI m) (x5 := 0)
  have hfA : mfm t j M (mdn (am_up M (21, 29, 0) j 5) t (j + 1) (nI b) (nI m) (21, 22, 0) (4 * t)) := by
    unfold mdn
    exact mfm_trans (mfm_trans (mfm_trans (mfm_up (munJ (by omega) (Nat.le_refl _))) (mfm_up (mun21 (by omega)))) (mfm_mcp (fun i h1 _ => munW h1))) (mfm_psh (by omega))
  obtain ⟨c', MB, g1, g2, g3, g4, g5⟩ := hsw c _ _ (j + 1) b m key (II_up hII (by simp)) (chk_of hch (fun u => am_up_k (by simp))) hrA hb hm hkk (kup_up hku) hwd1 (by omega) hc hpt.1 hpt.2.1 hpt.2.2.1 hpt.2.2.2.1 hpt.2.2.2.2.1 hpt.2.2.2.2.2.2
  have hjob : ∀ a v, 24 ≤ a → a ≤ 29 → am_up M (21, 29, 0) j 5 (21, a, 0) j = v → MB (21, a, 0) j = v := fun a v h1 h2 hv => by
    rw [g5 (21, a, 0) j (Or.inr (Or.inr (Or.inl ⟨a, rfl, h1, h2, by omega⟩)))]
    unfold mdn
    rw [mpsh_job (by omega), mcp_else (by simp; omega), am_up_k (by simp; omega)]
    exact hv
  have s24 := hjob 24 1 (by omega) (by omega) (by rw [am_up_k (by simp)]; exact h24)
  have hwB : wj MB sh.1 j t b (nI m) 5 := ⟨hj, ht, hh, g2.1.1, hjob 25 _ (by omega) (by omega) (by rw [am_up_k (by simp)]; exact hjt), hjob 26 _ (by omega) (by omega) (by rw [am_up_k (by simp)]; exact hjb), hjob 27 _ (by omega) (by omega) (by rw [am_up_k (by simp)]; exact hjm), hjob 29 _ (by omega) (by omega) (by rw [am_up_same])⟩
  exact ⟨c', _, wkr_trans (fun d P hd5 k => wk_write hj h23 h24 (am_cq_up hN (by omega)) hd5 k) (wkr_trans g1 (fun d P hd5 k => wk_write hj g4 s24 (am_cq_up (m_writeEnd hwB) (by omega)) hd5 k)), rel_pop g2, g3, mpop_23 g4, mfm_trans hfA (mfm_trans (mfm_dn g5 (by omega) (by omega)) mfm_pop)⟩
theorem sim_wrl (hsh : shk sh) (ht : t < sh.1) (hs : s < zs sh t) (hw : w < wy sh t) (hsw : SW sh (t + 1) n wr) (hII : II sh Y) (hch : chk sh Y) (hrel : rel sh c q Y M) (hq : q = nol ∨ (q = (t, s, w) ∧ m = 15)) (hb : b < 256) (hm : m < 16) (hkk : okk sh key) (hku : kup t key) (hp : ¬ Y (9, t, ci sh t s w) 1 = -1) (hwd : ∀ k, k < 4 → M (21, 22, 0) (4 * t + k) = Y key k) (hjn : j + 2 * n + 3 ≤ 64) (hc : c + KK n < 2 ^ 31) (h23 : M (20, 0, 0) 23 = nI (j + 1)) (h24 : M (21, 24, 0) j = 1) (hwj : wj M sh.1 j t b (nI m) 3) (h28 : M (21, 28, 0) j = nI (mi t s w)) :
    ∃ c' M', wkr sh M M' ∧ rel sh c' nol (wrl wr t (ci sh t s w) b (nI m) key Y) M' ∧ c' ≤ c + KK n ∧ M' (20, 0, 0) 23 = nI j ∧ mfm t j M M' := by
  obtain ⟨k1, k2, k3⟩ := sw_lt hsh ht hs hw
  have hl := mi_lt k3 k1 k2
  have hi := lx_lt hsh ht hs hw
  have hW := m_writeWords (sh := sh) hwj hl h28
  have hwj' := hwj
  obtain ⟨hj, -, hh, htc, hjt, hjb, hjm, hst⟩ := hwj
  have hk1 := okk_1 hkk
  have hkne : ¬ key = (10, t, ci sh t s w) := fun e => by have := hku (by rw [e]); rw [e] at this; exact absurd this (Nat.lt_irrefl _)
  obtain ⟨r3, r4, r5, r6⟩ := (hrel.2.2.1 t s w ht hs hw).2 hp
  have e6 : M (21, 6, 0) t = Y (5, t, 0) 3 := (hrel.2.1 t ht).1.2.2.2.1
  have hr1 : rel sh c nol (cpw (nI m) key (10, t, ci sh t s w) 0 0 4 Y) (am_up (mcp M (mbt (nI m)) (21, 22, 0) (21, 16, 0) (4 * t) (4 * mi t s w) 4) (21, 29, 0) j 4) := by
    refine rel_up (rel_wds (M' := mcp M (mbt (nI m)) (21, 22, 0) (21, 16, 0) (4 * t) (4 * mi t s w) 4) hsh hrel (hq.imp id And.left) ht hs hw (fun k i hk => cpw_else hk _ _ _) (fun k i _ hn => if_neg (fun r => hn ⟨r.1, r.2.1, r.2.2.1⟩)) (fun _ k hk => ?_)) (mv_no21 (by omega))
    have hcw := cpw_in (bits := nI m) (k0 := key) (k1 := (10, t, ci sh t s w)) (st := 0) (j := k) hkne 4 0 Y (Nat.zero_le _) (by omega)
    rw [Nat.zero_add] at hcw
    rw [mcp_in hk, hcw, hwd k hk]
    by_cases hz : bitz (nI m) k
    · rw [if_pos hz, if_neg (fun r => (mbt_b hm hk).mp r hz)]
      rcases hq with rfl | ⟨-, rfl⟩
      · exact r6 (by simp; omega) k hk
      · exact absurd hz (bitz15 ⟨k, hk⟩)
    · rw [if_neg hz, if_pos ((mbt_b hm hk).mpr hz)]
  have hf1 : mfm t j M (am_up (mcp M (mbt (nI m)) (21, 22, 0) (21, 16, 0) (4 * t) (4 * mi t s w) 4) (21, 29, 0) j 4) := mfm_trans (mfm_mcp (fun i _ _ => mun21 (by omega))) (mfm_up (munJ (by omega) (Nat.le_refl _)))
  have q23 : am_up (mcp M (mbt (nI m)) (21, 22, 0) (21, 16, 0) (4 * t) (4 * mi t s w) 4) (21, 29, 0) j 4 (20, 0, 0) 23 = nI (j + 1) := by rw [am_up_k (by simp), mcp_else (by simp)]; exact h23
  unfold wrl
  by_cases h1 : Y (5, t, 0) 3 = 1
  · rw [if_pos (e6.trans h1)] at hW
    rw [if_pos h1]
    have hr2 := rel_drt hsh hr1 ht hs hw (Y (9, t, ci sh t s w) 2 ||| nI m)
    rw [r3] at hW
    exact ⟨c, _, fun d P hd5 k => wk_write hj h23 h24 (am_cq_up hW (by omega)) hd5 k, rel_pop hr2, by omega, mpop_23 (by rw [am_up_k (by simp)]; exact q23), mfm_trans (mfm_trans hf1 (mfm_up (mun21 (by omega)))) mfm_pop⟩
  · rw [if_neg (fun e => h1 (e6.symm.trans e))] at hW
    rw [if_neg h1]
    have hd0 := hII.2.2.2.2.1 t ht h1 _ hi
    have eY : am_up (cpw (nI m) key (10, t, ci sh t s w) 0 0 4 Y) (9, t, ci sh t s w) 2 (Y (9, t, ci sh t s w) 2 &&& (nI m ^^^ (-1))) = cpw (nI m) key (10, t, ci sh t s w) 0 0 4 Y := by
      rw [show Y (9, t, ci sh t s w) 2 &&& (nI m ^^^ (-1)) = 0 by rw [show Y (9, t, ci sh t s w) 2 = 0 from hd0]; exact Int32.zero_and]
      have e := am_up_id (cpw (nI m) key (10, t, ci sh t s w) 0 0 4 Y) (9, t, ci sh t s w) 2
      rw [cpw_else (by simp), show Y (9, t, ci sh t s w) 2 = 0 from hd0] at e
      exact e
    rw [eY]
    have hII1 : II sh (cpw (nI m) key (10, t, ci sh t s w) 0 0 4 Y) := II_cpw hII (by simp)
    have hjob : ∀ a, 24 ≤ a → a ≤ 28 → am_up (mcp M (mbt (nI m)) (21, 22, 0) (21, 16, 0) (4 * t) (4 * mi t s w) 4) (21, 29, 0) j 4 (21, a, 0) j = M (21, a, 0) j := fun a h1 h2 => by rw [am_up_k (by simp; omega), mcp_else (by simp; omega)]
    obtain ⟨c', M', g1, g2, g3, g4, g5⟩ := sim_next hsh ht hsw hII1 (chk_of hch (fun u => cpw_else (by simp) _ _ _)) hr1 hb hm hkk hku (fun k hk => by rw [am_up_k (by simp), mcp_else (by simp), cpw_else hkne]; exact hwd k hk) hjn hc q23 ((hjob 24 (by omega) (by omega)).trans h24) ⟨hj, ht, hh, hr1.1.1, (hjob 25 (by omega) (by omega)).trans hjt, (hjob 26 (by omega) (by omega)).trans hjb, (hjob 27 (by omega) (by omega)).trans hjm, by rw [am_up_same]⟩
    exact ⟨c', M', wkr_trans (fun d P hd5 k => wk_write hj h23 h24 (am_cq_up hW (by omega)) hd5 k) g1, g2, g3, g4, mfm_trans hf1 g5⟩
theorem sim_write (hsh : shk sh) (ht : t < sh.1) (hr : SR sh (t + 1) n rd) (hsw : SW sh (t + 1) n wr) (hgr : gR sh (t + 1) rd) (hgw : gW sh (t + 1) wr) : SW sh t (n + 1) (wra sh rd wr t) := by
  intro c X M j b m key hII hch hrel hb hm hkk hku hwd hjn hc h23 h24 h25 h26 h27 h29
  have hset := b_set hsh ht b
  have hmc := rel_mcf hsh hrel ht
  have htc := hrel.1.1
  have h4 := hsh.1
  have hk1 := okk_1 hkk
  have hKK : KK (n + 1) = 3 * KK n + 1 := rfl
  have hwj : wj M sh.1 j t b (nI m) 0 := ⟨by omega, ht, h4, htc, h25, h26, h27, h29⟩
  have e6 : M (21, 6, 0) t = X (5, t, 0) 3 := (hrel.2.1 t ht).1.2.2.2.1
  have hcnt : ∀ (a : Nat) (v : Int32), a < 6 → rel sh c nol (inc8 X t a) (mcn (am_up M (21, 28, 0) j v) (6 * t + a)) := by
    intro a v ha
    unfold inc8 mcn
    rw [am_up_k (by simp), (hrel.2.1 t ht).2.1 a ha]
    exact rel_cnt (rel_up hrel (mv_no21 (by omega))) ht ha _
  have hfc : ∀ (a : Nat) (v : Int32), mfm t j M (mcn (am_up M (21, 28, 0) j v) (6 * t + a)) := fun a v => mfm_trans (mfm_up (munJ (by omega) (Nat.le_refl _))) mfm_cn
  have hjc : ∀ (i a : Nat) (v : Int32), 24 ≤ a → a ≤ 29 → ¬ a = 28 → mcn (am_up M (21, 28, 0) j v) (6 * t + i) (21, a, 0) j = M (21, a, 0) j := fun i a v h1 h2 h3 => by unfold mcn; rw [am_up_k (by simp; omega), am_up_k (by simp; omega)]
  have h23c : ∀ (i : Nat) (v : Int32), mcn (am_up M (21, 28, 0) j v) (6 * t + i) (20, 0, 0) 23 = nI (j + 1) := fun i v => by unfold mcn; rw [am_up_k (by simp), am_up_k (by simp)]; exact h23
  have hkey5 : ∀ (a : Nat) (k : Nat), inc8 X t a key k = X key k := fun a k => am_up_k (fun e => by rw [e] at hk1; simp at hk1)
  have hwu : ∀ M', mfm t j M M' → ∀ k, k < 4 → M' (21, 22, 0) (4 * t + k) = X key k := fun M' hf k hk => (hf (21, 22, 0) (4 * t + k) (Or.inr (Or.inl ⟨rfl, by omega⟩))).trans (hwd k hk)
  have huk : unch t key 0 ∨ True := Or.inr trivial
  have hunk : ∀ k, unch t key k := by
    intro k
    rcases hk1 with e | e | e
    · unfold unch; omega
    · unfold unch; omega
    · have := hku e; unfold unch; omega
  have hknok : ¬ key = nok := fun e => by rw [e] at hk1; simp at hk1
  unfold wra
  by_cases hA : X (5, t, 0) 3 = 2
  · -- around
    rw [if_pos hA]
    unfold war
    have hII3 := II_inc8 hII t 3
    have hch3 : chk sh (inc8 X t 3) := chk_of hch (fun u => am_up_k (by simp))
    have efnd : fnd sh (inc8 X t 3) t b = fnd sh X t b := by
      unfold fnd
      congr 1
    rw [efnd]
    rcases rel_find hsh hrel hII.2.1 ht hb with ⟨f1, f2⟩ | ⟨w, hw, f1, f2⟩
    · rw [f1]
      dsimp only
      have hB := m_begin hwj (m_aroundMiss (sh := sh) hwj hb hmc (e6.trans hA) f2)
      have hr3 : rel sh c nol (inc8 X t 3) (am_up (mcn (am_up M (21, 28, 0) j (-1)) (6 * t + 3)) (21, 29, 0) j 4) := rel_up (hcnt 3 (-1) (by omega)) (mv_no21 (by omega))
      have hf3 : mfm t j M (am_up (mcn (am_up M (21, 28, 0) j (-1)) (6 * t + 3)) (21, 29, 0) j 4) := mfm_trans (hfc 3 (-1)) (mfm_up (munJ (by omega) (Nat.le_refl _)))
      have hjb3 : ∀ a, 24 ≤ a → a ≤ 27 → am_up (mcn (am_up M (21, 28, 0) j (-1)) (6 * t + 3)) (21, 29, 0) j 4 (21, a, 0) j = M (21, a, 0) j := fun a h1 h2 => by rw [am_up_k (by simp; omega)]; exact hjc 3 a (-1) h1 (by omega) (by omega)
      have q23 : am_up (mcn (am_up M (21, 28, 0) j (-1)) (6 * t + 3)) (21, 29, 0) j 4 (20, 0, 0) 23 = nI (j + 1) := by rw [am_up_k (by simp)]; exact h23c 3 (-1)
      have q24 := (hjb3 24 (by omega) (by omega)).trans h24
      obtain ⟨c', M', g1, g2, g3, g4, g5⟩ := sim_next hsh ht hsw hII3 hch3 hr3 hb hm hkk hku (fun k hk => (hwu _ hf3 k hk).trans (hkey5 3 k).symm) (by omega) (by omega) q23 q24 ⟨by omega, ht, h4, hr3.1.1, (hjb3 25 (by omega) (by omega)).trans h25, (hjb3 26 (by omega) (by omega)).trans h26, (hjb3 27 (by omega) (by omega)).trans h27, by rw [am_up_same]⟩
      exact ⟨c', M', wkr_trans (fun d P hd5 k => wk_write (by omega) h23 h24 hB hd5 k) g1, g2, by omega, g4, mfm_trans hf3 g5⟩
    · rw [f1]
      dsimp only
      obtain ⟨k1, k2, k3⟩ := sw_lt hsh ht hset hw
      have hl := mi_lt k3 k1 k2
      have hB := m_begin hwj (m_aroundHit (sh := sh) hwj (by omega) hb hl hmc (e6.trans hA) h23 f2)
      generalize hN : am_up (mcn (am_up M (21, 28, 0) j (nI (mi t (b % zs sh t) w))) (6 * t + 3)) (21, 29, 0) j 4 = N at hB
      have hr3 : rel sh c nol (inc8 X t 3) N := by rw [← hN]; exact rel_up (hcnt 3 _ (by omega)) (mv_no21 (by omega))
      have hf3 : mfm t j M N := by rw [← hN]; exact mfm_trans (hfc 3 _) (mfm_up (munJ (by omega) (Nat.le_refl _)))
      have hjb3 : ∀ a, 24 ≤ a → a ≤ 27 → N (21, a, 0) j = M (21, a, 0) j := fun a h1 h2 => by rw [← hN, am_up_k (by simp; omega)]; exact hjc 3 a _ h1 (by omega) (by omega)
      have hN29 : N (21, 29, 0) j = 4 := by rw [← hN, am_up_same]
      have hpt := mpsh_top (M := N) (j := j + 1) (x1 := 2) (x2 := nI t) (x3 := 0) (x4 := 0) (x5 := nI (mi t (b % zs sh t) w))
      have hbk3 : inc8 X t 3 (9, t, ci sh t (b % zs sh t) w) 1 = nI b := by unfold inc8; rw [am_up_k (by simp)]; exact fnd_blk f1
      have hi := lx_lt hsh ht hset hw
      obtain ⟨c1, M1, l1, l2, l3, l4, l5⟩ := sim_leave hsh ht hset hw hsw hII3 hch3 (rel_psh (j := j + 1) (x1 := 2) (x2 := nI t) (x3 := 0) (x4 := 0) (x5 := nI (mi t (b % zs sh t) w)) hr3) hb hbk3 (by omega) (by omega) hpt.1 hpt.2.1 hpt.2.2.1 hpt.2.2.2.2.2.1 hpt.2.2.2.2.2.2
      obtain ⟨gl1, gl2, -, -⟩ := g_lev hsh ht hgw hII3 hi hb hbk3
      have hjob : ∀ a, 24 ≤ a → a ≤ 29 → M1 (21, a, 0) j = N (21, a, 0) j := fun a h1 h2 => by rw [l5 (21, a, 0) j (Or.inr (Or.inr (Or.inl ⟨a, rfl, h1, h2, by omega⟩))), mpsh_job (by omega)]
      have hf4 : mfm t j M M1 := mfm_trans hf3 (mfm_trans (mfm_psh (by omega)) (mfm_dn l5 (Nat.le_refl _) (by omega)))
      have q24 := (hjob 24 (by omega) (by omega)).trans ((hjb3 24 (by omega) (by omega)).trans h24)
      obtain ⟨c', M', g1, g2, g3, g4, g5⟩ := sim_next hsh ht hsw gl1 (chk_cfr (by simp) hch3 gl2) l2 hb hm hkk hku (fun k hk => (hwu _ hf4 k hk).trans ((hkey5 3 k).symm.trans (gl2.1 key k (hunk k) hknok).symm)) (by omega) (by omega) l4 q24 ⟨by omega, ht, h4, l2.1.1, (hjob 25 (by omega) (by omega)).trans ((hjb3 25 (by omega) (by omega)).trans h25), (hjob 26 (by omega) (by omega)).trans ((hjb3 26 (by omega) (by omega)).trans h26), (hjob 27 (by omega) (by omega)).trans ((hjb3 27 (by omega) (by omega)).trans h27), (hjob 29 (by omega) (by omega)).trans hN29⟩
      exact ⟨c', M', wkr_trans (fun d P hd5 k => wk_write (by omega) h23 h24 hB hd5 k) (wkr_trans l1 g1), g2, by omega, g4, mfm_trans hf4 g5⟩
  · rw [if_neg hA]
    have hnA : ¬ M (21, 6, 0) t = 2 := fun e => hA (e6.symm.trans e)
    unfold wrn
    rcases rel_find hsh hrel hII.2.1 ht hb with ⟨f1, f2⟩ | ⟨w, hw, f1, f2⟩
    · -- not there
      rw [f1]
      dsimp only
      have hn : ¬ inT sh (inc8 X t 3) t b := fun ⟨i, hi, hki⟩ => fnd_none hsh hII.2.2.1 ht hb f1 ⟨i, hi, by unfold inc8 at hki; rw [am_up_k (by simp)] at hki; exact hki⟩
      have hII3 := II_inc8 hII t 3
      have hch3 : chk sh (inc8 X t 3) := chk_of hch (fun u => am_up_k (by simp))
      obtain ⟨m1, m2, -, m4, m5⟩ := g_mkr hsh ht hgw hII3 hb
      obtain ⟨M1, c1, M2, w, p1, p2, p3, p4, p5, p6, p7, p8, p9, p10, p11⟩ := sim_room hsh ht hsw hII3 hch3 (hcnt 3 (-1) (by omega)) hb (show j + 2 * n + 4 ≤ 64 by omega) (by omega) (h23c 3 (-1)) ((hjc 3 25 (-1) (by omega) (by omega) (by omega)).trans h25) ((hjc 3 26 (-1) (by omega) (by omega) (by omega)).trans h26)
      obtain ⟨k1, k2, k3⟩ := sw_lt hsh ht hset p3
      have hl := mi_lt k3 k1 k2
      have hB := m_begin hwj (m_beginMiss (sh := sh) hwj hb hmc hnA f2 p1)
      have o : ∀ a v, 24 ≤ a → a ≤ 27 → M (21, a, 0) j = v → M2 (21, a, 0) j = v := fun a v h1 h2 hv => (p9 a h1 h2).trans ((hjc 3 a (-1) h1 (by omega) (by omega)).trans hv)
      have o24 := o 24 1 (by omega) (by omega) h24
      have o25 := o 25 (nI t) (by omega) (by omega) h25
      have o26 := o 26 (nI b) (by omega) (by omega) h26
      have o27 := o 27 (nI m) (by omega) (by omega) h27
      have hwj2 : wj M2 sh.1 j t b (nI m) 1 := ⟨by omega, ht, h4, p5.1.1, o25, o26, o27, p11⟩
      have hf2 : mfm t j M M2 := mfm_trans (hfc 3 (-1)) p8
      have hi : (mkr sh wr t b (inc8 X t 3)).2 < sh.2.1 t := by rw [p4]; exact lx_lt hsh ht hset p3
      have hcl5 : ∀ u, u < sh.1 → M2 (21, 7, 0) u = inc8 X t 3 (5, u, 0) 4 := fun u hu => ((p5.2.1 u hu).1.2.2.2.2).trans (m2.1 (5, u, 0) 4 (by unfold unch; simp) (by simp))
      have hwat : mwat M2 t sh.1 = clb sh (inc8 X t 3) t := by
        unfold mwat clb
        have e : ff (fun u => decide (¬ M2 (21, 7, 0) u = 0)) (t + 1) (sh.1 - (t + 1)) = ff (fun u => decide (¬ inc8 X t 3 (5, u, 0) 4 = 0)) (t + 1) (sh.1 - (t + 1)) := by
          refine ff_congr (fun u h1 h2 => ?_)
          show decide (¬ M2 (21, 7, 0) u = 0) = decide (¬ inc8 X t 3 (5, u, 0) 4 = 0)
          rw [hcl5 u (by omega)]
        rw [e]
      obtain ⟨fe1, fe2, -, fe4, fe5⟩ := g_fet hsh ht hgr hgw hII3 hb hn (rb := decide (¬ nI m = 15) || clb sh (inc8 X t 3) t) (fun e => clb_false (Bool.or_eq_false_iff.mp e).2)
      have hkf := fun k => fe2.1 key k (hunk k) hknok
      have hchf := chk_cfr (by simp) hch3 fe2
      cases hrb : (decide (¬ nI m = 15) || clb sh (inc8 X t 3) t) with
      | true =>
        rw [hrb] at fe1 fe2 fe4 fe5 hkf hchf
        have hD := m_writeDown (sh := sh) hwj2 (by omega) p7 (by rw [hwat]; exact hrb)
        have hpt := mpsh_top (M := am_up M2 (21, 29, 0) j 2) (j := j + 1) (x1 := 0) (x2 := nI (t + 1)) (x3 := nI b) (x4 := 0) (x5 := 0)
        obtain ⟨c2, M3, r1, r2, r3, r4, r5, r6⟩ := hr c1 (mkr sh wr t b (inc8 X t 3)).1 _ (j + 1) b (10, t, (mkr sh wr t b (inc8 X t 3)).2) m1 (chk_cfr (by simp) hch3 m2) (rel_psh (j := j + 1) (x1 := 0) (x2 := nI (t + 1)) (x3 := nI b) (x4 := 0) (x5 := 0) (rel_up (k := (21, 29, 0)) (i := j) (v := 2) p5 (mv_no21 (by omega)))) hb (key10 ht hi).1 (key10 ht hi).2 (kab_of m4) (by omega) (by omega) hpt.1 hpt.2.1 hpt.2.2.1 hpt.2.2.2.1 hpt.2.2.2.2.2.2
        have hjob : ∀ a v, 24 ≤ a → a ≤ 29 → am_up M2 (21, 29, 0) j 2 (21, a, 0) j = v → M3 (21, a, 0) j = v := fun a v h1 h2 hv => by rw [r5 (21, a, 0) j (Or.inr (Or.inr (Or.inl ⟨a, rfl, h1, h2, by omega⟩))), mpsh_job (by omega)]; exact hv
        have s24 := hjob 24 1 (by omega) (by omega) (by rw [am_up_k (by simp)]; exact o24)
        have s25 := hjob 25 (nI t) (by omega) (by omega) (by rw [am_up_k (by simp)]; exact o25)
        have s26 := hjob 26 (nI b) (by omega) (by omega) (by rw [am_up_k (by simp)]; exact o26)
        have s27 := hjob 27 (nI m) (by omega) (by omega) (by rw [am_up_k (by simp)]; exact o27)
        have s28 := hjob 28 (nI (mi t (b % zs sh t) w)) (by omega) (by omega) (by rw [am_up_k (by simp)]; exact p10)
        have s29 := hjob 29 2 (by omega) (by omega) (by rw [am_up_same])
        have hF := m_writeFill1 (sh := sh) (M := M3) (b := b) (m := nI m) (h := sh.1) ⟨by omega, ht, h4, r2.1.1, s25, s26, s27, s29⟩ hl s28
        obtain ⟨d1, d2, d3⟩ := hgr (mkr sh wr t b (inc8 X t 3)).1 b (10, t, (mkr sh wr t b (inc8 X t 3)).2) m1 hb (key10 ht hi).1 (key10 ht hi).2
        have hff : fet sh rd wr t b true (inc8 X t 3) = (plac (rd b (10, t, ci sh t (b % zs sh t) w) (mkr sh wr t b (inc8 X t 3)).1) t (ci sh t (b % zs sh t) w) (nI b), ci sh t (b % zs sh t) w) := by
          unfold fet
          rw [if_pos rfl, p4]
        rw [hff] at fe1 fe2 fe4 fe5 hkf hchf ⊢
        rw [p4] at r2 r6 d2 m4
        have hab : rd b (10, t, ci sh t (b % zs sh t) w) (mkr sh wr t b (inc8 X t 3)).1 (9, t, ci sh t (b % zs sh t) w) 1 = -1 := by
          rcases d2.2 t (by omega) (ci sh t (b % zs sh t) w) with e | e
          · rw [e.1]; exact m4
          · exact e.1
        have hrf := rel_up (k := (21, 29, 0)) (i := j) (v := 3) (rel_fil (b := b) hsh r2 ht hset p3 hab (by omega) r6) (mv_no21 (by omega))
        have hfF : mfm t j M (am_up (mfil M3 t (mi t (b % zs sh t) w) (nI b) true) (21, 29, 0) j 3) := by
          refine mfm_trans hf2 (mfm_trans (mfm_trans (mfm_up (munJ (by omega) (Nat.le_refl _))) (mfm_trans (mfm_psh (by omega)) (mfm_dn r5 (by omega) (by omega)))) ?_)
          unfold mfil
          rw [if_pos rfl]
          exact mfm_trans (mfm_trans (mfm_mcp (fun i _ _ => mun21 (by omega))) mfm_plc) (mfm_up (munJ (by omega) (Nat.le_refl _)))
        have hjF : ∀ a v, 24 ≤ a → a ≤ 28 → M3 (21, a, 0) j = v → am_up (mfil M3 t (mi t (b % zs sh t) w) (nI b) true) (21, 29, 0) j 3 (21, a, 0) j = v := fun a v h1 h2 hv => by
          rw [am_up_k (by simp; omega)]
          unfold mfil
          rw [mplc_else (fun a' h1 h2 r => by have := r.1; simp at this; omega) (by simp), if_pos rfl, mcp_else (by simp; omega)]
          exact hv
        have q23 : am_up (mfil M3 t (mi t (b % zs sh t) w) (nI b) true) (21, 29, 0) j 3 (20, 0, 0) 23 = nI (j + 1) := by
          rw [am_up_k (by simp)]
          unfold mfil
          rw [mplc_else (by simp) (by simp), if_pos rfl, mcp_else (by simp)]
          exact r4
        obtain ⟨c', M', g1, g2, g3, g4, g5⟩ := sim_wrl hsh ht hset p3 hsw fe1 hchf hrf (Or.inl rfl) hb hm hkk hku (by dsimp only; rw [show plac (rd b (10, t, ci sh t (b % zs sh t) w) (mkr sh wr t b (inc8 X t 3)).1) t (ci sh t (b % zs sh t) w) (nI b) (9, t, ci sh t (b % zs sh t) w) 1 = nI b from fe4]; exact nI_ne_m1 (by omega)) (fun k hk => (hwu _ hfF k hk).trans ((hkey5 3 k).symm.trans (hkf k).symm)) (by omega) (by omega) q23 (hjF 24 _ (by omega) (by omega) s24) ⟨by omega, ht, h4, hrf.1.1, hjF 25 _ (by omega) (by omega) s25, hjF 26 _ (by omega) (by omega) s26, hjF 27 _ (by omega) (by omega) s27, by rw [am_up_same]⟩ (hjF 28 _ (by omega) (by omega) s28)
        exact ⟨c', M', wkr_trans (fun d P hd5 k => wk_write (by omega) h23 h24 hB hd5 k) (wkr_trans p2 (wkr_trans (fun d P hd5 k => wk_write (by omega) p7 o24 (am_cq_up hD (by omega)) hd5 k) (wkr_trans r1 (wkr_trans (fun d P hd5 k => wk_write (by omega) r4 s24 (am_cq_up hF (by omega)) hd5 k) g1)))), g2, by omega, g4, mfm_trans hfF g5⟩
      | false =>
        rw [hrb] at fe1 fe2 fe4 fe5 hkf hchf
        have hm15 : m = 15 := by
          have := (Bool.or_eq_false_iff.mp hrb).1
          have e : nI m = 15 := Decidable.not_not.mp (of_decide_eq_false this)
          exact (nI_eq (b := 15) (by omega) (by omega)).mp e
        have hF := m_writeFill0 (sh := sh) hwj2 hl p10 (by rw [hwat]; exact hrb)
        have hff : fet sh rd wr t b false (inc8 X t 3) = (plac (mkr sh wr t b (inc8 X t 3)).1 t (ci sh t (b % zs sh t) w) (nI b), ci sh t (b % zs sh t) w) := by
          unfold fet
          rw [if_neg (by decide), p4]
        rw [hff] at fe1 fe2 fe4 fe5 hkf hchf ⊢
        have hmf : mfil M2 t (mi t (b % zs sh t) w) (nI b) false = mplc M2 (mi t (b % zs sh t) w) (nI b) := rfl
        rw [hmf] at hF
        have hrf := rel_up (k := (21, 29, 0)) (i := j) (v := 3) (rel_plc hsh p5 ht hset p3 (by omega) b) (mv_no21 (by omega))
        have hfF : mfm t j M (am_up (mplc M2 (mi t (b % zs sh t) w) (nI b)) (21, 29, 0) j 3) := mfm_trans hf2 (mfm_trans mfm_plc (mfm_up (munJ (by omega) (Nat.le_refl _))))
        have hjF : ∀ a v, 24 ≤ a → a ≤ 28 → M2 (21, a, 0) j = v → am_up (mplc M2 (mi t (b % zs sh t) w) (nI b)) (21, 29, 0) j 3 (21, a, 0) j = v := fun a v h1 h2 hv => by
          rw [am_up_k (by simp; omega), mplc_else (fun a' h1 h2 r => by have := r.1; simp at this; omega) (by simp)]
          exact hv
        have q23 : am_up (mplc M2 (mi t (b % zs sh t) w) (nI b)) (21, 29, 0) j 3 (20, 0, 0) 23 = nI (j + 1) := by
          rw [am_up_k (by simp), mplc_else (by simp) (by simp)]
          exact p7
        obtain ⟨c', M', g1, g2, g3, g4, g5⟩ := sim_wrl hsh ht hset p3 hsw fe1 hchf hrf (Or.inr ⟨rfl, hm15⟩) hb hm hkk hku (by dsimp only; rw [show plac (mkr sh wr t b (inc8 X t 3)).1 t (ci sh t (b % zs sh t) w) (nI b) (9, t, ci sh t (b % zs sh t) w) 1 = nI b from fe4]; exact nI_ne_m1 (by omega)) (fun k hk => (hwu _ hfF k hk).trans ((hkey5 3 k).symm.trans (hkf k).symm)) (by omega) (by omega) q23 (hjF 24 _ (by omega) (by omega) o24) ⟨by omega, ht, h4, hrf.1.1, hjF 25 _ (by omega) (by omega) o25, hjF 26 _ (by omega) (by omega) o26, hjF 27 _ (by omega) (by omega) o27, by rw [am_up_same]⟩ (hjF 28 _ (by omega) (by omega) p10)
        exact ⟨c', M', wkr_trans (fun d P hd5 k => wk_write (by omega) h23 h24 hB hd5 k) (wkr_trans p2 (wkr_trans (fun d P hd5 k => wk_write (by omega) p7 o24 (am_cq_up hF (by omega)) hd5 k) g1)), g2, by omega, g4, mfm_trans hfF g5⟩
    · -- there
      rw [f1]
      dsimp only
      obtain ⟨k1, k2, k3⟩ := sw_lt hsh ht hset hw
      have hl := mi_lt k3 k1 k2
      have hB := m_begin hwj (m_beginHit (sh := sh) hwj hb hl hmc hnA f2)
      have hp : ¬ inc8 X t 2 (9, t, ci sh t (b % zs sh t) w) 1 = -1 := by unfold inc8; rw [am_up_k (by simp), fnd_blk f1]; exact nI_ne_m1 (by omega)
      have hru := rel_up (k := (21, 29, 0)) (i := j) (v := 3) (rel_use hsh (hcnt 2 (nI (mi t (b % zs sh t) w)) (by omega)) ht hset hw hp (by omega)) (mv_no21 (by omega))
      have hfF : mfm t j M (am_up (muse (mcn (am_up M (21, 28, 0) j (nI (mi t (b % zs sh t) w))) (6 * t + 2)) (mi t (b % zs sh t) w)) (21, 29, 0) j 3) := mfm_trans (mfm_trans (hfc 2 _) mfm_use) (mfm_up (munJ (by omega) (Nat.le_refl _)))
      have hjF : ∀ a v, 24 ≤ a → a ≤ 28 → am_up M (21, 28, 0) j (nI (mi t (b % zs sh t) w)) (21, a, 0) j = v → am_up (muse (mcn (am_up M (21, 28, 0) j (nI (mi t (b % zs sh t) w))) (6 * t + 2)) (mi t (b % zs sh t) w)) (21, 29, 0) j 3 (21, a, 0) j = v := fun a v h1 h2 hv => by
        rw [am_up_k (by simp; omega), muse_else (fun a' h1 h2 r => by have := r.1; simp at this; omega) (by simp)]
        unfold mcn
        rw [am_up_k (by simp; omega)]
        exact hv
      have q23 : am_up (muse (mcn (am_up M (21, 28, 0) j (nI (mi t (b % zs sh t) w))) (6 * t + 2)) (mi t (b % zs sh t) w)) (21, 29, 0) j 3 (20, 0, 0) 23 = nI (j + 1) := by
        rw [am_up_k (by simp), muse_else (by simp) (by simp)]
        exact h23c 2 _
      have s24 := hjF 24 1 (by omega) (by omega) (by rw [am_up_k (by simp)]; exact h24)
      have hIIu := II_nuse (II_inc8 hII t 2) t (ci sh t (b % zs sh t) w)
      have hkn : ∀ k, nuse (inc8 X t 2) t (ci sh t (b % zs sh t) w) key k = X key k := fun k => by
        rw [nuse_else (fun e => by rw [e.1] at hk1; simp at hk1) (fun e => by rw [e.1] at hk1; simp at hk1)]
        exact hkey5 2 k
      obtain ⟨c', M', g1, g2, g3, g4, g5⟩ := sim_wrl hsh ht hset hw hsw hIIu (chk_of hch (fun u => by rw [nuse_else (by simp) (by simp)]; exact am_up_k (by simp))) hru (Or.inl rfl) hb hm hkk hku (by rw [nuse_else (by omega) (by simp)]; exact hp) (fun k hk => (hwu _ hfF k hk).trans (hkn k).symm) (by omega) (by omega) q23 s24 ⟨by omega, ht, h4, hru.1.1, hjF 25 _ (by omega) (by omega) (by rw [am_up_k (by simp)]; exact h25), hjF 26 _ (by omega) (by omega) (by rw [am_up_k (by simp)]; exact h26), hjF 27 _ (by omega) (by omega) (by rw [am_up_k (by simp)]; exact h27), by rw [am_up_same]⟩ (hjF 28 _ (by omega) (by omega) (by rw [am_up_same]))
      exact ⟨c', M', wkr_trans (fun d P hd5 k => wk_write (by omega) h23 h24 hB hd5 k) g1, g2, by omega, g4, mfm_trans hfF g5⟩
end UX
