-- every level keeps what stands
section IX
variable {sh : am_Sh} {X X' : am_M} {t : Nat} {key : am_K} {rd : Rd} {wr : Wr}
/-- the words' place is not at this level nor below -/
def kup (t : Nat) (key : am_K) : Prop := key.1 = 10 → key.2.1 < t
def gR (sh : am_Sh) (t : Nat) (rd : Rd) : Prop := ∀ (X : am_M) (b : Nat) (key : am_K), II sh X → b < 256 → okk sh key → kup t key → II sh (rd b key X) ∧ cfr t key X (rd b key X) ∧ ∀ u, t ≤ u → u < sh.1 → ¬ X (5, u, 0) 4 = 0 → inT sh (rd b key X) u b
def gW (sh : am_Sh) (t : Nat) (wr : Wr) : Prop := ∀ (X : am_M) (b m : Nat) (key : am_K), II sh X → b < 256 → m < 16 → okk sh key → kup t key → II sh (wr b (nI m) key X) ∧ cfr t nok X (wr b (nI m) key X)
theorem okk_9 (h : okk sh key) : ¬ key.1 = 9 := by have := okk_1 h; omega
/-- blocks of tier t only go -/
def sub (t : Nat) (X X' : am_M) : Prop := ∀ i, X' (9, t, i) 1 = X (9, t, i) 1 ∨ X' (9, t, i) 1 = -1
theorem sub_of (h : cfr (t + 1) key X X') : sub t X X' := fun i => (h.2 t (by omega) i).imp And.left And.left
theorem sub_not {b : Nat} (hb : b < 256) (h : sub t X X') (hn : ¬ inT sh X t b) : ¬ inT sh X' t b := by
  intro ⟨i, hi, hk⟩
  rcases h i with q | q
  · exact hn ⟨i, hi, by rw [← q]; exact hk⟩
  · rw [q] at hk; exact absurd hk.symm (nI_ne_m1 (by omega))
theorem sub_trans {X'' : am_M} (h : sub t X X') (h' : sub t X' X'') : sub t X X'' := fun i => by
  rcases h' i with q | q
  · rw [q]; exact h i
  · exact Or.inr q
theorem cfr_blk (h : cfr t key X X') {u : Nat} (hu : u < t) {b : Nat} (hb : b < 256) (hn : ¬ inT sh X u b) : ¬ inT sh X' u b :=
  sub_not (t := u) hb (fun i => (h.2 u hu i).imp And.left And.left) hn
/-- the memory as a line's dirty words leave: gathered, and clean -/
def lv0 (sh : am_Sh) (t i : Nat) (X : am_M) : am_M := if X (5, t, 0) 4 = 0 then X else gth sh t i t X
theorem lv0_eff (hs : shk sh) (h : II sh X) (ht : t < sh.1) {i b : Nat} (hi : i < sh.2.1 t) (hb : b < 256) (hk : X (9, t, i) 1 = nI b) : II sh (am_up (lv0 sh t i X) (9, t, i) 2 0) ∧ cfr t key X (lv0 sh t i X) ∧ (¬ X (5, t, 0) 4 = 0 → ∀ u, u < t → ¬ inT sh (lv0 sh t i X) u b) ∧ (∀ i', lv0 sh t i X (9, t, i') 1 = X (9, t, i') 1) ∧ (∃ m, m < 16 ∧ lv0 sh t i X (9, t, i) 2 = nI m) ∧ (∀ k j, ¬ (k.1 = 9 ∧ (j = 1 ∨ j = 2)) → ¬ k = (10, t, i) → lv0 sh t i X k j = X k j) := by
  unfold lv0
  by_cases hc : X (5, t, 0) 4 = 0
  · rw [if_pos hc]
    exact ⟨II_dirty (m := 0) h (by decide) (fun _ => rfl), cfr_refl _ _ _, fun q => absurd hc q, fun _ => rfl, h.2.2.2.1 t ht i hi, fun _ _ _ _ => rfl⟩
  · rw [if_neg hc]
    obtain ⟨a, hu, hr, hd, hz, hin⟩ := h
    have g := gth_eff hs ht hi hb t X (Nat.le_refl _) hu hr hd hk
    have hgone : ∀ u, u < t → ¬ inT sh (gth sh t i t X) u b := by
      intro u hut ⟨i', hi', hk'⟩
      by_cases q : X (9, u, i') 1 = nI b
      · rw [(g.gone u hut i' hi' q).1] at hk'
        exact absurd hk'.symm (nI_ne_m1 (by omega))
      · rw [(g.stay u i' hut q).1] at hk'
        exact q hk'
    have e1 : ∀ t' i', am_up (gth sh t i t X) (9, t, i) 2 0 (9, t', i') 1 = gth sh t i t X (9, t', i') 1 := fun _ _ => am_up_j (by decide)
    have e5 : ∀ t' j, am_up (gth sh t i t X) (9, t, i) 2 0 (5, t', 0) j = X (5, t', 0) j := fun t' j => by rw [am_up_k (by simp), g.oth _ _ (by simp) (by simp)]
    have blk : ∀ t' i', gth sh t i t X (9, t', i') 1 = X (9, t', i') 1 ∨ gth sh t i t X (9, t', i') 1 = -1 := by
      intro t' i'
      by_cases q : t' < t
      · exact (g.up t' q i').imp And.left And.left
      · exact Or.inl (g.b1 t' i' (by omega))
    refine ⟨⟨cI_up (cI_gth t i t X a) (by simp), ?_, ?_, ?_, ?_, ?_⟩, ⟨fun k j u _ => g.oth k j ?_ ?_, fun u hut i' => g.up u hut i'⟩, fun _ => hgone, fun i' => g.b1 t i' (Nat.le_refl _), g.dd, g.oth⟩
    · intro t' ht' i1 i2 h1 h2
      rw [e1, e1]
      rcases blk t' i1 with q1 | q1
      · rw [q1]
        rcases blk t' i2 with q2 | q2
        · rw [q2]; exact hu t' ht' i1 i2 h1 h2
        · rw [q2]; intro e n; exact absurd e n
      · rw [q1]; intro _ n; exact absurd rfl n
    · intro t' ht' s w h1 h2 b' hb'
      rw [e1]
      rcases blk t' (s * wy sh t' + w) with q1 | q1
      · rw [q1]; exact hr t' ht' s w h1 h2 b' hb'
      · rw [q1]; intro e; exact absurd e.symm (nI_ne_m1 (by omega))
    · intro t' ht' i' hi'
      rw [am_up_a]
      split
      · exact ⟨0, by decide, rfl⟩
      · rename_i q
        have hne : ¬ (t' = t ∧ i' = i) := fun r => q ⟨by rw [r.1, r.2], rfl⟩
        by_cases q2 : t' < t
        · rcases g.up t' q2 i' with r | r
          · rw [r.2]; exact hd t' ht' i' hi'
          · rw [r.2]; exact ⟨0, by decide, rfl⟩
        · rw [g.b2 t' i' (by omega) hne]; exact hd t' ht' i' hi'
    · intro t' ht'
      rw [e5]
      intro hcw i' hi'
      rw [am_up_a]
      split
      · rfl
      · rename_i q
        have hne : ¬ (t' = t ∧ i' = i) := fun r => q ⟨by rw [r.1, r.2], rfl⟩
        by_cases q2 : t' < t
        · rcases g.up t' q2 i' with r | r
          · rw [r.2]; exact hz t' ht' hcw i' hi'
          · exact r.2
        · rw [g.b2 t' i' (by omega) hne]; exact hz t' ht' hcw i' hi'
    · intro t' u htu hu2 hcl b' hb'
      rw [e5] at hcl
      intro ⟨i', hi', hk'⟩
      rw [e1] at hk'
      have hX : X (9, t', i') 1 = nI b' := by
        rcases blk t' i' with q | q
        · rw [← q]; exact hk'
        · rw [q] at hk'; exact absurd hk'.symm (nI_ne_m1 (by omega))
      obtain ⟨i2, hi2, hk2⟩ := hin t' u htu hu2 hcl b' hb' ⟨i', hi', hX⟩
      refine ⟨i2, hi2, ?_⟩
      rw [e1]
      by_cases q2 : u < t
      · have hbb : ¬ X (9, u, i2) 1 = nI b := by
          intro q
          have : b = b' := (nI_eq (by omega) (by omega)).mp (q.symm.trans hk2)
          subst this
          exact hgone t' (by omega) ⟨i', hi', hk'⟩
        rw [(g.stay u i2 q2 hbb).1]; exact hk2
      · rw [g.b1 u i2 (by omega)]; exact hk2
    · unfold unch at u; omega
    · intro e; subst e; exact unch_10 t i j u
theorem key10 {i : Nat} (ht : t < sh.1) (hi : i < sh.2.1 t) : okk sh (10, t, i) ∧ kup (t + 1) (10, t, i) := ⟨Or.inr (Or.inr ⟨t, i, ht, hi, rfl⟩), fun _ => by show t < t + 1; omega⟩
theorem g_wbel (hw : gW sh (t + 1) wr) (h : II sh X) {b m : Nat} (hb : b < 256) (hm : m < 16) (hk : okk sh key) (hku : kup (t + 1) key) : II sh (wbel wr t b (nI m) key X) ∧ cfr t nok X (wbel wr t b (nI m) key X) ∧ cfr (t + 1) nok (am_up X (8, t, 0) 5 (X (8, t, 0) 5 + bcf (nI m))) (wbel wr t b (nI m) key X) := by
  have := hw (am_up X (8, t, 0) 5 (X (8, t, 0) 5 + bcf (nI m))) b m key (II_up h (by simp)) hb hm hk hku
  exact ⟨this.1, cfr_trans (cfr_up (unch_8 t 5) (by simp)) (cfr_dn this.2 (Or.inl rfl)), this.2⟩
theorem wdir_eq {i b m : Nat} (hb : b < 256) (hk : X (9, t, i) 1 = nI b) (hm : X (9, t, i) 2 = nI m) : wdir wr t i X = if nI m = 0 then am_up X (9, t, i) 2 0 else wbel wr t b (nI m) (10, t, i) (am_up X (9, t, i) 2 0) := by
  have hbn : bkN X t i = b := by unfold bkN; rw [hk]; exact nI_clamp (by omega)
  unfold wdir
  rw [hbn, hm]
  by_cases h0 : nI m = 0
  · rw [if_pos h0, if_pos h0]
    have e := am_up_id X (9, t, i) 2
    rw [hm, h0] at e
    exact e.symm
  · rw [if_neg h0, if_neg h0]
theorem g_lev (hs : shk sh) (ht : t < sh.1) (hw : gW sh (t + 1) wr) (h : II sh X) {i b : Nat} (hi : i < sh.2.1 t) (hb : b < 256) (hk : X (9, t, i) 1 = nI b) : II sh (lev sh wr t i X) ∧ cfr t nok X (lev sh wr t i X) ∧ lev sh wr t i X (9, t, i) 1 = -1 ∧ sub t X (lev sh wr t i X) := by
  obtain ⟨z1, z2, z3, z4, ⟨m, hm, z5⟩, z6⟩ := lv0_eff (key := nok) hs h ht hi hb hk
  have hlev : lev sh wr t i X = go1 (wdir wr t i (lv0 sh t i X)) t i := rfl
  rw [hlev, wdir_eq hb (by rw [z4]; exact hk) z5]
  have c5 : am_up (lv0 sh t i X) (9, t, i) 2 0 (5, t, 0) 4 = X (5, t, 0) 4 := by rw [am_up_k (by simp), z6 _ _ (by simp) (by simp)]
  have zi : ∀ u, inT sh (am_up (lv0 sh t i X) (9, t, i) 2 0) u b → inT sh (lv0 sh t i X) u b := fun u ⟨i', hi', hk'⟩ => ⟨i', hi', by rw [am_up_j (by decide)] at hk'; exact hk'⟩
  have hgo : go1 (if nI m = 0 then am_up (lv0 sh t i X) (9, t, i) 2 0 else wbel wr t b (nI m) (10, t, i) (am_up (lv0 sh t i X) (9, t, i) 2 0)) t i (9, t, i) 1 = -1 := by rw [go1_blk]; simp
  by_cases h0 : nI m = 0
  · rw [if_pos h0] at hgo ⊢
    refine ⟨II_go1 z1 hi (fun hc b' hb' hk' u hu hin => ?_), cfr_trans (cfr_trans z2 (cfr_up (unch_9 t i 2) (by simp))) (cfr_go1 i), hgo, fun i' => ?_⟩
    · rw [c5] at hc
      rw [am_up_j (by decide), z4, hk] at hk'
      have : b = b' := (nI_eq (by omega) (by omega)).mp hk'
      subst this
      exact z3 hc u hu (zi u hin)
    · rw [go1_blk, am_up_j (by decide), z4]
      split
      · exact Or.inr rfl
      · exact Or.inl rfl
  · rw [if_neg h0] at hgo ⊢
    obtain ⟨w1, w2, w3⟩ := g_wbel hw z1 hb hm (key10 ht hi).1 (key10 ht hi).2
    have hsub := sub_of w3
    refine ⟨II_go1 w1 hi (fun hc b' hb' hk' u hu hin => ?_), cfr_trans (cfr_trans (cfr_trans z2 (cfr_up (unch_9 t i 2) (by simp))) w2) (cfr_go1 i), hgo, fun i' => ?_⟩
    · rw [w2.1 (5, t, 0) 4 (by unfold unch; simp) (by simp), c5] at hc
      have hb2 : b = b' := by
        rcases hsub i with q | q
        · rw [q, am_up_k (by simp), am_up_j (by decide), z4, hk] at hk'
          exact (nI_eq (by omega) (by omega)).mp hk'
        · rw [q] at hk'; exact absurd hk'.symm (nI_ne_m1 (by omega))
      subst hb2
      exact cfr_blk w2 hu hb (fun q => z3 hc u hu (zi u q)) hin
    · rw [go1_blk]
      split
      · exact Or.inr rfl
      · rcases hsub i' with q | q
        · rw [q, am_up_k (by simp), am_up_j (by decide), z4]; exact Or.inl rfl
        · exact Or.inr q
theorem g_mkr (hs : shk sh) (ht : t < sh.1) (hw : gW sh (t + 1) wr) (h : II sh X) {b : Nat} (hb : b < 256) : II sh (mkr sh wr t b X).1 ∧ cfr t nok X (mkr sh wr t b X).1 ∧ (∃ w, w < wy sh t ∧ (mkr sh wr t b X).2 = b % zs sh t * wy sh t + w) ∧ (mkr sh wr t b X).1 (9, t, (mkr sh wr t b X).2) 1 = -1 ∧ sub t X (mkr sh wr t b X).1 := by
  have hset := b_set hs ht b
  unfold mkr
  cases hf : ff (freeB sh X t (b % zs sh t)) 0 (wy sh t) with
  | some w =>
    dsimp only
    have hq := ff_some hf
    exact ⟨h, cfr_refl _ _ _, ⟨w, by omega, rfl⟩, of_decide_eq_true hq.2.2.1, fun _ => Or.inl rfl⟩
  | none =>
    dsimp only
    obtain ⟨ha, hh⟩ := hd_of hs h.1 ht hset
    have hwl := chs_lt hs (X := X) (s := b % zs sh t) ht ha
    have hl := lx_lt hs ht hset hwl
    have hne : ¬ X (9, t, b % zs sh t * wy sh t + (chs sh X t (b % zs sh t) (hdN X t (b % zs sh t))).2) 1 = -1 := by
      have := ff_none hf (chs sh X t (b % zs sh t) (hdN X t (b % zs sh t))).2 (Nat.zero_le _) (by omega)
      exact of_decide_eq_false this
    obtain ⟨b', hb', hbk⟩ : ∃ b', b' < 256 ∧ X (9, t, b % zs sh t * wy sh t + (chs sh X t (b % zs sh t) (hdN X t (b % zs sh t))).2) 1 = nI b' := ((h.1.2 t ht).2 _ hl).resolve_left hne
    have hII : II sh (am_up (chs sh X t (b % zs sh t) (hdN X t (b % zs sh t))).1 (8, t, 0) 4 ((chs sh X t (b % zs sh t) (hdN X t (b % zs sh t))).1 (8, t, 0) 4 + 1)) := II_up (II_chs hs h ht) (by simp)
    have := g_lev hs ht hw hII hl hb' (by rw [am_up_k (by simp), blk_chs]; exact hbk)
    refine ⟨this.1, cfr_trans (cfr_trans cfr_chs (cfr_up (unch_8 t 4) (by simp))) this.2.1, ⟨_, hwl, rfl⟩, this.2.2.1, sub_trans (fun i' => Or.inl ?_) this.2.2.2⟩
    rw [am_up_k (by simp), blk_chs]
theorem g_fet (hs : shk sh) (ht : t < sh.1) (hr : gR sh (t + 1) rd) (hw : gW sh (t + 1) wr) (h : II sh X) {b : Nat} (hb : b < 256) (hn : ¬ inT sh X t b) {rb : Bool} (hrb : rb = false → ∀ u, t < u → u < sh.1 → X (5, u, 0) 4 = 0) : II sh (fet sh rd wr t b rb X).1 ∧ cfr t nok X (fet sh rd wr t b rb X).1 ∧ (∃ w, w < wy sh t ∧ (fet sh rd wr t b rb X).2 = b % zs sh t * wy sh t + w) ∧ (fet sh rd wr t b rb X).1 (9, t, (fet sh rd wr t b rb X).2) 1 = nI b ∧ (fet sh rd wr t b rb X).1 (9, t, (fet sh rd wr t b rb X).2) 2 = 0 := by
  obtain ⟨m1, m2, ⟨w, hwl, m3⟩, m4, m5⟩ := g_mkr hs ht hw h hb
  have hi : (mkr sh wr t b X).2 < sh.2.1 t := by rw [m3]; exact lx_lt hs ht (b_set hs ht b) hwl
  have e5 : ∀ u, (mkr sh wr t b X).1 (5, u, 0) 4 = X (5, u, 0) 4 := fun u => m2.1 _ _ (by unfold unch; simp) (by simp)
  unfold fet
  dsimp only
  have hend : ∀ Y, II sh Y → cfr (t + 1) (10, t, (mkr sh wr t b X).2) (mkr sh wr t b X).1 Y → (∀ u, t < u → u < sh.1 → ¬ X (5, u, 0) 4 = 0 → inT sh Y u b) → II sh (plac Y t (mkr sh wr t b X).2 (nI b)) ∧ cfr t nok X (plac Y t (mkr sh wr t b X).2 (nI b)) := by
    intro Y y1 y2 y3
    have ysub := sub_of y2
    have yfree : Y (9, t, (mkr sh wr t b X).2) 1 = -1 := by
      rcases ysub (mkr sh wr t b X).2 with q | q
      · rw [q]; exact m4
      · exact q
    have yn := sub_not (sh := sh) hb ysub (sub_not hb m5 hn)
    have yc : cfr t nok (mkr sh wr t b X).1 Y := cfr_dn y2 (Or.inr (unch_10 t _))
    refine ⟨?_, cfr_trans (cfr_trans m2 yc) (cfr_plac _ _)⟩
    rw [m3] at yfree ⊢
    refine II_plac hs y1 ht hwl hb yn (fun u h1 h2 h3 => y3 u h1 h2 ?_) yfree
    rw [← e5 u, ← yc.1 (5, u, 0) 4 (by unfold unch; simp) (by simp)]
    exact h3
  have hP : ∀ Y, plac Y t (mkr sh wr t b X).2 (nI b) (9, t, (mkr sh wr t b X).2) 1 = nI b ∧ plac Y t (mkr sh wr t b X).2 (nI b) (9, t, (mkr sh wr t b X).2) 2 = 0 := by
    intro Y
    rw [plac_blk, plac_drt]
    simp
  cases rb with
  | true =>
    obtain ⟨r1, r2, r3⟩ := hr (mkr sh wr t b X).1 b (10, t, (mkr sh wr t b X).2) m1 hb (key10 ht hi).1 (key10 ht hi).2
    have := hend _ r1 r2 (fun u h1 h2 h3 => r3 u (by omega) h2 (by rw [e5]; exact h3))
    exact ⟨this.1, this.2, ⟨w, hwl, m3⟩, (hP _).1, (hP _).2⟩
  | false =>
    have := hend _ m1 (cfr_refl _ _ _) (fun u h1 h2 h3 => absurd (hrb rfl u h1 h2) h3)
    exact ⟨this.1, this.2, ⟨w, hwl, m3⟩, (hP _).1, (hP _).2⟩
theorem clb_false {X : am_M} (h : clb sh X t = false) : ∀ u, t < u → u < sh.1 → X (5, u, 0) 4 = 0 := by
  intro u h1 h2
  unfold clb at h
  cases hq : ff (fun u => decide (¬ X (5, u, 0) 4 = 0)) (t + 1) (sh.1 - (t + 1)) with
  | some v => rw [hq] at h; cases h
  | none =>
    have := ff_none hq u (by omega) (by omega)
    exact Decidable.not_not.mp (of_decide_eq_false this)
theorem g_rda (hs : shk sh) (ht : t < sh.1) (hr : gR sh (t + 1) rd) (hw : gW sh (t + 1) wr) : gR sh t (rda sh rd wr t) := by
  intro X b key h hb hk hku
  have hk9 := okk_9 hk
  have hk1 := okk_1 hk
  unfold rda
  have post : ∀ Y, II sh Y → cfr t key X Y → inT sh Y t b → ∀ u, t ≤ u → u < sh.1 → ¬ X (5, u, 0) 4 = 0 → inT sh Y u b := by
    intro Y y1 y2 y3 u h1 h2 h3
    by_cases q : u = t
    · subst q; exact y3
    · refine y1.2.2.2.2.2 t u (by omega) h2 ?_ b hb y3
      rw [y2.1 (5, u, 0) 4 (by unfold unch; simp) (fun e => by rw [← e] at hk1; simp at hk1)]
      exact h3
  cases hf : fnd sh X t b with
  | some i =>
    dsimp only
    have hi := fnd_lt hs ht hf
    have y1 : II sh (am_cp (nuse (inc8 X t 0) t i) (10, t, i) key 0 0 4) := II_cp (II_nuse (II_inc8 h t 0) t i) (by omega)
    have y2 : cfr t key X (am_cp (nuse (inc8 X t 0) t i) (10, t, i) key 0 0 4) := cfr_trans (cfr_trans (cfr_inc8 0) (cfr_nuse i)) (cfr_cp (Or.inl rfl) hk9)
    refine ⟨y1, y2, post _ y1 y2 ⟨i, hi, ?_⟩⟩
    rw [am_cp_else (fun e => hk9 (by rw [← e])), nuse_else (by simp) (by simp)]
    unfold inc8
    rw [am_up_k (by simp)]
    exact fnd_blk hf
  | none =>
    dsimp only
    have hn : ¬ inT sh (inc8 X t 1) t b := fun ⟨i, hi, hki⟩ => fnd_none hs h.2.2.1 ht hb hf ⟨i, hi, by unfold inc8 at hki; rw [am_up_k (by simp)] at hki; exact hki⟩
    obtain ⟨f1, f2, ⟨w, hwl, f3⟩, f4, f5⟩ := g_fet hs ht hr hw (II_inc8 h t 1) hb hn (rb := true) (fun q => by cases q)
    have y1 := II_cp (k0 := (10, t, (fet sh rd wr t b true (inc8 X t 1)).2)) (k1 := key) (a := 0) (b := 0) (q := 4) f1 (by omega)
    have y2 : cfr t key X _ := cfr_trans (cfr_trans (cfr_inc8 1) (cfr_key f2)) (cfr_cp (k0 := (10, t, (fet sh rd wr t b true (inc8 X t 1)).2)) (k1 := key) (a := 0) (b := 0) (n := 4) (Or.inl rfl) hk9)
    refine ⟨y1, y2, post _ y1 y2 ⟨(fet sh rd wr t b true (inc8 X t 1)).2, ?_, ?_⟩⟩
    · rw [f3]; exact lx_lt hs ht (b_set hs ht b) hwl
    · rw [am_cp_else (fun e => hk9 (by rw [← e]))]
      exact f4
theorem kup_up (h : kup t key) : kup (t + 1) key := fun q => Nat.lt_succ_of_lt (h q)
theorem g_wrl (ht : t < sh.1) (hw : gW sh (t + 1) wr) (h : II sh X) {i b m : Nat} (hi : i < sh.2.1 t) (hb : b < 256) (hm : m < 16) (hk : okk sh key) (hku : kup t key) : II sh (wrl wr t i b (nI m) key X) ∧ cfr t nok X (wrl wr t i b (nI m) key X) := by
  have e5 : ∀ j, cpw (nI m) key (10, t, i) 0 0 4 X (5, t, 0) j = X (5, t, 0) j := fun j => cpw_else (by simp) _ _ _
  have hc : II sh (cpw (nI m) key (10, t, i) 0 0 4 X) := II_cpw h (by simp)
  have hf : cfr t nok X (cpw (nI m) key (10, t, i) 0 0 4 X) := cfr_cpw (Or.inr (unch_10 t i)) (by simp)
  unfold wrl
  by_cases h1 : X (5, t, 0) 3 = 1
  · rw [if_pos h1]
    obtain ⟨m1, hm1, e⟩ := h.2.2.2.1 t ht i hi
    have ho := or16 ⟨m1, hm1⟩ ⟨m, hm⟩
    rw [e, ho.1]
    exact ⟨II_dirty hc ho.2 (fun q => absurd (by rw [e5]; exact h1) q), cfr_trans hf (cfr_up (unch_9 t i 2) (by simp))⟩
  · rw [if_neg h1, h.2.2.2.2.1 t ht h1 i hi, show (0 : Int32) &&& (nI m ^^^ (-1)) = nI 0 from Int32.zero_and]
    have := g_wbel hw (II_dirty (t := t) (i := i) (m := 0) hc (by decide) (fun _ => rfl)) hb hm hk (kup_up hku)
    exact ⟨this.1, cfr_trans (cfr_trans hf (cfr_up (unch_9 t i 2) (by simp))) this.2.1⟩
theorem g_wra (hs : shk sh) (ht : t < sh.1) (hr : gR sh (t + 1) rd) (hw : gW sh (t + 1) wr) : gW sh t (wra sh rd wr t) := by
  intro X b m key h hb hm hk hku
  unfold wra
  by_cases h2 : X (5, t, 0) 3 = 2
  · rw [if_pos h2]
    unfold war
    cases hf : fnd sh (inc8 X t 3) t b with
    | some i =>
      dsimp only
      have hi := fnd_lt hs ht hf
      have l := g_lev hs ht hw (II_inc8 h t 3) hi hb (fnd_blk hf)
      have w := g_wbel hw l.1 hb hm hk (kup_up hku)
      exact ⟨w.1, cfr_trans (cfr_trans (cfr_inc8 3) l.2.1) w.2.1⟩
    | none =>
      dsimp only
      have w := g_wbel hw (II_inc8 h t 3) hb hm hk (kup_up hku)
      exact ⟨w.1, cfr_trans (cfr_inc8 3) w.2.1⟩
  · rw [if_neg h2]
    unfold wrn
    cases hf : fnd sh X t b with
    | some i =>
      dsimp only
      have hi := fnd_lt hs ht hf
      have w := g_wrl ht hw (II_nuse (II_inc8 h t 2) t i) hi hb hm hk hku
      exact ⟨w.1, cfr_trans (cfr_trans (cfr_inc8 2) (cfr_nuse i)) w.2⟩
    | none =>
      dsimp only
      have hn : ¬ inT sh (inc8 X t 3) t b := fun ⟨i, hi, hki⟩ => fnd_none hs h.2.2.1 ht hb hf ⟨i, hi, by unfold inc8 at hki; rw [am_up_k (by simp)] at hki; exact hki⟩
      obtain ⟨f1, f2, ⟨w, hwl, f3⟩, f4, f5⟩ := g_fet hs ht hr hw (II_inc8 h t 3) hb hn (rb := decide (¬ nI m = 15) || clb sh (inc8 X t 3) t) (fun q => clb_false (Bool.or_eq_false_iff.mp q).2)
      have w := g_wrl ht hw f1 (by rw [f3]; exact lx_lt hs ht (b_set hs ht b) hwl) hb hm hk hku (i := (fet sh rd wr t b (decide (¬ nI m = 15) || clb sh (inc8 X t 3) t) (inc8 X t 3)).2)
      exact ⟨w.1, cfr_trans (cfr_trans (cfr_inc8 3) f2) w.2⟩
theorem g_lv (hs : shk sh) : ∀ n, n ≤ sh.1 → gR sh (sh.1 - n) (lv sh n).1 ∧ gW sh (sh.1 - n) (lv sh n).2 := by
  intro n
  induction n with
  | zero =>
    intro _
    refine ⟨fun X b key h hb hk hku => ⟨II_cp (II_up h (by simp)) (by have := okk_1 hk; omega), cfr_trans (cfr_up (by unfold unch; simp) (by simp)) (cfr_cp (Or.inl rfl) (okk_9 hk)), fun u h1 h2 => by omega⟩, fun X b m key h hb hm hk hku => ⟨II_cpw (II_up h (by simp)) (by simp), cfr_trans (cfr_up (by unfold unch; simp) (by simp)) (cfr_cpw (Or.inr (fun j => by unfold unch; simp)) (by simp))⟩⟩
  | succ n ih =>
    intro hn
    obtain ⟨hr, hw⟩ := ih (by omega)
    have e : sh.1 - n = sh.1 - (n + 1) + 1 := by omega
    rw [e] at hr hw
    have ht : sh.1 - (n + 1) < sh.1 := by omega
    exact ⟨g_rda hs ht hr hw, g_wra hs ht hr hw⟩
end IX
