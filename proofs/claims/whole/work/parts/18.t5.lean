-- gathering, on both sides
theorem am_wp_const {sh : am_Sh} {C : Nat → am_M → List am_V → am_O → Prop} {m : Nat} {Q : Prop} : ∀ (f : Nat) {σ : am_S}, am_wp sh C m f σ (fun _ => Q) → Q := by
  intro f
  induction f with
  | zero => exact fun h => h
  | succ f ih =>
    intro σ h
    unfold am_wp at h
    cases hat : am_at sh m σ with
    | none => rw [hat] at h; exact h.elim
    | some r =>
      rw [hat] at h
      match r, h with
      | .inl σ', h => exact ih h
      | .inr (.inl o), h => exact h
      | .inr (.inr (c, as, σ')), h =>
        obtain ⟨o, hc, h⟩ := h
        cases ho : o.2 with
        | inl v => rw [ho] at h; exact ih h
        | inr x =>
          rw [ho] at h
          dsimp only at h
          cases hh : am_hd m σ'.1 x with
          | none => rw [hh] at h; exact h.elim
          | some oh =>
            rw [hh] at h
            cases oh with
            | none => exact h
            | some hp => exact ih (h 0)
section RP
variable {sh : am_Sh} {c : Nat} {q : Nat × Nat × Nat} {X X' M M' : am_M} {t s w : Nat}
theorem cpw_out {bits : Int32} {k0 k1 : am_K} {st j' : Nat} {k' : am_K} : ∀ (k i : Nat) (X : am_M), (j' < st + i ∨ st + i + k ≤ j') → cpw bits k0 k1 st i k X k' j' = X k' j' := by
  intro k
  induction k with
  | zero => exact fun _ _ _ => rfl
  | succ k ih =>
    intro i X h
    unfold cpw
    rw [ih _ _ (by omega)]
    split
    · rfl
    · exact am_up_j (by omega)
theorem cpw_in {bits : Int32} {k0 k1 : am_K} {st j : Nat} (hne : ¬ k0 = k1) : ∀ (k i : Nat) (X : am_M), i ≤ j → j < i + k → cpw bits k0 k1 st i k X k1 (st + j) = if bitz bits j then X k1 (st + j) else X k0 j := by
  intro k
  induction k with
  | zero => intro i X h1 h2; omega
  | succ k ih =>
    intro i X h1 h2
    unfold cpw
    by_cases e : i = j
    · subst e
      rw [cpw_out _ _ _ (by omega)]
      by_cases hb : bitz bits i
      · rw [if_pos hb, if_pos hb]
      · rw [if_neg hb, if_neg hb, am_up_same]
    · rw [ih _ _ (by omega) (by omega)]
      by_cases hb : bitz bits i
      · rw [if_pos hb]
      · rw [if_neg hb, am_up_j (by omega), am_up_k hne]
theorem mbt_b {m k : Nat} (hm : m < 16) (hk : k < 4) : mbt (nI m) k = true ↔ ¬ bitz (nI m) k := by
  have := mbt_bitz ⟨m, hm⟩ ⟨k, hk⟩
  rw [this]
  simp
def mga1 (M : am_M) (l a : Nat) : am_M := am_up (am_up (am_up (mcp M (mbt (M (21, 11, 0) a)) (21, 16, 0) (21, 16, 0) (4 * a) (4 * l) 4) (21, 11, 0) l (M (21, 11, 0) l ||| M (21, 11, 0) a)) (21, 11, 0) a 0) (21, 10, 0) a (-1)
def mga (sh : am_Sh) (u l b : Nat) (M : am_M) : am_M := if mfl M (nI b) (64 * u + 4 * (b % zs sh u)) 0 (wy sh u) (-1) < 0 then M else mga1 M l (mfl M (nI b) (64 * u + 4 * (b % zs sh u)) 0 (wy sh u) (-1)).toNatClampNeg
def mgt (sh : am_Sh) (l b : Nat) : Nat → am_M → am_M
  | 0, M => M
  | v + 1, M => mgt sh l b v (mga sh v l b M)
/-- what gathering leaves alone -/
def mgf (M M' : am_M) : Prop := ∀ k j, ¬ k = (21, 10, 0) → ¬ k = (21, 11, 0) → ¬ k = (21, 16, 0) → M' k j = M k j
theorem mga1_f (l a : Nat) : mgf M (mga1 M l a) := by
  intro k j h1 h2 h3
  unfold mga1
  rw [am_up_k h1, am_up_k h2, am_up_k h2, mcp_else h3]
theorem rel_mga1 (hsh : shk sh) (h : rel sh c nol X M) (hd : dr sh X) (ht : t < sh.1) (hs : s < zs sh t) (hw : w < wy sh t) (hp : ¬ X (9, t, ci sh t s w) 1 = -1) {u s' w' b : Nat} (hu : u < t) (hs' : s' < zs sh u) (hw' : w' < wy sh u) (hp' : ¬ X (9, u, ci sh u s' w') 1 = -1) (hb : b < 256) (hbk : X (9, t, ci sh t s w) 1 = nI b) (hf : fnd sh X u b = some (ci sh u s' w')) : rel sh c nol (gat1 sh t (ci sh t s w) u X) (mga1 M (mi t s w) (mi u s' w')) := by
  have hu' : u < sh.1 := by omega
  have hbn : bkN X t (ci sh t s w) = b := by unfold bkN; rw [hbk]; exact nI_clamp (by omega)
  obtain ⟨r3, r4, r5, r6⟩ := (h.2.2.1 t s w ht hs hw).2 hp
  obtain ⟨g3, g4, g5, g6⟩ := (h.2.2.1 u s' w' hu' hs' hw').2 hp'
  obtain ⟨k1, k2, k3⟩ := sw_lt hsh ht hs hw
  obtain ⟨k4, k5, k6⟩ := sw_lt hsh hu' hs' hw'
  have hmi : ¬ mi t s w = mi u s' w' := fun e => by have := (mi_inj k1 k2 k4 k5 e).1; omega
  obtain ⟨m, hm, em⟩ := hd u hu' _ (lx_lt hsh hu' hs' hw')
  have em' : X (9, u, ci sh u s' w') 2 = nI m := em
  have e16 : 4 * mi u s' w' + 4 ≤ 4 * mi t s w ∨ 4 * mi t s w + 4 ≤ 4 * mi u s' w' := by omega
  unfold gat1
  rw [hbn, hf]
  dsimp only
  unfold mga1
  rw [g3, r3]
  have h1 : rel sh c nol (cpw (X (9, u, ci sh u s' w') 2) (10, u, ci sh u s' w') (10, t, ci sh t s w) 0 0 4 X) (mcp M (mbt (X (9, u, ci sh u s' w') 2)) (21, 16, 0) (21, 16, 0) (4 * mi u s' w') (4 * mi t s w) 4) := by
    refine rel_wds hsh h (Or.inl rfl) ht hs hw (fun k j hk => cpw_else hk _ _ _) (fun k j _ hn => ?_) (fun _ k hk => ?_)
    · unfold mcp
      exact if_neg (fun r => hn ⟨r.1, r.2.1, r.2.2.1⟩)
    · rw [mcp_in hk, em', r6 (by simp; omega) k hk, g6 (by simp; omega) k hk]
      have hc := cpw_in (bits := nI m) (k0 := (10, u, ci sh u s' w')) (k1 := (10, t, ci sh t s w)) (st := 0) (j := k) (by simp; omega) 4 0 X (Nat.zero_le _) (by omega)
      rw [Nat.zero_add] at hc
      rw [hc]
      by_cases hz : bitz (nI m) k
      · rw [if_pos hz, if_neg (fun r => (mbt_b hm hk).mp r hz)]
      · rw [if_neg hz, if_pos ((mbt_b hm hk).mpr hz)]
  have h2 := rel_drt hsh h1 ht hs hw (X (9, t, ci sh t s w) 2 ||| X (9, u, ci sh u s' w') 2)
  refine rel_go hsh h2 hu' hs' hw' (am_up_same _ _ _ _) (fun k j _ e1 e2 => ?_)
  rw [am_up_n e1, am_up_n e2]
theorem gat_none {i u b : Nat} (hb : b < 256) (hk : X (9, t, i) 1 = nI b) (hf : fnd sh X u b = none) : gat1 sh t i u X = X := by
  have hbn : bkN X t i = b := by unfold bkN; rw [hk]; exact nI_clamp (by omega)
  unfold gat1
  rw [hbn, hf]
theorem gw_loop {l a : Nat} (hl : l < 256) (ha : a < 256) (hla : ¬ l = a) {x1 : Int32} {x3 : Int32} {d : Nat} {P : am_S ⊕ am_O → Prop} : ∀ (k i : Nat) (u6 : Option am_V), i + k = 4 → (∀ u5 u6, am_ev sh (am_cr sh d) 86 (138, [some mok, some (am_I x1), some (am_I (nI l)), some (am_I x3), some (am_I (nI a)), u5, u6], [], mga1 M l a, 0) P) → am_ev sh (am_cr sh d) 86 (29, [some mok, some (am_I x1), some (am_I (nI l)), some (am_I x3), some (am_I (nI a)), some (am_I (nI i)), u6], [], mcp M (mbt (M (21, 11, 0) a)) (21, 16, 0) (21, 16, 0) (4 * a) (4 * l) i, 0) P := by
  intro k
  induction k with
  | zero =>
    intro i u6 hi hP
    have : i = 4 := by omega
    subst this
    refine sg_86_29 (fun _ => sg_86_106 rfl hl rfl ha rfl ha ?_) (fun h => absurd (nI_le (a := 4) (by omega) (by omega)) h)
    rw [mcp_else (k' := (21, 11, 0)) (by simp), mcp_else (k' := (21, 11, 0)) (by simp)]
    exact hP _ _
  | succ k ih =>
    intro i u6 hi hP
    have e11 : mcp M (mbt (M (21, 11, 0) a)) (21, 16, 0) (21, 16, 0) (4 * a) (4 * l) i (21, 11, 0) a = M (21, 11, 0) a := mcp_else (by simp)
    have hno : ¬ ((21, 16, 0) : am_K) = (21, 16, 0) ∨ 4 * a + i < 4 * l ∨ 4 * l + i ≤ 4 * a + i := by omega
    refine sg_86_29 (fun h => absurd h (nI_ge (b := 4) (by omega) (by omega))) (fun _ => sg_86_35 rfl ha (fun h => sg_86_55 (sg_86_56 (fun _ => ?_) (fun r => absurd rfl r))) (fun h => sg_86_51 (sg_86_56 (fun r => absurd r (by decide)) (fun _ => ?_))))
    · rw [e11] at h
      refine sg_86_88 (n4 l i) (show 4 * l + i < 1024 by omega) (sg_86_99 (by decide) (n4 l i) (show 4 * l + i < 1024 by omega) rfl ?_)
      rw [nI_1, am_up_id, mcp_f (decide_eq_false h)]
      exact ih _ _ (by omega) hP
    · rw [e11] at h
      refine sg_86_73 (n4 a i) (show 4 * a + i < 1024 by omega) (sg_86_99 (by decide) (n4 l i) (show 4 * l + i < 1024 by omega) rfl ?_)
      rw [nI_1, mcp_t hno (decide_eq_true h)]
      exact ih _ _ (by omega) hP
theorem gt_loop (hsh : shk sh) (ht : t < sh.1) (hs : s < zs sh t) (hw : w < wy sh t) {b : Nat} (hb : b < 256) {d : Nat} (hd : 2 ≤ d) {P : am_S ⊕ am_O → Prop} : ∀ (v : Nat) (X M : am_M) (u4 u5 u6 : Option am_V), v ≤ t → rel sh c nol X M → uq sh X → sr sh X → dr sh X → X (9, t, ci sh t s w) 1 = nI b → (rel sh c nol (gth sh t (ci sh t s w) v X) (mgt sh (mi t s w) b v M) → mgf M (mgt sh (mi t s w) b v M) → P (Sum.inr (mgt sh (mi t s w) b v M, Sum.inl none))) → am_ev sh (am_cr sh d) 86 (4, [some mok, some (am_I (nI t)), some (am_I (nI (mi t s w))), some (am_I (nI v - 1)), u4, u5, u6], [], M, 0) P := by
  intro v
  have h4 := hsh.1
  obtain ⟨k1, k2, k3⟩ := sw_lt hsh ht hs hw
  have hl : mi t s w < 256 := mi_lt k3 k1 k2
  induction v with
  | zero =>
    intro X M u4 u5 u6 _ h hu hr hdr hk hP
    exact sg_86_4 (fun _ => sg_86_144 (hP h (fun _ _ _ _ _ => rfl))) (fun q => absurd (by decide) q)
  | succ v ih =>
    intro X M u4 u5 u6 hv h hu hr hdr hk hP
    have hvs : v < sh.1 := by omega
    rw [nI_pred]
    have hm1 : nI v + (-1) = nI v - 1 := by rw [Int32.sub_eq_add_neg]
    have hfd := m_find (sh := sh) (rel_mcf hsh h hvs) hb d hd
    have hbk : M (21, 10, 0) (mi t s w) = nI b := by rw [(h.2.2.1 t s w ht hs hw).1]; exact hk
    rw [← hbk] at hfd
    unfold gth mgt at hP
    refine sg_86_4 (fun q => absurd q (nI_pos (by omega))) (fun _ => sg_86_8 rfl hl hfd (fun q => ?_) (fun q => ?_))
    · rw [hbk] at q
      rcases rel_find hsh h hu hvs hb with ⟨f1, f2⟩ | ⟨w', hw', f1, f2⟩
      · have e1 : mga sh v (mi t s w) b M = M := by unfold mga; rw [if_pos q]
        have e2 := gat_none (sh := sh) (X := X) hb hk f1
        rw [e1, e2] at hP
        refine sg_86_138 ?_
        rw [hm1]
        exact ih X M _ _ _ (by omega) h hu hr hdr hk hP
      · rw [f2] at q
        exact absurd q (nI_pos (by obtain ⟨k4, k5, k6⟩ := sw_lt hsh hvs (b_set hsh hvs b) hw'; have := mi_lt k6 k4 k5; omega))
    · rw [hbk] at q ⊢
      rcases rel_find hsh h hu hvs hb with ⟨f1, f2⟩ | ⟨w', hw', f1, f2⟩
      · rw [f2] at q
        exact absurd (by decide) q
      · have hset := b_set hsh hvs b
        obtain ⟨k4, k5, k6⟩ := sw_lt hsh hvs hset hw'
        have ha : mi v (b % zs sh v) w' < 256 := mi_lt k6 k4 k5
        have hla : ¬ mi t s w = mi v (b % zs sh v) w' := fun e => by have := (mi_inj k1 k2 k4 k5 e).1; omega
        have e1 : mga sh v (mi t s w) b M = mga1 M (mi t s w) (mi v (b % zs sh v) w') := by
          unfold mga
          rw [if_neg q, f2, nI_clamp (by omega)]
        have hp' : ¬ X (9, v, ci sh v (b % zs sh v) w') 1 = -1 := by rw [fnd_blk f1]; exact nI_ne_m1 (by omega)
        have hrel := rel_mga1 hsh h hdr ht hs hw (by rw [hk]; exact nI_ne_m1 (by omega)) (show v < t by omega) hset hw' hp' hb hk f1
        obtain ⟨g1, g2, g3, g4, g5⟩ := gat1_eff hsh hu hr hdr ht (lx_lt hsh ht hs hw) (show v < t by omega) hb hk
        have blk : ∀ u i', gat1 sh t (ci sh t s w) v X (9, u, i') 1 = X (9, u, i') 1 ∨ gat1 sh t (ci sh t s w) v X (9, u, i') 1 = -1 := by
          intro u i'
          by_cases e : u = v
          · subst e; exact (g4 i').imp And.left And.left
          · exact Or.inl (g3 u i' (fun r => e r.1)).1
        have hu' : uq sh (gat1 sh t (ci sh t s w) v X) := by
          intro t' ht' i1 i2 h1 h2
          rcases blk t' i1 with q1 | q1
          · rw [q1]
            rcases blk t' i2 with q2 | q2
            · rw [q2]; exact hu t' ht' i1 i2 h1 h2
            · rw [q2]; intro e n; exact absurd e n
          · rw [q1]; intro _ n; exact absurd rfl n
        have hr' : sr sh (gat1 sh t (ci sh t s w) v X) := by
          intro t' ht' s1 w1 h1 h2 b' hb'
          rcases blk t' (s1 * wy sh t' + w1) with q1 | q1
          · rw [q1]; exact hr t' ht' s1 w1 h1 h2 b' hb'
          · rw [q1]; intro e; exact absurd e.symm (nI_ne_m1 (by omega))
        have hd' : dr sh (gat1 sh t (ci sh t s w) v X) := by
          intro t' ht' i' hi'
          by_cases e : t' = t ∧ i' = ci sh t s w
          · obtain ⟨rfl, rfl⟩ := e; exact g5
          · by_cases e2 : t' = v
            · subst e2
              rcases g4 i' with r | r
              · rw [r.2]; exact hdr t' ht' i' hi'
              · rw [r.2]; exact ⟨0, by decide, rfl⟩
            · rw [(g3 t' i' (fun r => e2 r.1)).2 e]; exact hdr t' ht' i' hi'
        have hk' : gat1 sh t (ci sh t s w) v X (9, t, ci sh t s w) 1 = nI b := by rw [bk_gat1 (by omega)]; exact hk
        rw [e1] at hP
        rw [f2]
        refine sg_86_26 ?_
        have hlp := gw_loop (sh := sh) (M := M) hl ha hla (x1 := nI t) (x3 := nI v) (d := d) (P := P) 4 0 u6 rfl (fun u5 u6 => sg_86_138 (by
          rw [hm1]
          exact ih _ _ _ _ _ (by omega) hrel hu' hr' hd' hk' (fun a1 a2 => hP a1 (fun k j n1 n2 n3 => (a2 k j n1 n2 n3).trans (mga1_f _ _ k j n1 n2 n3)))))
        rw [mcp_0] at hlp
        exact hlp
theorem mgt_rel (hsh : shk sh) (ht : t < sh.1) (hs : s < zs sh t) (hw : w < wy sh t) {b : Nat} (hb : b < 256) (h : rel sh c nol X M) (hu : uq sh X) (hr : sr sh X) (hdr : dr sh X) (hk : X (9, t, ci sh t s w) 1 = nI b) : am_cq sh 3 86 M [mok, am_I (nI t), am_I (nI (mi t s w))] (mgt sh (mi t s w) b t M, Sum.inl none) ∧ rel sh c nol (gth sh t (ci sh t s w) t X) (mgt sh (mi t s w) b t M) ∧ mgf M (mgt sh (mi t s w) b t M) := by
  refine ⟨am_cq_of (Nat.le_of_ble_eq_true rfl) rfl rfl (fun d hd => sg_86_0 (gt_loop hsh ht hs hw hb hd t X M none none none (Nat.le_refl _) h hu hr hdr hk (fun _ _ => rfl))), ?_⟩
  obtain ⟨f, hf⟩ := gt_loop (c := c) hsh ht hs hw hb (d := 2) (Nat.le_refl _) (P := fun _ => rel sh c nol (gth sh t (ci sh t s w) t X) (mgt sh (mi t s w) b t M) ∧ mgf M (mgt sh (mi t s w) b t M)) t X M none none none (Nat.le_refl _) h hu hr hdr hk (fun a b => ⟨a, b⟩)
  exact am_wp_const f hf
end RP
