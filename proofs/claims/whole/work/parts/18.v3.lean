-- line, way, dirty, next; flush, empty
section VC
variable {sh : am_Sh} {c : Nat} {X M : am_M} {t : Nat}
theorem in_n {x : Int32} {n : Nat} (hn : n < 2 ^ 30) (d : Nat) (hd : 1 ≤ d) : am_cr sh d 62 M [am_I x, am_I 0, am_I (nI n - 1)] (M, Sum.inl (some (am_I (b01 (decide (¬ bad x n)))))) := by
  rw [← in_p hn]
  exact m_in d hd
theorem b01_t {p : Prop} [Decidable p] (h : p) : b01 (decide p) = 1 := by rw [decide_eq_true h]; rfl
theorem b01_f {p : Prop} [Decidable p] (h : ¬ p) : b01 (decide p) = 0 := by rw [decide_eq_false h]; rfl
theorem z_lt (hsh : shk sh) (ht : t < sh.1) : zs sh t < 2 ^ 30 ∧ wy sh t < 2 ^ 30 ∧ t < 4 := by
  have := zs_le hsh ht
  have := wy_lt hsh ht
  have := hsh.1
  omega
theorem m_line (hsh : shk sh) (hrel : rel sh c nol X M) (ht : t < sh.1) {s w : Nat} (hs : s < zs sh t) (hw : w < wy sh t) : am_cq sh 3 101 M [mok, am_I (nI t), am_I (nI s), am_I (nI w)] (am_up M (20, 0, 0) 0 0, Sum.inl (some (am_I (X (9, t, ci sh t s w) 1)))) := by
  obtain ⟨z1, z2, z3⟩ := z_lt hsh ht
  obtain ⟨k1, k2, k3⟩ := sw_lt hsh ht hs hw
  have b := (hrel.2.1 t ht).1
  refine am_cq_of (Nat.le_of_ble_eq_true rfl) rfl rfl (fun d hd => sg_101_0 (m_isT hsh hrel ht d hd) (fun e => absurd e (by decide)) (fun _ => sg_101_9 (M1 := M) (r1 := 1) rfl z3 ?_ (fun e => absurd e (by decide)) (fun _ => sg_101_25 (M1 := M) (r1 := 1) rfl z3 ?_ (fun e => absurd e (by decide)) (fun _ => sg_101_41 (sg_101_46 (fun _ => sg_101_60 (j1 := 64 * t + 4 * s + w) (m_firstOf d (by omega)) (nI_add _ _) (by omega) (sg_101_73 ?_)) (fun e => absurd c0_le e))))))
  · rw [b.1]
    have := in_n (sh := sh) (M := M) (x := nI s) z1 d (by omega)
    rw [b01_t (nbad hs (by omega))] at this
    exact this
  · rw [b.2.1]
    have := in_n (sh := sh) (M := M) (x := nI w) z2 d (by omega)
    rw [b01_t (nbad hw (by omega))] at this
    exact this
  · rw [am_up_k (by simp)]
    rw [show M (21, 10, 0) (64 * t + 4 * s + w) = X (9, t, ci sh t s w) 1 from (hrel.2.2.1 t s w ht hs hw).1]
theorem m_lineT (hsh : shk sh) (hrel : rel sh c nol X M) {x y z : Int32} (h : bad x sh.1 ∨ ∃ t, t < sh.1 ∧ x = nI t ∧ (bad y (zs sh t) ∨ ∃ s, s < zs sh t ∧ y = nI s ∧ bad z (wy sh t))) : am_cq sh 3 101 M [mok, am_I x, am_I y, am_I z] (am_up M (20, 0, 0) 0 1, Sum.inl (some (am_I 0))) := by
  refine am_cq_of (Nat.le_of_ble_eq_true rfl) rfl rfl (fun d hd => ?_)
  have hend : am_ev sh (am_cr sh d) 101 (45, [some mok, some (am_I x), some (am_I y), some (am_I z)], [mok], M, 0) (fun r => r = Sum.inr (am_up M (20, 0, 0) 0 1, Sum.inl (some (am_I 0)))) :=
    sg_101_45 (sg_101_46 (fun e => absurd e c1_nle) (fun _ => sg_101_56 (sg_101_73 rfl)))
  rcases h with h | ⟨t, ht, rfl, h⟩
  · exact sg_101_0 (m_isTf hsh hrel h d hd) (fun _ => hend) (fun e => absurd rfl e)
  · obtain ⟨z1, z2, z3⟩ := z_lt hsh ht
    have b := (hrel.2.1 t ht).1
    have i1 := in_n (sh := sh) (M := M) (x := y) z1 d (by omega)
    rcases h with h | ⟨s, hs, rfl, h⟩
    · rw [b01_f (fun q => q h), ← b.1] at i1
      exact sg_101_0 (m_isT hsh hrel ht d hd) (fun e => absurd e (by decide)) (fun _ => sg_101_9 rfl z3 i1 (fun _ => hend) (fun e => absurd rfl e))
    · rw [b01_t (nbad hs (by omega)), ← b.1] at i1
      have i2 := in_n (sh := sh) (M := M) (x := z) z2 d (by omega)
      rw [b01_f (fun q => q h), ← b.2.1] at i2
      exact sg_101_0 (m_isT hsh hrel ht d hd) (fun e => absurd e (by decide)) (fun _ => sg_101_9 rfl z3 i1 (fun e => absurd e (by decide)) (fun _ => sg_101_25 rfl z3 i2 (fun _ => hend) (fun e => absurd rfl e)))
theorem in255 {b : Nat} (hb : b < 256) {d : Nat} (hd : 1 ≤ d) : am_cr sh d 62 M [am_I (nI b), am_I 0, am_I 255] (M, Sum.inl (some (am_I 1))) := by
  have hi := m_in (sh := sh) (M := M) (x0 := nI b) (x1 := 0) (x2 := 255) d hd
  rw [show decide (¬ nI b < 0 ∧ ¬ (255 : Int32) < nI b) = true from in_t (n := 255) hb (by decide)] at hi
  exact hi
theorem in255f {x : Int32} (hx : bad x 256) {d : Nat} (hd : 1 ≤ d) : am_cr sh d 62 M [am_I x, am_I 0, am_I 255] (M, Sum.inl (some (am_I 0))) := by
  have hi := m_in (sh := sh) (M := M) (x0 := x) (x1 := 0) (x2 := 255) d hd
  rw [show decide (¬ x < 0 ∧ ¬ (255 : Int32) < x) = false from in_f (n := 255) hx (by decide)] at hi
  exact hi
theorem mi_mod {t s w : Nat} (hw : w < 4) : mi t s w % 4 = w := by unfold mi; omega
theorem fnd_ff {b : Nat} (w : Nat) (hw : w < wy sh t) (h : fnd sh X t b = some (ci sh t (b % zs sh t) w)) : ff (hasB sh X t (b % zs sh t) (nI b)) 0 (wy sh t) = some w := by
  unfold fnd at h
  cases hq : ff (hasB sh X t (b % zs sh t) (nI b)) 0 (wy sh t) with
  | none => rw [hq] at h; cases h
  | some w' =>
    rw [hq] at h
    have := (ff_some hq).2.1
    have e : b % zs sh t * wy sh t + w' = b % zs sh t * wy sh t + w := by simpa using h
    rw [show w' = w by omega]
theorem fnd_ffn {b : Nat} (h : fnd sh X t b = none) : ff (hasB sh X t (b % zs sh t) (nI b)) 0 (wy sh t) = none := by
  unfold fnd at h
  cases hq : ff (hasB sh X t (b % zs sh t) (nI b)) 0 (wy sh t) with
  | none => rfl
  | some w' => rw [hq] at h; cases h
theorem m_way (hsh : shk sh) (hJ : Jn sh c X M) (ht : t < sh.1) {b : Nat} (hb : b < 256) : am_cq sh 3 102 M [mok, am_I (nI t), am_I (nI b)] (am_up M (20, 0, 0) 0 0, Sum.inl (some (am_I (wI (ff (hasB sh X t (b % zs sh t) (nI b)) 0 (wy sh t)))))) := by
  have hrel := hJ.2.2.1
  have hrel0 := (Jn_code hJ 0).2.2.1
  refine am_cq_of (Nat.le_of_ble_eq_true rfl) rfl rfl (fun d hd => sg_102_0 (m_isT hsh hrel ht d hd) (fun e => absurd e (by decide)) (fun _ => sg_102_9 (in255 hb (by omega)) (fun e => absurd e (by decide)) (fun _ => sg_102_20 (sg_102_25 (fun _ => ?_) (fun e => absurd c0_le e)))))
  have hfd := m_find (sh := sh) (rel_mcf hsh hrel0 ht) hb d hd
  rcases rel_find hsh hrel0 hJ.1.2.1 ht hb with ⟨f1, f2⟩ | ⟨w, hw, f1, f2⟩
  · rw [f2] at hfd
    refine sg_102_37 hfd (fun e => absurd e (by decide)) (fun _ => sg_102_48 (sg_102_55 ?_))
    rw [fnd_ffn f1]
    rfl
  · rw [f2] at hfd
    obtain ⟨k1, k2, k3⟩ := sw_lt hsh ht (b_set hsh ht b) hw
    have hl := mi_lt k3 k1 k2
    refine sg_102_37 hfd (fun _ => sg_102_52 (sg_102_55 ?_)) (fun e => absurd (nI_pos' (by omega)) e)
    rw [fnd_ff w hw f1, show nI (mi t (b % zs sh t) w) - nI (mi t (b % zs sh t) w) / 4 * 4 = nI (mi t (b % zs sh t) w % 4) from pk_rem (d := 4) (by omega) (by omega) (by omega), mi_mod k2]
    rfl
theorem m_wayT (hsh : shk sh) (hrel : rel sh c nol X M) {x y : Int32} (h : bad x sh.1 ∨ ∃ t, t < sh.1 ∧ x = nI t ∧ bad y 256) : am_cq sh 3 102 M [mok, am_I x, am_I y] (am_up M (20, 0, 0) 0 1, Sum.inl (some (am_I 0))) := by
  refine am_cq_of (Nat.le_of_ble_eq_true rfl) rfl rfl (fun d hd => ?_)
  have hend : am_ev sh (am_cr sh d) 102 (24, [some mok, some (am_I x), some (am_I y), none], [mok], M, 0) (fun r => r = Sum.inr (am_up M (20, 0, 0) 0 1, Sum.inl (some (am_I 0)))) :=
    sg_102_24 (sg_102_25 (fun e => absurd e c1_nle) (fun _ => sg_102_35 rfl))
  rcases h with h | ⟨t, ht, rfl, h⟩
  · exact sg_102_0 (m_isTf hsh hrel h d hd) (fun _ => hend) (fun e => absurd rfl e)
  · exact sg_102_0 (m_isT hsh hrel ht d hd) (fun e => absurd e (by decide)) (fun _ => sg_102_9 (in255f h (by omega)) (fun _ => hend) (fun e => absurd rfl e))
theorem m_dirty (hsh : shk sh) (hJ : Jn sh c X M) (ht : t < sh.1) {b : Nat} (hb : b < 256) : am_cq sh 3 103 M [mok, am_I (nI t), am_I (nI b)] (am_up M (20, 0, 0) 0 0, Sum.inl (some (am_I (drt sh X t b)))) := by
  have hrel := hJ.2.2.1
  have hrel0 := (Jn_code hJ 0).2.2.1
  refine am_cq_of (Nat.le_of_ble_eq_true rfl) rfl rfl (fun d hd => sg_103_0 (m_isT hsh hrel ht d hd) (fun e => absurd e (by decide)) (fun _ => sg_103_9 (in255 hb (by omega)) (fun e => absurd e (by decide)) (fun _ => sg_103_20 (sg_103_25 (fun _ => ?_) (fun e => absurd c0_le e)))))
  have hfd := m_find (sh := sh) (rel_mcf hsh hrel0 ht) hb d hd
  unfold drt
  rcases rel_find hsh hrel0 hJ.1.2.1 ht hb with ⟨f1, f2⟩ | ⟨w, hw, f1, f2⟩
  · rw [f2] at hfd
    rw [f1]
    exact sg_103_37 hfd (fun e => absurd e (by decide)) (fun _ => sg_103_48 (sg_103_58 rfl))
  · rw [f2] at hfd
    rw [f1]
    obtain ⟨k1, k2, k3⟩ := sw_lt hsh ht (b_set hsh ht b) hw
    have hl := mi_lt k3 k1 k2
    refine sg_103_37 hfd (fun _ => sg_103_52 rfl hl (sg_103_58 ?_)) (fun e => absurd (nI_pos' (by omega)) e)
    rw [((hrel0.2.2.1 t _ w ht (b_set hsh ht b) hw).2 (by rw [fnd_blk f1]; exact nI_ne_m1 (by omega))).1]
theorem m_dirtyT (hsh : shk sh) (hrel : rel sh c nol X M) {x y : Int32} (h : bad x sh.1 ∨ ∃ t, t < sh.1 ∧ x = nI t ∧ bad y 256) : am_cq sh 3 103 M [mok, am_I x, am_I y] (am_up M (20, 0, 0) 0 1, Sum.inl (some (am_I 0))) := by
  refine am_cq_of (Nat.le_of_ble_eq_true rfl) rfl rfl (fun d hd => ?_)
  have hend : am_ev sh (am_cr sh d) 103 (24, [some mok, some (am_I x), some (am_I y), none], [mok], M, 0) (fun r => r = Sum.inr (am_up M (20, 0, 0) 0 1, Sum.inl (some (am_I 0)))) :=
    sg_103_24 (sg_103_25 (fun e => absurd e c1_nle) (fun _ => sg_103_35 rfl))
  rcases h with h | ⟨t, ht, rfl, h⟩
  · exact sg_103_0 (m_isTf hsh hrel h d hd) (fun _ => hend) (fun e => absurd rfl e)
  · exact sg_103_0 (m_isT hsh hrel ht d hd) (fun e => absurd e (by decide)) (fun _ => sg_103_9 (in255f h (by omega)) (fun _ => hend) (fun e => absurd rfl e))
theorem m_next (hsh : shk sh) (hJ : Jn sh c X M) (ht : t < sh.1) {s : Nat} (hs : s < zs sh t) : am_cq sh 3 104 M [mok, am_I (nI t), am_I (nI s)] (am_up M (20, 0, 0) 0 0, Sum.inl (some (am_I (nxt sh X t s)))) := by
  have hrel := hJ.2.2.1
  have hrel0 := (Jn_code hJ 0).2.2.1
  obtain ⟨z1, z2, z3⟩ := z_lt hsh ht
  have b := (hrel.2.1 t ht).1
  refine am_cq_of (Nat.le_of_ble_eq_true rfl) rfl rfl (fun d hd => ?_)
  have i1 := in_n (sh := sh) (M := M) (x := nI s) z1 d (by omega)
  rw [b01_t (nbad hs (by omega)), ← b.1] at i1
  refine sg_104_0 (m_isT hsh hrel ht d hd) (fun e => absurd e (by decide)) (fun _ => sg_104_9 rfl z3 i1 (fun e => absurd e (by decide)) (fun _ => sg_104_25 (sg_104_30 (fun _ => ?_) (fun e => absurd c0_le e))))
  have hfr := m_freeIn (sh := sh) (rel_mcf hsh hrel0 ht) hs d hd
  rw [rel_free hsh hrel0 hJ.1.1 ht hs] at hfr
  unfold nxt
  cases hf : ff (freeB sh X t s) 0 (wy sh t) with
  | some w =>
    rw [hf] at hfr
    have hw : w < wy sh t := by have := (ff_some hf).2.1; omega
    obtain ⟨k1, k2, k3⟩ := sw_lt hsh ht hs hw
    have hl := mi_lt k3 k1 k2
    exact sg_104_42 hfr (fun e => absurd e (nI_pos (by omega))) (fun _ => sg_104_51 (sg_104_66 rfl))
  | none =>
    rw [hf] at hfr
    obtain ⟨ha, hh⟩ := hd_of hsh hJ.1.1 ht hs
    have hp : ∀ w, w < wy sh t → ¬ X (9, t, ci sh t s w) 1 = -1 := fun w hw => of_decide_eq_false (ff_none hf w (Nat.zero_le _) (by omega))
    have hch := m_choice (sh := sh) (rel_mcf hsh hrel0 ht) hs ha (((hrel0.2.1 t ht).2.2 _ hs).trans hh) d hd
    have hfs := fsee_lt (X := X) (s := s) hsh ht ha
    rw [(rel_choice hsh hJ.2.1 hrel0 ht hs hp ha).2] at hch
    obtain ⟨k1, k2, k3⟩ := sw_lt hsh ht hs hfs
    refine sg_104_42 hfr (fun _ => sg_104_55 hch rfl (by omega) (sg_104_66 ?_)) (fun e => absurd (show (-1 : Int32) < 0 by decide) e)
    rw [show am_up M (20, 0, 0) 0 0 (21, 10, 0) (64 * t + 4 * s + fsee sh X t s (hdN X t s)) = X (9, t, ci sh t s (fsee sh X t s (hdN X t s))) 1 from (hrel0.2.2.1 t s _ ht hs hfs).1]
theorem m_nextT (hsh : shk sh) (hrel : rel sh c nol X M) {x y : Int32} (h : bad x sh.1 ∨ ∃ t, t < sh.1 ∧ x = nI t ∧ bad y (zs sh t)) : am_cq sh 3 104 M [mok, am_I x, am_I y] (am_up M (20, 0, 0) 0 1, Sum.inl (some (am_I 0))) := by
  refine am_cq_of (Nat.le_of_ble_eq_true rfl) rfl rfl (fun d hd => ?_)
  have hend : am_ev sh (am_cr sh d) 104 (29, [some mok, some (am_I x), some (am_I y)], [mok], M, 0) (fun r => r = Sum.inr (am_up M (20, 0, 0) 0 1, Sum.inl (some (am_I 0)))) :=
    sg_104_29 (sg_104_30 (fun e => absurd e c1_nle) (fun _ => sg_104_40 rfl))
  rcases h with h | ⟨t, ht, rfl, h⟩
  · exact sg_104_0 (m_isTf hsh hrel h d hd) (fun _ => hend) (fun e => absurd rfl e)
  · obtain ⟨z1, z2, z3⟩ := z_lt hsh ht
    have b := (hrel.2.1 t ht).1
    have i1 := in_n (sh := sh) (M := M) (x := y) z1 d (by omega)
    rw [b01_f (fun q => q h), ← b.1] at i1
    exact sg_104_0 (m_isT hsh hrel ht d hd) (fun e => absurd e (by decide)) (fun _ => sg_104_9 rfl z3 i1 (fun _ => hend) (fun e => absurd rfl e))
end VC
