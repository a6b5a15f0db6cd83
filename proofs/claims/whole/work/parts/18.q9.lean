-- the reference: its small methods
abbrev mok : am_V := am_R (some (20, 0, 0))
abbrev mA (j : Nat) : am_K := (21, j, 0)
section QMo
variable {sh : am_Sh} {M : am_M}
theorem m_firstOf {t s : Nat} : am_cq sh 1 69 M [mok, am_I (nI t), am_I (nI s)] (M, Sum.inl (some (am_I (nI (64 * t + 4 * s))))) :=
  am_cq_of (Nat.le_of_ble_eq_true rfl) rfl rfl (fun d _ => sg_69_0 (by rw [show (64 : Int32) * nI t = nI (64 * t) from pk_mul 64 t, show (4 : Int32) * nI s = nI (4 * s) from pk_mul 4 s, nI_add]))
/-- what the reference's memory says of tier t -/
def mcf (M : am_M) (t z y : Nat) : Prop := t < 4 ∧ 1 ≤ z ∧ z ≤ 16 ∧ 1 ≤ y ∧ y ≤ 4 ∧ M (21, 3, 0) t = nI z ∧ M (21, 4, 0) t = nI y
def mfl (M : am_M) (v : Int32) (f : Nat) : Nat → Nat → Int32 → Int32
  | _, 0, c => c
  | w, k + 1, c => mfl M v f (w + 1) k (if M (21, 10, 0) (f + w) = v then nI (f + w) else c)
theorem mfl_loop {t z y : Nat} (hm : mcf M t z y) {s : Nat} (hs : s < z) {v : Int32} {d : Nat} {P : am_S ⊕ am_O → Prop} : ∀ (k w : Nat) (c : Int32), w + k = y → P (Sum.inr (M, Sum.inl (some (am_I (mfl M v (64 * t + 4 * s) w k c))))) → am_ev sh (am_cr sh d) 68 (20, [some mok, some (am_I (nI t)), some (am_I v), some (am_I (nI (64 * t + 4 * s))), some (am_I c), some (am_I (nI w))], [], M, 0) P := by
  obtain ⟨h1, h2, h3, h4, h5, h6, h7⟩ := hm
  intro k
  induction k with
  | zero =>
    intro w c hw hP
    refine sg_68_20 rfl h1 (fun _ => sg_68_61 hP) (fun h => absurd ?_ h)
    rw [h7]; exact nI_le (by omega) (by omega)
  | succ k ih =>
    intro w c hw hP
    refine sg_68_20 rfl h1 (fun h => ?_) (fun _ => sg_68_31 (nI_add _ _) (show 64 * t + 4 * s + w < 256 by omega) (fun h => ?_) (fun h => ?_))
    · rw [h7] at h; exact absurd h (nI_ge (by omega) (by omega))
    · unfold mfl at hP
      rw [if_neg h] at hP
      refine sg_68_51 (sg_68_53 ?_)
      rw [nI_1]
      exact ih _ _ (by omega) hP
    · unfold mfl at hP
      rw [if_pos h] at hP
      refine sg_68_44 (sg_68_53 ?_)
      rw [nI_1, nI_add]
      exact ih _ _ (by omega) hP
theorem m_find {t z y : Nat} (hm : mcf M t z y) {b : Nat} (hb : b < 256) : am_cq sh 2 68 M [mok, am_I (nI t), am_I (nI b)] (M, Sum.inl (some (am_I (mfl M (nI b) (64 * t + 4 * (b % z)) 0 y (-1))))) := by
  have hm' := hm
  obtain ⟨h1, h2, h3, h4, h5, h6, h7⟩ := hm
  refine am_cq_of (Nat.le_of_ble_eq_true rfl) rfl rfl (fun d hd => sg_68_0 (j1 := t) (M1 := M) (r1 := nI (64 * t + 4 * (b % z))) rfl h1 ?_ ?_ (mfl_loop hm' (Nat.mod_lt _ (by omega)) _ 0 (-1) (Nat.zero_add _) rfl))
  · rw [h6]; exact nI_ne0 (by omega) (by omega)
  · rw [h6, pk_rem (by omega) (by omega) (by omega)]
    exact m_firstOf d hd
def mfr (M : am_M) (f : Nat) : Nat → Int32 → Int32
  | 0, c => c
  | k + 1, c => mfr M f k (if M (21, 10, 0) (f + k) < 0 then nI (f + k) else c)
theorem mfr_loop {t s : Nat} (ht : t < 4) (hs : s < 16) {d : Nat} {P : am_S ⊕ am_O → Prop} : ∀ (k : Nat) (c : Int32), k ≤ 4 → P (Sum.inr (M, Sum.inl (some (am_I (mfr M (64 * t + 4 * s) k c))))) → am_ev sh (am_cr sh d) 71 (20, [some mok, some (am_I (nI t)), some (am_I (nI s)), some (am_I (nI (64 * t + 4 * s))), some (am_I c), some (am_I (nI k - 1))], [], M, 0) P := by
  intro k
  induction k with
  | zero =>
    intro c hk hP
    exact sg_71_20 (fun _ => sg_71_54 hP) (fun h => absurd (by decide) h)
  | succ k ih =>
    intro c hk hP
    rw [nI_pred]
    unfold mfr at hP
    refine sg_71_20 (fun h => absurd h (nI_pos (by omega))) (fun _ => sg_71_25 (nI_add _ _) (show 64 * t + 4 * s + k < 256 by omega) (fun h => ?_) (fun h => ?_))
    · rw [if_neg (i_nlt h)] at hP
      refine sg_71_44 (sg_71_46 ?_)
      rw [show nI k + (-1) = nI k - 1 by rw [Int32.sub_eq_add_neg]]
      exact ih _ (by omega) hP
    · rw [if_pos (i_nle h)] at hP
      refine sg_71_37 (sg_71_46 ?_)
      rw [show nI k + (-1) = nI k - 1 by rw [Int32.sub_eq_add_neg], nI_add]
      exact ih _ (by omega) hP
theorem m_freeIn {t z y : Nat} (hm : mcf M t z y) {s : Nat} (hs : s < z) : am_cq sh 2 71 M [mok, am_I (nI t), am_I (nI s)] (M, Sum.inl (some (am_I (mfr M (64 * t + 4 * s) y (-1))))) := by
  obtain ⟨h1, h2, h3, h4, h5, h6, h7⟩ := hm
  refine am_cq_of (Nat.le_of_ble_eq_true rfl) rfl rfl (fun d hd => sg_71_0 (m_firstOf d hd) rfl h1 ?_)
  rw [h7]
  exact mfr_loop h1 (by omega) _ _ (by omega) rfl
def mgb (M : am_M) (t l l' : Nat) : Bool :=
  if M (21, 5, 0) t = 0 then decide (M (21, 12, 0) l < M (21, 12, 0) l')
  else if M (21, 5, 0) t = 1 then decide (M (21, 13, 0) l < M (21, 13, 0) l')
  else decide (M (21, 14, 0) l < M (21, 14, 0) l' ∨ (M (21, 14, 0) l = M (21, 14, 0) l' ∧ M (21, 12, 0) l < M (21, 12, 0) l'))
theorem m_goesBefore {t l l' : Nat} (ht : t < 4) (hl : l < 256) (hl' : l' < 256) : am_cq sh 1 73 M [mok, am_I (nI t), am_I (nI l), am_I (nI l')] (M, Sum.inl (some (am_I (b01 (mgb M t l l'))))) := by
  refine am_cq_of (Nat.le_of_ble_eq_true rfl) rfl rfl (fun d _ => sg_73_0 rfl ht (fun c0 => sg_73_30 rfl ht (fun c1 => ?_) (fun c1 => ?_)) (fun c0 => ?_))
  · have e : mgb M t l l' = decide (M (21, 14, 0) l < M (21, 14, 0) l' ∨ (M (21, 14, 0) l = M (21, 14, 0) l' ∧ M (21, 12, 0) l < M (21, 12, 0) l')) := by unfold mgb; rw [if_neg c0, if_neg c1]
    have hT : mgb M t l l' = true → am_ev sh (am_cr sh d) 73 (106, [some mok, some (am_I (nI t)), some (am_I (nI l)), some (am_I (nI l'))], [], M, 0) (fun r => r = Sum.inr (M, Sum.inl (some (am_I (b01 (mgb M t l l')))))) := fun h => sg_73_106 (sg_73_111 (Or.inr rfl) (by rw [h]; rfl))
    have hF : mgb M t l l' = false → am_ev sh (am_cr sh d) 73 (110, [some mok, some (am_I (nI t)), some (am_I (nI l)), some (am_I (nI l'))], [], M, 0) (fun r => r = Sum.inr (M, Sum.inl (some (am_I (b01 (mgb M t l l')))))) := fun h => sg_73_110 (sg_73_111 (Or.inl rfl) (by rw [h]; rfl))
    refine sg_73_61 rfl hl rfl hl' (fun h => hT (by rw [e]; exact decide_eq_true (Or.inl h))) (fun h => sg_73_76 rfl hl rfl hl' (fun h2 => hF ?_) (fun h2 => sg_73_91 rfl hl rfl hl' (fun h3 => hF ?_) (fun h3 => hT ?_)))
    · rw [e]; exact decide_eq_false (fun q => q.elim h (fun r => h2 r.1))
    · rw [e]; exact decide_eq_false (fun q => q.elim h (fun r => i_nlt h3 r.2))
    · rw [e]; exact decide_eq_true (Or.inr ⟨h2, i_nle h3⟩)
  · have e : mgb M t l l' = decide (M (21, 13, 0) l < M (21, 13, 0) l') := by unfold mgb; rw [if_neg c0, if_pos c1]
    refine sg_73_40 rfl hl rfl hl' (fun h => sg_73_59 (sg_73_60 (Or.inl rfl) ?_)) (fun h => sg_73_55 (sg_73_60 (Or.inr rfl) ?_))
    · rw [e, decide_eq_false (i_nlt h)]; rfl
    · rw [e, decide_eq_true (i_nle h)]; rfl
  · have e : mgb M t l l' = decide (M (21, 12, 0) l < M (21, 12, 0) l') := by unfold mgb; rw [if_pos c0]
    refine sg_73_9 rfl hl rfl hl' (fun h => sg_73_28 (sg_73_29 (Or.inl rfl) ?_)) (fun h => sg_73_24 (sg_73_29 (Or.inr rfl) ?_))
    · rw [e, decide_eq_false (i_nlt h)]; rfl
    · rw [e, decide_eq_true (i_nle h)]; rfl
/-- the chosen place, as an offset in the set: k counts down -/
def mch (M : am_M) (t f y a : Nat) : Nat → Nat → Nat
  | 0, c => c
  | k + 1, c => if M (21, 5, 0) t = 2 then mch M t f y a k (if M (21, 15, 0) (f + (a + k) % y) = 0 then (a + k) % y else c) else mch M t f y a k (if mgb M t (f + k) (f + c) = true then k else c)
theorem mch_loop {t z y : Nat} (hm : mcf M t z y) {s a : Nat} (hs : s < z) (ha : a < y) {d : Nat} (hd : 1 ≤ d) {P : am_S ⊕ am_O → Prop} : ∀ (k c : Nat) (u8 u9 : Option am_V), k ≤ y → c < y → P (Sum.inr (M, Sum.inl (some (am_I (nI (64 * t + 4 * s + mch M t (64 * t + 4 * s) y a k c)))))) → am_ev sh (am_cr sh d) 72 (54, [some mok, some (am_I (nI t)), some (am_I (nI s)), some (am_I (nI (64 * t + 4 * s))), some (am_I (nI y)), some (am_I (nI a)), some (am_I (nI (64 * t + 4 * s + c))), some (am_I (nI k - 1)), u8, u9], [], M, 0) P := by
  obtain ⟨h1, h2, h3, h4, h5, h6, h7⟩ := hm
  intro k
  induction k with
  | zero =>
    intro c u8 u9 hk hc hP
    exact sg_72_54 (fun _ => sg_72_147 hP) (fun h => absurd (by decide) h)
  | succ k ih =>
    intro c u8 u9 hk hc hP
    rw [nI_pred]
    have hm1 : nI k + (-1) = nI k - 1 := by rw [Int32.sub_eq_add_neg]
    unfold mch at hP
    refine sg_72_54 (fun h => absurd h (nI_pos (by omega))) (fun _ => sg_72_59 rfl h1 (fun c2 => sg_72_82 (sg_72_86 rfl h1 (fun _ => ?_) (fun q => absurd q c2))) (fun c2 => sg_72_69 (nI_ne0 (by omega) (by omega)) (sg_72_86 rfl h1 (fun q => absurd c2 q) (fun _ => ?_))))
    · rw [if_neg c2] at hP
      rw [nI_add]
      refine sg_72_116 (m_goesBefore h1 (show 64 * t + 4 * s + k < 256 by omega) (show 64 * t + 4 * s + c < 256 by omega) d hd) (sg_72_125 (fun h => sg_72_137 (sg_72_139 ?_)) (fun h => sg_72_132 (sg_72_139 ?_)))
      · rw [hm1]
        cases hg : mgb M t (64 * t + 4 * s + k) (64 * t + 4 * s + c) with
        | true => rw [hg] at h; exact absurd h (by decide)
        | false => rw [hg] at hP; exact ih _ _ _ (by omega) hc hP
      · rw [hm1]
        cases hg : mgb M t (64 * t + 4 * s + k) (64 * t + 4 * s + c) with
        | true => rw [hg] at hP; exact ih _ _ _ (by omega) (by omega) hP
        | false => rw [hg] at h; exact absurd rfl h
    · rw [if_pos c2] at hP
      have hmod : (a + k) % y < y := Nat.mod_lt _ (by omega)
      rw [nI_add, pk_rem (by omega) (by omega) (by omega), nI_add]
      refine sg_72_98 rfl (show 64 * t + 4 * s + (a + k) % y < 256 by omega) (fun h => sg_72_112 (sg_72_125 (fun _ => sg_72_137 (sg_72_139 ?_)) (fun q => absurd rfl q))) (fun h => sg_72_108 (sg_72_125 (fun q => absurd q (by decide)) (fun _ => sg_72_132 (sg_72_139 ?_))))
      · rw [hm1]
        rw [if_neg h] at hP
        exact ih _ _ _ (by omega) hc hP
      · rw [hm1]
        rw [if_pos h] at hP
        exact ih _ _ _ (by omega) hmod hP
def mcho (M : am_M) (t s y a : Nat) : Nat := mch M t (64 * t + 4 * s) y a y (if M (21, 5, 0) t = 2 then a else 0)
theorem m_choice {t z y : Nat} (hm : mcf M t z y) {s a : Nat} (hs : s < z) (ha : a < y) (hh : M (21, 9, 0) (16 * t + s) = nI a) : am_cq sh 2 72 M [mok, am_I (nI t), am_I (nI s)] (M, Sum.inl (some (am_I (nI (64 * t + 4 * s + mcho M t s y a))))) := by
  have hm' := hm
  obtain ⟨h1, h2, h3, h4, h5, h6, h7⟩ := hm
  have e16 : (16 : Int32) * nI t + nI s = nI (16 * t + s) := by rw [show (16 : Int32) * nI t = nI (16 * t) from pk_mul 16 t, nI_add]
  refine am_cq_of (Nat.le_of_ble_eq_true rfl) rfl rfl (fun d hd => sg_72_0 (m_firstOf d hd) rfl h1 e16 (show 16 * t + s < 64 by omega) rfl h1 (fun c2 => sg_72_45 (sg_72_46 ?_)) (fun c2 => sg_72_38 (sg_72_46 ?_)))
  · rw [h7, hh]
    refine mch_loop hm' hs ha hd y 0 _ _ (Nat.le_refl _) (by omega) ?_
    unfold mcho
    rw [if_neg c2]
  · rw [h7, hh, nI_add]
    refine mch_loop hm' hs ha hd y a _ _ (Nat.le_refl _) ha ?_
    unfold mcho
    rw [if_pos c2]
def muse (M : am_M) (l : Nat) : am_M := am_up (am_up (am_up (am_up M (20, 0, 0) 17 (M (20, 0, 0) 17 + 1)) (21, 13, 0) l (M (20, 0, 0) 17 + 1)) (21, 14, 0) l (M (21, 14, 0) l + 1)) (21, 15, 0) l 1
theorem m_use {l : Nat} (hl : l < 256) : am_cq sh 1 75 M [mok, am_I (nI l)] (muse M l, Sum.inl none) := by
  refine am_cq_of (Nat.le_of_ble_eq_true rfl) rfl rfl (fun d hd => sg_75_0 rfl hl rfl hl rfl hl ?_)
  rw [am_up_same, am_up_k (by simp), am_up_k (by simp)]
  rfl
def mplc (M : am_M) (l : Nat) (b : Int32) : am_M := am_up (muse (am_up (am_up (am_up M (21, 10, 0) l b) (21, 11, 0) l 0) (21, 14, 0) l 0) l) (21, 12, 0) l (M (20, 0, 0) 17 + 1)
theorem m_place {l : Nat} (hl : l < 256) {b : Int32} : am_cq sh 2 78 M [mok, am_I (nI l), am_I b] (mplc M l b, Sum.inl none) := by
  refine am_cq_of (Nat.le_of_ble_eq_true rfl) rfl rfl (fun d hd => sg_78_0 rfl hl rfl hl rfl hl (m_use hl d hd) rfl hl ?_)
  unfold mplc
  congr 3
def mpsh (M : am_M) (j : Nat) (x1 x2 x3 x4 x5 : Int32) : am_M := am_up (am_up (am_up (am_up (am_up (am_up (am_up M (21, 24, 0) j x1) (21, 25, 0) j x2) (21, 26, 0) j x3) (21, 27, 0) j x4) (21, 28, 0) j x5) (21, 29, 0) j 0) (20, 0, 0) 23 (nI (j + 1))
theorem m_push {j : Nat} (hj : j < 64) (h : M (20, 0, 0) 23 = nI j) {x1 x2 x3 x4 x5 : Int32} : am_cq sh 1 65 M [mok, am_I x1, am_I x2, am_I x3, am_I x4, am_I x5] (mpsh M j x1 x2 x3 x4 x5, Sum.inl none) := by
  have e1 : ∀ (M : am_M) (q : Nat) (v : Int32), M (20, 0, 0) 23 = nI j → am_up M (21, q, 0) j v (20, 0, 0) 23 = nI j := fun M q v h => by rw [am_up_k (by simp)]; exact h
  refine am_cq_of (Nat.le_of_ble_eq_true rfl) rfl rfl (fun d hd => sg_65_0 h hj (e1 _ _ _ h) hj (e1 _ _ _ (e1 _ _ _ h)) hj (e1 _ _ _ (e1 _ _ _ (e1 _ _ _ h))) hj (e1 _ _ _ (e1 _ _ _ (e1 _ _ _ (e1 _ _ _ h)))) hj (e1 _ _ _ (e1 _ _ _ (e1 _ _ _ (e1 _ _ _ (e1 _ _ _ h))))) hj ?_)
  rw [e1 _ _ _ (e1 _ _ _ (e1 _ _ _ (e1 _ _ _ (e1 _ _ _ (e1 _ _ _ h))))), nI_1]
  rfl
/-- four words from one array to another -/
abbrev cp4 (M : am_M) (k0 k1 : am_K) (sp dp : Nat) : am_M := am_cp M k0 k1 sp dp 4
end QMo
