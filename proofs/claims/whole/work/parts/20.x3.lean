-- a new tier: the class's memory and the reference's still say the same
section XC
variable {sh : am_Sh} {c Z Wy h : Nat} {W X M : am_M} {x1 x2 x3 x4 x5 : Int32}
def shg (sh : am_Sh) (Z Wy : Nat) : am_Sh := (sh.1 + 1, (fun t => if t = sh.1 then Z * Wy else sh.2.1 t), (fun t => if t = sh.1 then Z else sh.2.2.1 t), sh.2.2.2)
def zok (Z Wy : Nat) : Prop := (Z = 1 ∨ Z = 2 ∨ Z = 4 ∨ Z = 8 ∨ Z = 16) ∧ 1 ≤ Wy ∧ Wy ≤ 4
theorem tok_of (ht : tok x1 x2 x3 x4) : (∃ Z Wy, zok Z Wy ∧ x1 = nI Z ∧ x2 = nI Wy) ∧ (x3 = 0 ∨ x3 = 1 ∨ x3 = 2 ∨ x3 = 3) := by
  obtain ⟨h1, ⟨h2, h3⟩, ⟨h4, h5⟩, -⟩ := ht
  refine ⟨?_, ?_⟩
  · obtain ⟨y, hy, rfl⟩ : ∃ n : Nat, n ≤ 4 ∧ x2 = nI n := nI_of2 (M := 4) (n := 4) rfl (fun q => h2 (by rw [Int32.lt_iff_toInt_lt] at q ⊢; exact Int.lt_trans q (by decide))) h3
    have hy1 : 1 ≤ y := Decidable.byContradiction fun q => h2 (nI_lt (b := 1) (by omega) (by omega))
    rcases of_decide_eq_true h1 with rfl | rfl | rfl | rfl | rfl
    · exact ⟨1, y, ⟨by omega, hy1, hy⟩, rfl, rfl⟩
    · exact ⟨2, y, ⟨by omega, hy1, hy⟩, rfl, rfl⟩
    · exact ⟨4, y, ⟨by omega, hy1, hy⟩, rfl, rfl⟩
    · exact ⟨8, y, ⟨by omega, hy1, hy⟩, rfl, rfl⟩
    · exact ⟨16, y, ⟨by omega, hy1, hy⟩, rfl, rfl⟩
  · obtain ⟨y, hy, rfl⟩ : ∃ n : Nat, n ≤ 3 ∧ x3 = nI n := nI_of2 (M := 3) (n := 3) rfl h4 (by
      rw [Int32.le_iff_toInt_le]
      rw [Int32.lt_iff_toInt_lt] at h5
      omega)
    rcases (show y = 0 ∨ y = 1 ∨ y = 2 ∨ y = 3 by omega) with rfl | rfl | rfl | rfl
    · exact Or.inl rfl
    · exact Or.inr (Or.inl rfl)
    · exact Or.inr (Or.inr (Or.inl rfl))
    · exact Or.inr (Or.inr (Or.inr rfl))
theorem shg_N {t : Nat} (ht : t < sh.1) : (shg sh Z Wy).2.1 t = sh.2.1 t := if_neg (by omega)
theorem shg_Z {t : Nat} (ht : t < sh.1) : zs (shg sh Z Wy) t = zs sh t := if_neg (by omega)
theorem shg_w {t : Nat} (ht : t < sh.1) : wy (shg sh Z Wy) t = wy sh t := by
  unfold wy
  rw [shg_N ht, show (shg sh Z Wy).2.2.1 t = sh.2.2.1 t from if_neg (by omega)]
theorem shg_N0 : (shg sh Z Wy).2.1 sh.1 = Z * Wy := if_pos rfl
theorem shg_Z0 : zs (shg sh Z Wy) sh.1 = Z := if_pos rfl
theorem shg_w0 (hz : zok Z Wy) : wy (shg sh Z Wy) sh.1 = Wy := by
  unfold wy
  rw [shg_N0, show (shg sh Z Wy).2.2.1 sh.1 = Z from if_pos rfl]
  exact Nat.mul_div_cancel_left _ (by rcases hz.1 with h | h | h | h | h <;> omega)
theorem shg_k (hs : shk sh) (h4 : sh.1 < 4) (hz : zok Z Wy) : shk (shg sh Z Wy) := by
  have hzl : Z ≤ 16 := by rcases hz.1 with h | h | h | h | h <;> omega
  have hm : Z * Wy ≤ 16 * 4 := Nat.mul_le_mul hzl hz.2.2
  refine ⟨by show sh.1 + 1 ≤ 4; omega, fun t => ?_, fun t ht => ?_⟩
  · by_cases e : t = sh.1
    · subst e
      rw [shg_N0, show (shg sh Z Wy).2.2.1 sh.1 = Z from if_pos rfl]
      omega
    · rw [show (shg sh Z Wy).2.1 t = sh.2.1 t from if_neg e, show (shg sh Z Wy).2.2.1 t = sh.2.2.1 t from if_neg e]
      exact hs.2.1 t
  · have ht' : t < sh.1 + 1 := ht
    by_cases e : t = sh.1
    · subst e
      rw [shg_Z0, shg_w0 hz, shg_N0]
      exact ⟨hz.1, hz.2.1, hz.2.2, rfl⟩
    · have hl : t < sh.1 := by omega
      rw [shg_Z hl, shg_w hl, shg_N hl]
      exact hs.2.2 t hl
def tgM (W : am_M) (h : Nat) (x1 x2 x3 x4 x5 : Int32) : am_M := fun k j => if k.1 < 5 ∨ 10 < k.1 ∨ ¬ k.2.1 = h then W k j else if k.1 = 5 then (match j with
    | 0 => x1
    | 1 => x2
    | 2 => x3
    | 3 => x4
    | 4 => x5
    | _ => 0) else if k.1 = 9 ∧ j = 1 then -1 else 0
theorem tg_old {k : am_K} {j : Nat} (hk : k.1 < 5 ∨ 10 < k.1 ∨ ¬ k.2.1 = h) : tgM W h x1 x2 x3 x4 x5 k j = W k j := if_pos hk
theorem tg_new {k : am_K} {j : Nat} (h1 : 5 ≤ k.1) (h2 : k.1 ≤ 10) (h3 : k.2.1 = h) : tgM W h x1 x2 x3 x4 x5 k j = (if k.1 = 5 then (match j with
    | 0 => x1
    | 1 => x2
    | 2 => x3
    | 3 => x4
    | 4 => x5
    | _ => 0) else if k.1 = 9 ∧ j = 1 then -1 else 0) := if_neg (by omega)
theorem tg_blk {i : Nat} : tgM W h x1 x2 x3 x4 x5 (9, h, i) 1 = -1 := (tg_new (k := (9, h, i)) (by simp) (by simp) rfl).trans rfl
theorem tg_z {k : am_K} {j : Nat} (h1 : 6 ≤ k.1) (h2 : k.1 ≤ 10) (h3 : k.2.1 = h) (h9 : ¬ (k.1 = 9 ∧ j = 1)) : tgM W h x1 x2 x3 x4 x5 k j = 0 := by rw [tg_new (by omega) h2 h3, if_neg (by omega), if_neg h9]
theorem mtr_o {k : am_K} {j : Nat} (h0 : ¬ k = (20, 0, 0)) (h1 : k.1 = 21 → ¬ (3 ≤ k.2.1 ∧ k.2.1 ≤ 7) ∨ ¬ j = h) : mtr M h x1 x2 x3 x4 x5 k j = M k j := by
  have q : ∀ a, 3 ≤ a ∧ a ≤ 7 → ¬ (k = (21, a, 0) ∧ j = h) := fun a ha e => by
    rcases h1 (by rw [e.1]) with q | q
    · exact q (by rw [e.1]; exact ha)
    · exact q e.2
  unfold mtr
  rw [am_up_k h0, am_up_n (q 7 (by omega)), am_up_n (q 6 (by omega)), am_up_n (q 5 (by omega)), am_up_n (q 4 (by omega)), am_up_n (q 3 (by omega)), am_up_k h0]
theorem mtr_20 {j : Nat} (h0 : ¬ j = 0) (h1 : ¬ j = 1) : mtr M h x1 x2 x3 x4 x5 (20, 0, 0) j = M (20, 0, 0) j := by
  unfold mtr
  rw [am_up_j h1, am_up_k (by simp), am_up_k (by simp), am_up_k (by simp), am_up_k (by simp), am_up_k (by simp), am_up_j h0]
def tgX (W : am_M) (h : Nat) (x1 x2 x3 x4 x5 : Int32) : am_M := am_up (tgM W h x1 x2 x3 x4 x5) (0, 0, 0) 4 (nI (h + 1))
theorem tgX_k {k : am_K} {j : Nat} (hk : ¬ k = (0, 0, 0)) : tgX W h x1 x2 x3 x4 x5 k j = tgM W h x1 x2 x3 x4 x5 k j := am_up_k hk
theorem tgX_j {j : Nat} (hj : ¬ j = 4) : tgX W h x1 x2 x3 x4 x5 (0, 0, 0) j = tgM W h x1 x2 x3 x4 x5 (0, 0, 0) j := am_up_j hj
theorem tgX_4 : tgX W h x1 x2 x3 x4 x5 (0, 0, 0) 4 = nI (h + 1) := am_up_same _ _ _ _
theorem nI_nm1 {b : Nat} (hb : b < 256) : ¬ nI b = -1 := fun q => by
  have h := nI_pos (n := b) (by omega)
  rw [q] at h
  exact h (by decide)
theorem Jn_tier (hs : shk sh) (h4 : sh.1 < 4) (hz : zok Z Wy) (hJ : Jn sh c X M) (hp : prs sh X M) (h7 : X (0, 0, 0) 7 = 0) (h3 : x3 = 0 ∨ x3 = 1 ∨ x3 = 2 ∨ x3 = 3) : Jn (shg sh Z Wy) c (tgX X sh.1 (nI Z) (nI Wy) x3 x4 x5) (mtr M sh.1 (nI Z) (nI Wy) x3 x4 x5) := by
  obtain ⟨p1, p2, p3, p4⟩ := hp h7
  obtain ⟨⟨⟨⟨c1, c2⟩, c3⟩, iu, is, id, i0, ii⟩, hch, ⟨⟨a1, a2, a3, a4, a5, a6⟩, hB, hC, hD⟩, j1, j2⟩ := hJ
  have zl : 1 ≤ Z ∧ Z ≤ 16 := by rcases hz.1 with h | h | h | h | h <;> omega
  have o : ∀ (k : am_K) (j : Nat), ¬ k = (0, 0, 0) → (k.1 < 5 ∨ 10 < k.1 ∨ ¬ k.2.1 = sh.1) → tgX X sh.1 (nI Z) (nI Wy) x3 x4 x5 k j = X k j := fun k j q1 q2 => by rw [tgX_k q1, tg_old q2]
  have o0 : ∀ j : Nat, ¬ j = 4 → tgX X sh.1 (nI Z) (nI Wy) x3 x4 x5 (0, 0, 0) j = X (0, 0, 0) j := fun j q => by rw [tgX_j q, tg_old (Or.inl (by simp))]
  have nb : ∀ i, tgX X sh.1 (nI Z) (nI Wy) x3 x4 x5 (9, sh.1, i) 1 = -1 := fun i => by rw [tgX_k (by simp), tg_blk]
  have nz : ∀ (k : am_K) (j : Nat), 6 ≤ k.1 → k.1 ≤ 10 → k.2.1 = sh.1 → ¬ (k.1 = 9 ∧ j = 1) → tgX X sh.1 (nI Z) (nI Wy) x3 x4 x5 k j = 0 := fun k j q1 q2 q3 q4 => by rw [tgX_k (fun e => by rw [e] at q1; exact absurd q1 (by decide)), tg_z q1 q2 q3 q4]
  have n5 : ∀ j, tgX X sh.1 (nI Z) (nI Wy) x3 x4 x5 (5, sh.1, 0) j = (match j with
    | 0 => nI Z
    | 1 => nI Wy
    | 2 => x3
    | 3 => x4
    | 4 => x5
    | _ => 0) := fun j => (tgX_k (by simp)).trans ((tg_new (k := (5, sh.1, 0)) (by simp) (by simp) rfl).trans rfl)
  have ol : ∀ (k : am_K) (j : Nat), ¬ k = (0, 0, 0) → k.2.1 < sh.1 → tgX X sh.1 (nI Z) (nI Wy) x3 x4 x5 k j = X k j := fun k j q1 q2 => o k j q1 (by omega)
  refine ⟨⟨⟨⟨tgX_4, fun t ht => ?_⟩, fun t ht => ⟨fun s hs' => ?_, fun i hi => ?_⟩⟩, fun t ht => ?_, fun t ht => ?_, fun t ht => ?_, fun t ht => ?_, fun t u htu hu => ?_⟩, fun t ht => ?_, ⟨⟨am_up_same _ _ _ _, ?_, ?_, ?_, ?_, fun j hj => ?_⟩, fun t ht => ?_, fun t s w ht hs' hw => ?_, fun t ht => ?_⟩, ?_, fun k hk => ?_⟩
  · have ht' : t < sh.1 + 1 := ht
    by_cases e : t = sh.1
    · subst e
      rw [shg_Z0, shg_w0 hz, n5, n5]
      exact ⟨rfl, rfl⟩
    · have hl : t < sh.1 := by omega
      rw [shg_Z hl, shg_w hl, ol _ _ (by simp) hl, ol _ _ (by simp) hl]
      exact c2 t hl
  · have ht' : t < sh.1 + 1 := ht
    by_cases e : t = sh.1
    · subst e
      rw [shg_w0 hz]
      exact ⟨0, hz.2.1, nz _ _ (by simp) (by simp) rfl (by simp)⟩
    · have hl : t < sh.1 := by omega
      rw [shg_Z hl] at hs'
      rw [shg_w hl, ol _ _ (by simp) hl]
      exact (c3 t hl).1 s hs'
  · have ht' : t < sh.1 + 1 := ht
    by_cases e : t = sh.1
    · subst e
      exact Or.inl (nb i)
    · have hl : t < sh.1 := by omega
      rw [shg_N hl] at hi
      rw [ol _ _ (by simp) hl]
      exact (c3 t hl).2 i hi
  · have ht' : t < sh.1 + 1 := ht
    by_cases e : t = sh.1
    · subst e
      exact fun i i' _ _ _ q => absurd (nb i) q
    · have hl : t < sh.1 := by omega
      intro i i' hi hi' q1 q2
      rw [shg_N hl] at hi hi'
      rw [ol _ _ (by simp) hl, ol _ _ (by simp) hl] at q1
      rw [ol _ _ (by simp) hl] at q2
      exact iu t hl i i' hi hi' q1 q2
  · have ht' : t < sh.1 + 1 := ht
    by_cases e : t = sh.1
    · subst e
      exact fun s w _ _ b hb q => absurd (q.symm.trans (nb _)) (nI_nm1 hb)
    · have hl : t < sh.1 := by omega
      intro s w q1 q2 b hb q3
      rw [shg_Z hl] at q1
      rw [shg_w hl] at q2
      rw [shg_w hl, ol _ _ (by simp) hl] at q3
      rw [shg_Z hl]
      exact is t hl s w q1 q2 b hb q3
  · have ht' : t < sh.1 + 1 := ht
    by_cases e : t = sh.1
    · subst e
      exact fun i _ => ⟨0, by decide, nz _ _ (by simp) (by simp) rfl (by simp)⟩
    · have hl : t < sh.1 := by omega
      intro i hi
      rw [shg_N hl] at hi
      rw [ol _ _ (by simp) hl]
      exact id t hl i hi
  · have ht' : t < sh.1 + 1 := ht
    by_cases e : t = sh.1
    · subst e
      exact fun _ i _ => nz _ _ (by simp) (by simp) rfl (by simp)
    · have hl : t < sh.1 := by omega
      intro q i hi
      rw [shg_N hl] at hi
      rw [ol _ _ (by simp) hl] at q
      rw [ol _ _ (by simp) hl]
      exact i0 t hl q i hi
  · have hu' : u < sh.1 + 1 := hu
    have hl : t < sh.1 := by omega
    by_cases e : u = sh.1
    · subst e
      intro _ b hb q
      obtain ⟨i, hi, q⟩ := q
      rw [shg_N hl] at hi
      rw [ol _ _ (by simp) hl, p1 t hl i hi] at q
      exact absurd q.symm (nI_nm1 hb)
    · have hul : u < sh.1 := by omega
      intro q b hb q2
      rw [ol _ _ (by simp) hul] at q
      obtain ⟨i, hi, q2⟩ := q2
      rw [shg_N hl] at hi
      rw [ol _ _ (by simp) hl] at q2
      obtain ⟨i', hi', q3⟩ := ii t u htu hul q b hb ⟨i, hi, q2⟩
      exact ⟨i', by rw [shg_N hul]; exact hi', by rw [ol _ _ (by simp) hul]; exact q3⟩
  · have ht' : t < sh.1 + 1 := ht
    by_cases e : t = sh.1
    · subst e
      rw [n5]
      exact h3
    · have hl : t < sh.1 := by omega
      rw [ol _ _ (by simp) hl]
      exact hch t hl
  · rw [mtr_20 (by decide) (by decide)]; exact a2
  · rw [mtr_20 (by decide) (by decide), o0 _ (by decide)]; exact a3
  · rw [mtr_20 (by decide) (by decide), o0 _ (by decide)]; exact a4
  · rw [mtr_20 (by decide) (by decide), o0 _ (by decide)]; exact a5
  · rw [mtr_o (by simp) (fun _ => Or.inl (by simp)), o _ _ (by simp) (Or.inl (by simp))]; exact a6 j hj
  · have ht' : t < sh.1 + 1 := ht
    by_cases e : t = sh.1
    · subst e
      rw [shg_Z0, shg_w0 hz]
      refine ⟨⟨?_, ?_, ?_, ?_, ?_⟩, fun j hj => ?_, fun s hs' => ?_⟩
      · unfold mtr
        rw [am_up_k (by simp), am_up_k (by simp), am_up_k (by simp), am_up_k (by simp), am_up_k (by simp), am_up_same]
      · unfold mtr
        rw [am_up_k (by simp), am_up_k (by simp), am_up_k (by simp), am_up_k (by simp), am_up_same]
      · rw [n5]
        unfold mtr
        rw [am_up_k (by simp), am_up_k (by simp), am_up_k (by simp), am_up_same]
        rfl
      · rw [n5]
        unfold mtr
        rw [am_up_k (by simp), am_up_k (by simp), am_up_same]
        rfl
      · rw [n5]
        unfold mtr
        rw [am_up_k (by simp), am_up_same]
        rfl
      · rw [mtr_o (by simp) (fun _ => Or.inl (by simp)), nz _ _ (by simp) (by simp) rfl (by simp)]
        exact p3 _ (by omega) (by omega)
      · rw [mtr_o (by simp) (fun _ => Or.inl (by simp)), nz _ _ (by simp) (by simp) rfl (by simp)]
        exact p4 _ (by omega) (by omega)
    · have hl : t < sh.1 := by omega
      obtain ⟨⟨b1, b2, b3, b4, b5⟩, b6, b7⟩ := hB t hl
      rw [shg_Z hl, shg_w hl]
      refine ⟨⟨?_, ?_, ?_, ?_, ?_⟩, fun j hj => ?_, fun s hs' => ?_⟩
      · rw [mtr_o (by simp) (fun _ => Or.inr e)]; exact b1
      · rw [mtr_o (by simp) (fun _ => Or.inr e)]; exact b2
      · rw [mtr_o (by simp) (fun _ => Or.inr e), ol _ _ (by simp) hl]; exact b3
      · rw [mtr_o (by simp) (fun _ => Or.inr e), ol _ _ (by simp) hl]; exact b4
      · rw [mtr_o (by simp) (fun _ => Or.inr e), ol _ _ (by simp) hl]; exact b5
      · rw [mtr_o (by simp) (fun _ => Or.inl (by simp)), ol _ _ (by simp) hl]; exact b6 j hj
      · rw [mtr_o (by simp) (fun _ => Or.inl (by simp)), ol _ _ (by simp) hl]; exact b7 s hs'
  · have ht' : t < sh.1 + 1 := ht
    by_cases e : t = sh.1
    · subst e
      rw [shg_Z0] at hs'
      rw [shg_w0 hz] at hw
      refine ⟨?_, fun q => absurd (nb _) q⟩
      rw [nb, mtr_o (by simp) (fun _ => Or.inl (by simp))]
      have hw4 := hz.2.2
      exact p2 _ (by unfold mi; omega) (by unfold mi; omega)
    · have hl : t < sh.1 := by omega
      rw [shg_Z hl] at hs'
      rw [shg_w hl] at hw
      obtain ⟨b1, b2⟩ := hC t s w hl hs' hw
      have ec : ci (shg sh Z Wy) t s w = ci sh t s w := by unfold ci; rw [shg_w hl]
      unfold rl
      rw [ec, ol _ _ (by simp) hl, ol _ _ (by simp) hl, ol _ _ (by simp) hl, ol _ _ (by simp) hl, mtr_o (by simp) (fun _ => Or.inl (by simp)), mtr_o (by simp) (fun _ => Or.inl (by simp)), mtr_o (by simp) (fun _ => Or.inl (by simp)), mtr_o (by simp) (fun _ => Or.inl (by simp))]
      refine ⟨b1, fun q => ⟨(b2 q).1, (b2 q).2.1, (b2 q).2.2.1, fun q2 k hk => ?_⟩⟩
      rw [ol _ _ (by simp) hl, mtr_o (by simp) (fun _ => Or.inl (by simp))]
      exact (b2 q).2.2.2 q2 k hk
  · have ht' : t < sh.1 + 1 := ht
    by_cases e : t = sh.1
    · subst e
      exact ⟨0, Nat.zero_le _, by rw [n5]; rfl, fun s w _ _ q => absurd (nb _) q⟩
    · have hl : t < sh.1 := by omega
      have h9 : rt sh c (tgX X sh.1 (nI Z) (nI Wy) x3 x4 x5) (mtr M sh.1 (nI Z) (nI Wy) x3 x4 x5) t := by
        refine rt_mono (hD t hl) (Nat.le_refl _) (ol _ _ (by simp) hl) (fun s w _ _ q => ?_)
        rw [ol _ _ (by simp) hl] at q
        rw [ol _ _ (by simp) hl, ol _ _ (by simp) hl, mtr_o (by simp) (fun _ => Or.inl (by simp)), mtr_o (by simp) (fun _ => Or.inl (by simp))]
        exact ⟨q, rfl, rfl, rfl, rfl⟩
      unfold rt ci at h9 ⊢
      rw [shg_Z hl, shg_w hl]
      exact h9
  · rw [mtr_20 (by decide) (by decide)]; exact j1
  · rw [mtr_o (by simp) (fun _ => Or.inl (by simp)), o _ _ (by simp) (Or.inl (by simp))]; exact j2 k hk
theorem prs_tier (hs : shk sh) (h4 : sh.1 < 4) (hp : prs sh X M) (h7 : X (0, 0, 0) 7 = 0) : prs (shg sh Z Wy) (tgX X sh.1 x1 x2 x3 x4 x5) (mtr M sh.1 x1 x2 x3 x4 x5) := by
  obtain ⟨p1, p2, p3, p4⟩ := hp h7
  intro _
  refine ⟨fun t ht i hi => ?_, fun j a b => ?_, fun j a b => ?_, fun j a b => ?_⟩
  · have ht' : t < sh.1 + 1 := ht
    by_cases e : t = sh.1
    · subst e
      rw [tgX_k (by simp), tg_blk]
    · have hl : t < sh.1 := by omega
      rw [shg_N hl] at hi
      rw [tgX_k (by simp), tg_old (Or.inr (Or.inr e))]
      exact p1 t hl i hi
  · have a' : 64 * (sh.1 + 1) ≤ j := a
    rw [mtr_o (by simp) (fun _ => Or.inl (by simp))]; exact p2 j (by omega) b
  · have a' : 6 * (sh.1 + 1) ≤ j := a
    rw [mtr_o (by simp) (fun _ => Or.inl (by simp))]; exact p3 j (by omega) b
  · have a' : 16 * (sh.1 + 1) ≤ j := a
    rw [mtr_o (by simp) (fun _ => Or.inl (by simp))]; exact p4 j (by omega) b
end XC
