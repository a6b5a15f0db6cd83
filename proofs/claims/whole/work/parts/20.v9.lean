-- one memory holds both
section VH
variable {sh : am_Sh} {c t : Nat} {X X' X'' M M' : am_M} {key : am_K}
theorem Jn_M (hJ : Jn sh c X M) (e : ∀ k j, (k.1 = 20 ∨ k.1 = 21) → M' k j = M k j) : Jn sh c X M' := by
  obtain ⟨h1, h2, h3, h4, h5⟩ := hJ
  refine ⟨h1, h2, rel_M h3 (fun k j hv => e k j ?_), by rw [e _ _ (by simp)]; exact h4, fun k hk => by rw [e _ _ (by simp)]; exact h5 k hk⟩
  rcases hv with ⟨rfl, -⟩ | ⟨a, rfl, -⟩
  · exact Or.inl rfl
  · exact Or.inr rfl
theorem Jn_X (hJ : Jn sh c X M) (e : ∀ k j, k.1 < 11 → X' k j = X k j) : Jn sh c X' M := by
  obtain ⟨h1, h2, h3, h4, h5⟩ := hJ
  exact ⟨II_of h1 (fun k j q => e k j (by omega)), chk_of h2 (fun u => e _ _ (by simp)), rel_X h3 (fun k j q => e k j (by omega)) (fun t s w _ _ _ _ _ k _ => e _ _ (by simp)), h4, fun k hk => by rw [e _ _ (by simp)]; exact h5 k hk⟩
/-- the reference's cells, and all others above, stay -/
def hix (X X' : am_M) : Prop := ∀ k j, 20 ≤ k.1 → X' k j = X k j
theorem hix_trans (h : hix X X') (h' : hix X' X'') : hix X X'' := fun k j q => (h' k j q).trans (h k j q)
theorem hix_cfr (h : cfr t key X X') (hk : key.1 < 20) : hix X X' := fun k j q => h.1 k j (by unfold unch; omega) (fun e => by rw [e] at q; omega)
theorem hix_up {k : am_K} {j : Nat} {v : Int32} (hk : k.1 < 20) : hix X (am_up X k j v) := fun k' j' q => am_up_k (fun e => by rw [e] at q; omega)
theorem rdw_ok (hsh : shk sh) (hII : II sh X) {w : Nat} (hw : w < 1024) : II sh (rdw sh w X) ∧ hix X (rdw sh w X) := by
  obtain ⟨d1, d2, -⟩ := (g_lvh hsh).1 (am_up X (0, 0, 0) 7 1) (w / 4) (3, 0, 0) (II_up hII (by simp)) (by omega) (Or.inl rfl) (kup0 (by simp))
  exact ⟨d1, hix_trans (hix_up (by simp)) (hix_cfr d2 (by simp))⟩
theorem wrw_ok (hsh : shk sh) (hII : II sh X) {w : Nat} (hw : w < 1024) {v : Int32} : II sh (wrw sh w v X) ∧ hix X (wrw sh w v X) := by
  have hs4 := shl4 ⟨w % 4, by omega⟩
  obtain ⟨d1, d2⟩ := (g_lvh hsh).2 (am_up (am_up X (0, 0, 0) 7 1) (4, 0, 0) (w % 4) v) (w / 4) (2 ^ (w % 4)) (4, 0, 0) (II_up (II_up hII (by simp)) (by simp)) (by omega) hs4.2 (Or.inr (Or.inl rfl)) (kup0 (by simp))
  unfold wrw
  rw [hs4.1]
  exact ⟨d1, hix_trans (hix_trans (hix_up (by simp)) (hix_up (by simp))) (hix_cfr d2 (by simp))⟩
theorem runL_ok (hsh : shk sh) {span : Nat} (h1 : 1 ≤ span) (h2 : span ≤ 1024) : ∀ (k : Nat) (x sum : Int32) (X : am_M), II sh X → II sh (runL sh span k x sum X).1 ∧ hix X (runL sh span k x sum X).1 := by
  intro k
  induction k with
  | zero => exact fun _ _ _ h => ⟨h, fun _ _ _ => rfl⟩
  | succ k ih =>
    intro x sum X hII
    obtain ⟨e, hlt⟩ := rword_eq h1 h2 (nxtx x)
    unfold runL
    split
    · obtain ⟨a, b⟩ := wrw_ok hsh hII hlt (v := nxtx x)
      obtain ⟨a', b'⟩ := ih (nxtx x) sum _ a
      exact ⟨a', hix_trans b b'⟩
    · obtain ⟨a, b⟩ := rdw_ok hsh hII hlt
      obtain ⟨a', b'⟩ := ih (nxtx x) (sum + rdw sh (rword span (nxtx x)) X (3, 0, 0) (rword span (nxtx x) % 4)) _ a
      exact ⟨a', hix_trans b b'⟩
theorem fls_ok (hsh : shk sh) (ht : t < sh.1) : ∀ (k i : Nat) (X : am_M) (v : Int32), II sh X → i + k = sh.2.1 t → II sh (fls sh t i k X v).1 ∧ hix X (fls sh t i k X v).1 := by
  intro k
  obtain ⟨s1, s2⟩ := sw_t hsh ht
  induction k with
  | zero => exact fun _ _ _ h _ => ⟨h, fun _ _ _ => rfl⟩
  | succ k ih =>
    intro i X v hII hi
    rw [fls]
    split
    · exact ih _ _ _ hII (by omega)
    · rename_i hp
      obtain ⟨b, hb, hk⟩ : ∃ b, b < 256 ∧ X (9, t, i) 1 = nI b := ((hII.1.2 t ht).2 _ (by omega)).resolve_left hp
      obtain ⟨d1, d2, -⟩ := g_wdir hsh ht s2 hII (show i < sh.2.1 t by omega) hb hk
      obtain ⟨a', b'⟩ := ih (i + 1) (wdir (wlo sh t) t i X) (v + bcf (X (9, t, i) 2)) d1 (by omega)
      exact ⟨a', hix_trans (hix_cfr d2 (by simp)) b'⟩
theorem emp_ok (hsh : shk sh) (ht : t < sh.1) : ∀ (k i : Nat) (X : am_M) (v : Int32), II sh X → i + k = sh.2.1 t → II sh (emp sh t i k X v).1 ∧ hix X (emp sh t i k X v).1 := by
  intro k
  obtain ⟨s1, s2⟩ := sw_t hsh ht
  induction k with
  | zero => exact fun _ _ _ h _ => ⟨h, fun _ _ _ => rfl⟩
  | succ k ih =>
    intro i X v hII hi
    rw [emp]
    split
    · exact ih _ _ _ hII (by omega)
    · rename_i hp
      obtain ⟨b, hb, hk⟩ : ∃ b, b < 256 ∧ X (9, t, i) 1 = nI b := ((hII.1.2 t ht).2 _ (by omega)).resolve_left hp
      obtain ⟨d1, d2, -⟩ := g_lev hsh ht s2 hII (show i < sh.2.1 t by omega) hb hk
      obtain ⟨a', b'⟩ := ih (i + 1) (lev sh (wlo sh t) t i X) (v + 1) d1 (by omega)
      exact ⟨a', hix_trans (hix_cfr d2 (by simp)) b'⟩
theorem losA_hix : hix X (losA sh 0 sh.1 X) := fun k j q => losA_else (by omega) (by omega) _ _ _
/-- before the first access every line is empty, and the reference's rows below the ladder are as they were made -/
def prs (sh : am_Sh) (X M : am_M) : Prop := X (0, 0, 0) 7 = 0 → (∀ t, t < sh.1 → ∀ i, i < sh.2.1 t → X (9, t, i) 1 = -1) ∧ (∀ j, 64 * sh.1 ≤ j → j < 256 → M (21, 10, 0) j = -1) ∧ (∀ j, 6 * sh.1 ≤ j → j < 24 → M (21, 8, 0) j = 0) ∧ ∀ j, 16 * sh.1 ≤ j → j < 64 → M (21, 9, 0) j = 0
theorem prs_X (h : prs sh X M) (e : ∀ k j, k.1 < 11 → X' k j = X k j) : prs sh X' M := fun h0 => by
  obtain ⟨a, b⟩ := h ((e _ _ (by simp)).symm.trans h0)
  exact ⟨fun t ht i hi => (e _ _ (by simp)).trans (a t ht i hi), b⟩
theorem prs_M (h : prs sh X M) (e : ∀ k j, k.1 = 21 → M' k j = M k j) : prs sh X M' := fun h0 => by
  obtain ⟨a, b, c, d⟩ := h h0
  exact ⟨a, fun j p q => (e _ _ rfl).trans (b j p q), fun j p q => (e _ _ rfl).trans (c j p q), fun j p q => (e _ _ rfl).trans (d j p q)⟩
theorem prs_one (h : X (0, 0, 0) 7 = 1) : prs sh X M := fun h0 => absurd (h.symm.trans h0) (by decide)
/-- a round keeps the script, and what stands before the first access -/
def kp (sh : am_Sh) (W W2 : am_M) : Prop := (∀ j, W2 (31, 0, 0) j = W (31, 0, 0) j) ∧ (prs sh W W → prs sh W2 W2)
theorem cfr_7 (h : cfr t key X X') (hk : ¬ key.1 = 0) : X' (0, 0, 0) 7 = X (0, 0, 0) 7 := h.1 (0, 0, 0) 7 (Or.inl ⟨rfl, Or.inr rfl⟩) (fun e => hk (by rw [← e]))
theorem rdw_7 (hsh : shk sh) (hII : II sh X) {w : Nat} (hw : w < 1024) : rdw sh w X (0, 0, 0) 7 = 1 := by
  obtain ⟨-, d2, -⟩ := (g_lvh hsh).1 (am_up X (0, 0, 0) 7 1) (w / 4) (3, 0, 0) (II_up hII (by simp)) (by omega) (Or.inl rfl) (kup0 (by simp))
  exact (cfr_7 d2 (by simp)).trans (am_up_same _ _ _ _)
theorem wrw_7 (hsh : shk sh) (hII : II sh X) {w : Nat} (hw : w < 1024) {v : Int32} : wrw sh w v X (0, 0, 0) 7 = 1 := by
  have hs4 := shl4 ⟨w % 4, by omega⟩
  obtain ⟨-, d2⟩ := (g_lvh hsh).2 (am_up (am_up X (0, 0, 0) 7 1) (4, 0, 0) (w % 4) v) (w / 4) (2 ^ (w % 4)) (4, 0, 0) (II_up (II_up hII (by simp)) (by simp)) (by omega) hs4.2 (Or.inr (Or.inl rfl)) (kup0 (by simp))
  unfold wrw
  rw [hs4.1]
  exact ((cfr_7 d2 (by simp)).trans (am_up_k (by simp))).trans (am_up_same _ _ _ _)
theorem runL_7 (hsh : shk sh) {span : Nat} (h1 : 1 ≤ span) (h2 : span ≤ 1024) : ∀ (k : Nat) (x sum : Int32) (X : am_M), II sh X → 1 ≤ k ∨ X (0, 0, 0) 7 = 1 → (runL sh span k x sum X).1 (0, 0, 0) 7 = 1 := by
  intro k
  induction k with
  | zero => exact fun _ _ _ _ h => h.resolve_left (by omega)
  | succ k ih =>
    intro x sum X hII _
    obtain ⟨e, hlt⟩ := rword_eq h1 h2 (nxtx x)
    unfold runL
    split
    · exact ih _ _ _ (wrw_ok hsh hII hlt).1 (Or.inr (wrw_7 hsh hII hlt))
    · exact ih _ _ _ (rdw_ok hsh hII hlt).1 (Or.inr (rdw_7 hsh hII hlt))
theorem fls_7 (hsh : shk sh) (ht : t < sh.1) : ∀ (k i : Nat) (X : am_M) (v : Int32), II sh X → i + k = sh.2.1 t → (fls sh t i k X v).1 (0, 0, 0) 7 = X (0, 0, 0) 7 := by
  intro k
  obtain ⟨s1, s2⟩ := sw_t hsh ht
  induction k with
  | zero => exact fun _ _ _ _ _ => rfl
  | succ k ih =>
    intro i X v hII hi
    rw [fls]
    split
    · exact ih _ _ _ hII (by omega)
    · rename_i hp
      obtain ⟨b, hb, hk⟩ : ∃ b, b < 256 ∧ X (9, t, i) 1 = nI b := ((hII.1.2 t ht).2 _ (by omega)).resolve_left hp
      obtain ⟨d1, d2, -⟩ := g_wdir hsh ht s2 hII (show i < sh.2.1 t by omega) hb hk
      exact (ih (i + 1) (wdir (wlo sh t) t i X) _ d1 (by omega)).trans (cfr_7 d2 (by simp))
theorem emp_7 (hsh : shk sh) (ht : t < sh.1) : ∀ (k i : Nat) (X : am_M) (v : Int32), II sh X → i + k = sh.2.1 t → (emp sh t i k X v).1 (0, 0, 0) 7 = X (0, 0, 0) 7 := by
  intro k
  obtain ⟨s1, s2⟩ := sw_t hsh ht
  induction k with
  | zero => exact fun _ _ _ _ _ => rfl
  | succ k ih =>
    intro i X v hII hi
    rw [emp]
    split
    · exact ih _ _ _ hII (by omega)
    · rename_i hp
      obtain ⟨b, hb, hk⟩ : ∃ b, b < 256 ∧ X (9, t, i) 1 = nI b := ((hII.1.2 t ht).2 _ (by omega)).resolve_left hp
      obtain ⟨d1, d2, -⟩ := g_lev hsh ht s2 hII (show i < sh.2.1 t by omega) hb hk
      exact (ih (i + 1) (lev sh (wlo sh t) t i X) _ d1 (by omega)).trans (cfr_7 d2 (by simp))
theorem sg_121_1160 {C : Nat → am_M → List am_V → am_O → Prop} {P : am_S ⊕ am_O → Prop} {x4 : Int32} {l0 l1 l2 l3 l5 l6 : Option am_V} {n : Nat} (k : am_ev sh C 121 (23, [l0, l1, l2, l3, some (am_I (x4 + 6)), l5, l6], [], M, n) P) : am_ev sh C 121 (1160, [l0, l1, l2, l3, some (am_I x4), l5, l6], [], M, n) P := by
  refine am_e_iinc (v := x4 + 6) dd_121_1160 rfl rfl rfl rfl ?_
  refine am_e_goto (pc' := 23) dd_121_1163 rfl ?_
  exact k
end VH
