-- the worlds: which cells the keys stand for
abbrev am_Ω : Type := am_Sh × List am_K × (am_K → Nat) × va_G × (Nat → ClassId)
abbrev am_sh (Ω : am_Ω) : am_Sh := Ω.1
abbrev am_dom (Ω : am_Ω) : List am_K := Ω.2.1
abbrev am_ad (Ω : am_Ω) : am_K → Nat := Ω.2.2.1
abbrev am_D (Ω : am_Ω) : va_G := Ω.2.2.2.1
abbrev am_ca (Ω : am_Ω) : Nat → ClassId := Ω.2.2.2.2
def am_c (ad : am_K → Nat) (v : am_V) : Value := match v with
  | .inl x => .int x
  | .inr (.inl x) => .long x.toInt64
  | .inr (.inr (.inl o)) => va_rf (o.map ad)
  | .inr (.inr (.inr a)) => .ref a
abbrev am_tys (Ω : am_Ω) : List (ClassId × FieldType) := [(am_ca Ω 0, .int), (am_ca Ω 1, .boolean), (am_ca Ω 2, .object am_nT), (am_ca Ω 3, .long), (am_ca Ω 4, .object am_nL)]
def am_av (Ω : am_Ω) (M : am_M) (t : Nat) (k : am_K) : (Nat → Int32) ⊕ (Nat → Int64) ⊕ (Nat → UInt32) ⊕ (Nat → UInt64) ⊕ (Nat → Option Nat) := match t with
  | 0 => .inl (M k)
  | 1 => .inl (M k)
  | 3 => .inr (.inl (fun j => (M k j).toInt64))
  | _ => .inr (.inr (.inr (.inr (fun j => (am_rf (am_sh Ω) k j).map (am_ad Ω)))))
def am_fs (Ω : am_Ω) (M : am_M) (ci : Nat) (k : am_K) : List Value := (List.range (am_nf ci)).map (fun j => am_c (am_ad Ω) (am_fv (am_sh Ω) M ci j k))
def am_e (Ω : am_Ω) (M : am_M) (k : am_K) : va_E := match am_ct (am_sh Ω) k with
  | some (.inl ci) => .inr (ci, am_fs Ω M ci k)
  | some (.inr (t, N)) => .inl (am_ca Ω t, N, am_av Ω M t k)
  | none => .inr (0, [])
def am_w (Ω : am_Ω) (M : am_M) : va_W := (am_dom Ω).map (fun k => (am_ad Ω k, am_e Ω M k))
/-- dom lists the keys that there are, but the script's; addresses are apart -/
def am_in (Ω : am_Ω) : Prop := (∀ k c, am_ct (am_sh Ω) k = some c → (∀ N, c ≠ Sum.inr (5, N)) → k ∈ am_dom Ω) ∧ (∀ k ∈ am_dom Ω, ∃ c, am_ct (am_sh Ω) k = some c ∧ ∀ N, c ≠ Sum.inr (5, N)) ∧ (am_dom Ω).Nodup ∧ (∀ k1 k2 c1 c2, am_ct (am_sh Ω) k1 = some c1 → am_ct (am_sh Ω) k2 = some c2 → am_ad Ω k1 = am_ad Ω k2 → k1 = k2)
def am_A (Ω : am_Ω) (z : Nat) : Nat → Prop := fun q => (∃ k ∈ am_dom Ω, am_ad Ω k = q) ∨ z ≤ q
def am_sc (Ω : am_Ω) (M : am_M) (s : State) : Prop := ∀ k N, am_ct (am_sh Ω) k = some (Sum.inr (5, N)) → va_X (am_ad Ω k) N (M k) s s.heap ∧ am_ad Ω k < s.heap.size ∧ ¬ am_A Ω s.heap.size (am_ad Ω k)
theorem am_w_get {Ω : am_Ω} (M : am_M) {k : am_K} (h : k ∈ am_dom Ω) : ∃ q0 : Nat, (am_dom Ω)[q0]? = some k ∧ (am_w Ω M)[q0]? = some (am_ad Ω k, am_e Ω M k) := by
  obtain ⟨q0, hq⟩ := List.getElem?_of_mem h
  exact ⟨q0, hq, by simp [am_w, hq]⟩
theorem am_w_set {Ω : am_Ω} {M M' : am_M} {k : am_K} {q0 : Nat} {e' : va_E} (hin : am_in Ω) (hq : (am_dom Ω)[q0]? = some k) (he : am_e Ω M' k = e') (hne : ∀ k', k' ≠ k → am_e Ω M' k' = am_e Ω M k') : (am_w Ω M).set q0 (am_ad Ω k, e') = am_w Ω M' := by
  have hlt : q0 < (am_dom Ω).length := (List.getElem?_eq_some_iff.mp hq).1
  apply List.ext_getElem?
  intro i
  by_cases hi : i = q0
  · subst hi
    rw [List.getElem?_set_self (by simpa [am_w] using hlt)]
    simp [am_w, hq, he]
  · rw [List.getElem?_set_ne (Ne.symm hi)]
    simp only [am_w, List.getElem?_map]
    cases hk : (am_dom Ω)[i]? with
    | none => rfl
    | some k' =>
      have hne' : k' ≠ k := fun h => by
        subst h
        exact hi ((List.getElem?_inj (List.getElem?_eq_some_iff.mp hk).1 hin.2.2.1).mp (hk.trans hq.symm))
      simp [hne k' hne']
theorem am_w_D {Ω : am_Ω} (M : am_M) (z : Nat) (hin : am_in Ω) : va_D (am_A Ω z) (am_w Ω M) := by
  have key : ∀ (i : Nat) (q : Nat × va_E), (am_w Ω M)[i]? = some q → ∃ k, (am_dom Ω)[i]? = some k ∧ q.1 = am_ad Ω k := by
    intro i q h
    simp only [am_w, List.getElem?_map] at h
    cases hk : (am_dom Ω)[i]? with
    | none => rw [hk] at h; cases h
    | some k => rw [hk] at h; cases h; exact ⟨k, rfl, rfl⟩
  refine ⟨fun i j p q hi hj hpq => ?_, fun i q h => ?_⟩
  · obtain ⟨k1, h1, e1⟩ := key i p hi
    obtain ⟨k2, h2, e2⟩ := key j q hj
    obtain ⟨c1, g1, -⟩ := hin.2.1 k1 (List.mem_of_getElem? h1)
    obtain ⟨c2, g2, -⟩ := hin.2.1 k2 (List.mem_of_getElem? h2)
    have hk : k1 = k2 := hin.2.2.2 k1 k2 c1 c2 g1 g2 (by rw [← e1, ← e2]; exact hpq)
    subst hk
    exact (List.getElem?_inj (List.getElem?_eq_some_iff.mp h1).1 hin.2.2.1).mp (h1.trans h2.symm)
  · obtain ⟨k, h1, e1⟩ := key i q h
    exact Or.inl ⟨k, List.mem_of_getElem? h1, e1.symm⟩
theorem am_up_self (M : am_M) (k : am_K) (j : Nat) (v : Int32) : am_up M k j v k = upd (M k) j v := by
  funext i
  simp [am_up, upd]
theorem am_up_ne (M : am_M) {k k' : am_K} (j : Nat) (v : Int32) (h : k' ≠ k) : am_up M k j v k' = M k' := by
  funext i
  simp [am_up, h]
theorem am_cp_self (M : am_M) (k0 k1 : am_K) (sp dp n : Nat) : am_cp M k0 k1 sp dp n k1 = va_cpy (M k0) (M k1) sp dp n := by
  funext i
  simp [am_cp]
theorem am_cp_ne (M : am_M) {k0 k1 k' : am_K} (sp dp n : Nat) (h : k' ≠ k1) : am_cp M k0 k1 sp dp n k' = M k' := by
  funext i
  simp [am_cp, h]
theorem am_e_ne {Ω : am_Ω} {M M' : am_M} {k' : am_K} (h : M' k' = M k') : am_e Ω M' k' = am_e Ω M k' := by
  unfold am_e
  cases hc : am_ct (am_sh Ω) k' with
  | none => rfl
  | some c =>
    cases c with
    | inl ci => simp only [am_fs, am_fv, h]
    | inr tN => simp only [am_av, h]
theorem am_e_obj {Ω : am_Ω} {M : am_M} {k : am_K} {ci : Nat} (hc : am_ct (am_sh Ω) k = some (Sum.inl ci)) : am_e Ω M k = .inr (ci, am_fs Ω M ci k) := by
  simp only [am_e, hc]
theorem am_e_arr {Ω : am_Ω} {M : am_M} {k : am_K} {t N : Nat} (hc : am_ct (am_sh Ω) k = some (Sum.inr (t, N))) : am_e Ω M k = .inl (am_ca Ω t, N, am_av Ω M t k) := by
  simp only [am_e, hc]
theorem am_fs_get {Ω : am_Ω} {M : am_M} {ci j : Nat} {k : am_K} (h : j < am_nf ci) : (am_fs Ω M ci k)[j]? = some (am_c (am_ad Ω) (am_fv (am_sh Ω) M ci j k)) := by
  simp [am_fs, List.getElem?_range h]
theorem am_fs_set {Ω : am_Ω} {M : am_M} {ci j : Nat} {k : am_K} {v : Int32} (h : j < am_nf ci) (hf : am_fk ci j ≠ 2) : am_fs Ω (am_up M k j v) ci k = (am_fs Ω M ci k).set j (.int v) := by
  apply List.ext_getElem?
  intro i
  by_cases hi : i = j
  · subst hi
    rw [List.getElem?_set_self (by simpa [am_fs] using h), am_fs_get h]
    simp [am_fv, hf, am_up, am_c]
  · rw [List.getElem?_set_ne (Ne.symm hi)]
    by_cases hl : i < am_nf ci
    · rw [am_fs_get hl, am_fs_get hl]
      simp [am_fv, am_up, hi]
    · rw [List.getElem?_eq_none (by simp [am_fs]; omega), List.getElem?_eq_none (by simp [am_fs]; omega)]
theorem am_c_cat {ad : am_K → Nat} {v : am_V} (h : am_isL v = false) : (am_c ad v).category = 1 := by
  match v, h with
  | .inl x, _ => rfl
  | .inr (.inr (.inl none)), _ => rfl
  | .inr (.inr (.inl (some k))), _ => rfl
  | .inr (.inr (.inr a)), _ => rfl
-- locals
def am_lv (Ω : am_Ω) (nL : Nat) (ls : Array Slot) (L : am_Ls) : Prop := ls.size = nL ∧ L.length = nL ∧ lv_wf ls ∧ (∀ (i : Nat) (v : am_V), L[i]? = some (some v) → am_isL v = false) ∧ ∀ (i : Nat) (v : am_V), L[i]? = some (some v) → ls[i]? = some (.val (am_c (am_ad Ω) v))
def am_as (Ω : am_Ω) (L : am_Ls) : List (Nat × Value) := (List.range L.length).filterMap (fun i => match L[i]? with
  | some (some v) => some (i, am_c (am_ad Ω) v)
  | _ => none)
theorem am_as_mem {Ω : am_Ω} {L : am_Ls} {i : Nat} {x : Value} : (i, x) ∈ am_as Ω L ↔ ∃ v, L[i]? = some (some v) ∧ x = am_c (am_ad Ω) v := by
  simp only [am_as, List.mem_filterMap, List.mem_range]
  constructor
  · rintro ⟨j, hj, h⟩
    split at h
    · rename_i v hv
      simp only [Option.some.injEq, Prod.mk.injEq] at h
      obtain ⟨rfl, rfl⟩ := h
      exact ⟨v, hv, rfl⟩
    · cases h
  · rintro ⟨v, hv, rfl⟩
    exact ⟨i, (List.getElem?_eq_some_iff.mp hv).1, by simp [hv]⟩
theorem am_lv_has {Ω : am_Ω} {nL : Nat} {ls : Array Slot} {L : am_Ls} (h : am_lv Ω nL ls L) : lv_has ls nL (am_as Ω L) := by
  refine ⟨h.1, h.2.2.1, fun q hq => ?_⟩
  obtain ⟨i, x⟩ := q
  obtain ⟨v, hv, rfl⟩ := am_as_mem.mp hq
  exact h.2.2.2.2 i v hv
theorem am_lv_set {Ω : am_Ω} {nL : Nat} {ls ls' : Array Slot} {L : am_Ls} {i : Nat} {v : am_V} (h : am_lv Ω nL ls L) (hi : i < L.length) (hv : am_isL v = false) (h' : lv_has ls' nL ((i, am_c (am_ad Ω) v) :: (am_as Ω L).filter (fun q => !(q.1 == i) && !(q.1 + 1 == i && q.2.category == 2)))) : am_lv Ω nL ls' (L.set i (some v)) := by
  have key : ∀ (j : Nat) (w : am_V), (L.set i (some v))[j]? = some (some w) → (j = i ∧ w = v) ∨ (j ≠ i ∧ L[j]? = some (some w)) := by
    intro j w hw
    by_cases hj : j = i
    · subst hj
      rw [List.getElem?_set_self hi] at hw
      exact Or.inl ⟨rfl, by simpa using hw.symm⟩
    · rw [List.getElem?_set_ne (Ne.symm hj)] at hw
      exact Or.inr ⟨hj, hw⟩
  refine ⟨h'.1, by rw [List.length_set]; exact h.2.1, h'.2.1, fun j w hw => ?_, fun j w hw => ?_⟩
  · rcases key j w hw with ⟨-, rfl⟩ | ⟨-, hw⟩
    · exact hv
    · exact h.2.2.2.1 j w hw
  · rcases key j w hw with ⟨rfl, rfl⟩ | ⟨hj, hw⟩
    · exact h'.2.2 (j, _) List.mem_cons_self
    · refine h'.2.2 (j, _) (List.mem_cons_of_mem _ (List.mem_filter.mpr ⟨am_as_mem.mpr ⟨w, hw, rfl⟩, ?_⟩))
      have hc := am_c_cat (ad := am_ad Ω) (h.2.2.2.1 j w hw)
      have hc2 : ((am_c (am_ad Ω) w).category == 2) = false := by rw [hc]; rfl
      have hj2 : (j == i) = false := by simpa using hj
      show (!(j == i) && !(j + 1 == i && (am_c (am_ad Ω) w).category == 2)) = true
      rw [hc2, hj2]
      simp
