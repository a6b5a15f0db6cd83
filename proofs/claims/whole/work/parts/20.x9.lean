-- the cells of a new tier are the world's
section XI
variable {Ω : am_Ω} {sh : am_Sh} {Z Wy a5 a6 a7 a8 z : Nat} {ps : List (Nat × Nat)} {M M1 : am_M} {x3 x4 x5 : Int32}
theorem rf_none {a b i j : Nat} (h1 : ¬ a = 0) (h2 : ¬ a = 2) (h3 : ¬ a = 5) (h4 : ¬ a = 6) (h5 : ¬ a = 9) (h6 : ¬ a = 20) : am_rf sh (a, b, i) j = none := by
  unfold am_rf
  split
  all_goals first | rfl | (rename_i q; simp only [Prod.mk.injEq] at q; omega)
theorem rf0e {b i j : Nat} : am_rf sh (0, b, i) j = (match j with
      | 0 => some ((1, 0, 0) : am_K)
      | 1 => some (2, 0, 0)
      | 2 => some (3, 0, 0)
      | 3 => some (4, 0, 0)
      | _ => none) := rfl
theorem rf5e {b i j : Nat} : am_rf sh (5, b, i) j = (match j with
      | 5 => some ((6, b, 0) : am_K)
      | 6 => some (7, b, 0)
      | 7 => some (8, b, 0)
      | _ => none) := rfl
theorem rf9e {b i j : Nat} : am_rf sh (9, b, i) j = (match j with
      | 0 => some ((10, b, i) : am_K)
      | _ => none) := rfl
theorem rf_where {k k' : am_K} {j : Nat} (hk : ¬ k.1 = 2) (h : am_rf sh k j = some k') : k'.1 < 5 ∨ 10 < k'.1 ∨ (k'.2.1 = k.2.1 ∧ 5 ≤ k.1 ∧ k.1 ≤ 10) := by
  obtain ⟨a, b, i⟩ := k
  dsimp only at hk
  by_cases e0 : a = 0
  · subst e0
    rw [rf0e] at h
    left
    split at h <;> cases h <;> decide
  by_cases e5 : a = 5
  · subst e5
    rw [rf5e] at h
    right; right
    split at h <;> cases h <;> exact ⟨rfl, Nat.le_of_ble_eq_true rfl, Nat.le_of_ble_eq_true rfl⟩
  by_cases e6 : a = 6
  · subst e6
    have h' : (if j < sh.2.1 b then some ((9, b, j) : am_K) else none) = some k' := h
    right; right
    split at h'
    · cases h'; exact ⟨rfl, Nat.le_of_ble_eq_true rfl, Nat.le_of_ble_eq_true rfl⟩
    · cases h'
  by_cases e9 : a = 9
  · subst e9
    rw [rf9e] at h
    right; right
    split at h <;> cases h <;> exact ⟨rfl, Nat.le_of_ble_eq_true rfl, Nat.le_of_ble_eq_true rfl⟩
  by_cases e20 : a = 20
  · subst e20
    have h' : some ((21, j, 0) : am_K) = some k' := h
    cases h'
    exact Or.inr (Or.inl (by show 10 < 21; decide))
  rw [rf_none e0 hk e5 e6 e9 e20] at h
  cases h
theorem rf_grow {k : am_K} {j : Nat} (hk : ¬ k.1 = 2) (hl : k.1 = 6 → k.2.1 < sh.1) : am_rf (shg sh Z Wy) k j = am_rf sh k j := by
  obtain ⟨a, b, i⟩ := k
  dsimp only at hk hl
  by_cases e6 : a = 6
  · subst e6
    show (if j < (shg sh Z Wy).2.1 b then some ((9, b, j) : am_K) else none) = (if j < sh.2.1 b then some ((9, b, j) : am_K) else none)
    rw [shg_N (hl rfl)]
  by_cases e0 : a = 0
  · subst e0; rfl
  by_cases e5 : a = 5
  · subst e5; rfl
  by_cases e9 : a = 9
  · subst e9; rfl
  by_cases e20 : a = 20
  · subst e20; rfl
  rw [rf_none e0 hk e5 e6 e9 e20, rf_none e0 hk e5 e6 e9 e20]
theorem ogm {k : am_K} {j : Nat} {c : Nat ⊕ (Nat × Nat)} {ad : am_K → Nat} (hc : am_ct sh k = some c) (hk : ¬ k.1 = 2) : (am_rf (shg sh Z Wy) k j).map (og_ad ad sh.1 a5 a6 a7 a8 ps) = (am_rf sh k j).map ad := by
  rw [rf_grow hk (fun e => (ct_in hc (by omega) (by omega)).1)]
  cases hr : am_rf sh k j with
  | none => rfl
  | some k' =>
    have hn : ¬ (k'.2.1 = sh.1 ∧ 5 ≤ k'.1 ∧ k'.1 ≤ 10) := fun q => by
      rcases rf_where hk hr with h | h | h
      · omega
      · omega
      · have := (ct_in hc h.2.1 h.2.2).1
        omega
    show some (og_ad ad sh.1 a5 a6 a7 a8 ps k') = some (ad k')
    unfold og_ad
    rw [if_neg hn]
theorem tg_ct {k : am_K} {j : Nat} {c : Nat ⊕ (Nat × Nat)} {x1 x2 : Int32} (hc : am_ct sh k = some c) : tgM M sh.1 x1 x2 x3 x4 x5 k j = M k j := tg_old (by
  by_cases h : 5 ≤ k.1 ∧ k.1 ≤ 10
  · have := (ct_in hc h.1 h.2).1
    omega
  · omega)
theorem og_e {k : am_K} {c : Nat ⊕ (Nat × Nat)} (hc : am_ct (am_sh Ω) k = some c) (hk : ¬ k.1 = 2) : am_e (og Ω Z Wy a5 a6 a7 a8 ps) (tgM M (am_sh Ω).1 (nI Z) (nI Wy) x3 x4 x5) k = am_e Ω M k := by
  have hc' : am_ct (am_sh (og Ω Z Wy a5 a6 a7 a8 ps)) k = some c := ct_grow hc
  cases c with
  | inl ci =>
    rw [am_e_obj hc, am_e_obj hc']
    have e : am_fs (og Ω Z Wy a5 a6 a7 a8 ps) (tgM M (am_sh Ω).1 (nI Z) (nI Wy) x3 x4 x5) ci k = am_fs Ω M ci k := by
      unfold am_fs
      refine List.map_congr_left (fun j _ => ?_)
      unfold am_fv
      split
      · show va_rf ((am_rf (shg (am_sh Ω) Z Wy) k j).map (og_ad (am_ad Ω) (am_sh Ω).1 a5 a6 a7 a8 ps)) = va_rf ((am_rf (am_sh Ω) k j).map (am_ad Ω))
        rw [ogm hc hk]
      · show Value.int _ = Value.int _
        rw [tg_ct hc]
    rw [e]
  | inr tN =>
    obtain ⟨t, N⟩ := tN
    rw [am_e_arr hc, am_e_arr hc']
    have e1 : tgM M (am_sh Ω).1 (nI Z) (nI Wy) x3 x4 x5 k = M k := funext fun j => tg_ct hc
    have e2 : (fun j => (am_rf (shg (am_sh Ω) Z Wy) k j).map (og_ad (am_ad Ω) (am_sh Ω).1 a5 a6 a7 a8 ps)) = (fun j => (am_rf (am_sh Ω) k j).map (am_ad Ω)) := funext fun j => ogm hc hk
    have e : am_av (og Ω Z Wy a5 a6 a7 a8 ps) (tgM M (am_sh Ω).1 (nI Z) (nI Wy) x3 x4 x5) t k = am_av Ω M t k := by
      unfold am_av
      rw [e1]
      split
      · rfl
      · rfl
      · rfl
      · exact congrArg (fun f => Sum.inr (Sum.inr (Sum.inr (Sum.inr f)))) e2
    rw [e]
    rfl
theorem fm_congr {α β : Type} {f g : α → List β} : ∀ {l : List α}, (∀ a ∈ l, f a = g a) → l.flatMap f = l.flatMap g
  | [], _ => rfl
  | a :: l, h => by
    rw [List.flatMap_cons, List.flatMap_cons, h a List.mem_cons_self, fm_congr (fun b hb => h b (List.mem_cons_of_mem _ hb))]
theorem ps_range {α : Type} (d : α) (ps : List α) : ps = (List.range ps.length).map (fun i => ps.getD i d) := by
  apply List.ext_getElem?
  intro i
  by_cases hi : i < ps.length
  · rw [List.getElem?_map, List.getElem?_range hi]
    simp [List.getD, hi]
  · rw [List.getElem?_eq_none (by omega), List.getElem?_eq_none (by simp; omega)]
theorem og_n5 : am_e (og Ω Z Wy a5 a6 a7 a8 ps) (tgM M (am_sh Ω).1 (nI Z) (nI Wy) x3 x4 x5) (5, (am_sh Ω).1, 0) = .inr (1, [.int (nI Z), .int (nI Wy), .int x3, .int x4, .int x5, .ref a6, .ref a7, .ref a8, .int 0]) := by
  have hl : (am_sh Ω).1 < (am_sh (og Ω Z Wy a5 a6 a7 a8 ps)).1 := Nat.lt_succ_self _
  rw [am_e_obj (am_ct5 hl)]
  have n : ∀ j, tgM M (am_sh Ω).1 (nI Z) (nI Wy) x3 x4 x5 (5, (am_sh Ω).1, 0) j = (match j with
    | 0 => nI Z
    | 1 => nI Wy
    | 2 => x3
    | 3 => x4
    | 4 => x5
    | _ => 0) := fun j => (tg_new (k := (5, (am_sh Ω).1, 0)) (by simp) (by simp) rfl).trans rfl
  have r : ∀ k' : am_K, og_ad (am_ad Ω) (am_sh Ω).1 a5 a6 a7 a8 ps k' = (if k'.2.1 = (am_sh Ω).1 ∧ 5 ≤ k'.1 ∧ k'.1 ≤ 10 then (if k'.1 = 5 then a5 else if k'.1 = 6 then a6 else if k'.1 = 7 then a7 else if k'.1 = 8 then a8 else if k'.1 = 9 then (ps.getD k'.2.2 (0, 0)).1 else (ps.getD k'.2.2 (0, 0)).2) else am_ad Ω k') := fun _ => rfl
  have r6 : og_ad (am_ad Ω) (am_sh Ω).1 a5 a6 a7 a8 ps (6, (am_sh Ω).1, 0) = a6 := by rw [r]; simp
  have r7 : og_ad (am_ad Ω) (am_sh Ω).1 a5 a6 a7 a8 ps (7, (am_sh Ω).1, 0) = a7 := by rw [r]; simp
  have r8 : og_ad (am_ad Ω) (am_sh Ω).1 a5 a6 a7 a8 ps (8, (am_sh Ω).1, 0) = a8 := by rw [r]; simp
  have e : am_fs (og Ω Z Wy a5 a6 a7 a8 ps) (tgM M (am_sh Ω).1 (nI Z) (nI Wy) x3 x4 x5) 1 (5, (am_sh Ω).1, 0) = [.int (tgM M (am_sh Ω).1 (nI Z) (nI Wy) x3 x4 x5 (5, (am_sh Ω).1, 0) 0), .int (tgM M (am_sh Ω).1 (nI Z) (nI Wy) x3 x4 x5 (5, (am_sh Ω).1, 0) 1), .int (tgM M (am_sh Ω).1 (nI Z) (nI Wy) x3 x4 x5 (5, (am_sh Ω).1, 0) 2), .int (tgM M (am_sh Ω).1 (nI Z) (nI Wy) x3 x4 x5 (5, (am_sh Ω).1, 0) 3), .int (tgM M (am_sh Ω).1 (nI Z) (nI Wy) x3 x4 x5 (5, (am_sh Ω).1, 0) 4), .ref (og_ad (am_ad Ω) (am_sh Ω).1 a5 a6 a7 a8 ps (6, (am_sh Ω).1, 0)), .ref (og_ad (am_ad Ω) (am_sh Ω).1 a5 a6 a7 a8 ps (7, (am_sh Ω).1, 0)), .ref (og_ad (am_ad Ω) (am_sh Ω).1 a5 a6 a7 a8 ps (8, (am_sh Ω).1, 0)), .int (tgM M (am_sh Ω).1 (nI Z) (nI Wy) x3 x4 x5 (5, (am_sh Ω).1, 0) 8)] := rfl
  rw [e, n, n, n, n, n, n, r6, r7, r8]
  rfl
theorem og_n9 {i : Nat} (hi : i < Z * Wy) : am_e (og Ω Z Wy a5 a6 a7 a8 ps) (tgM M (am_sh Ω).1 (nI Z) (nI Wy) x3 x4 x5) (9, (am_sh Ω).1, i) = .inr (0, [.ref (ps.getD i (0, 0)).2, .int (-1), .int 0, .int 0, .int 0, .int 0, .int 0]) := by
  have hl : (am_sh Ω).1 < (am_sh (og Ω Z Wy a5 a6 a7 a8 ps)).1 := Nat.lt_succ_self _
  have hi' : i < (am_sh (og Ω Z Wy a5 a6 a7 a8 ps)).2.1 (am_sh Ω).1 := by
    show i < (shg (am_sh Ω) Z Wy).2.1 (am_sh Ω).1
    rw [shg_N0]; exact hi
  rw [am_e_obj (am_ct9 hl hi')]
  have n : ∀ j, ¬ j = 1 → tgM M (am_sh Ω).1 (nI Z) (nI Wy) x3 x4 x5 (9, (am_sh Ω).1, i) j = 0 := fun j hj => tg_z (k := (9, (am_sh Ω).1, i)) (Nat.le_of_ble_eq_true rfl) (Nat.le_of_ble_eq_true rfl) rfl (fun q => hj q.2)
  have r : og_ad (am_ad Ω) (am_sh Ω).1 a5 a6 a7 a8 ps (10, (am_sh Ω).1, i) = (ps.getD i (0, 0)).2 := by unfold og_ad; simp
  have e : am_fs (og Ω Z Wy a5 a6 a7 a8 ps) (tgM M (am_sh Ω).1 (nI Z) (nI Wy) x3 x4 x5) 0 (9, (am_sh Ω).1, i) = [.ref (og_ad (am_ad Ω) (am_sh Ω).1 a5 a6 a7 a8 ps (10, (am_sh Ω).1, i)), .int (tgM M (am_sh Ω).1 (nI Z) (nI Wy) x3 x4 x5 (9, (am_sh Ω).1, i) 1), .int (tgM M (am_sh Ω).1 (nI Z) (nI Wy) x3 x4 x5 (9, (am_sh Ω).1, i) 2), .int (tgM M (am_sh Ω).1 (nI Z) (nI Wy) x3 x4 x5 (9, (am_sh Ω).1, i) 3), .int (tgM M (am_sh Ω).1 (nI Z) (nI Wy) x3 x4 x5 (9, (am_sh Ω).1, i) 4), .int (tgM M (am_sh Ω).1 (nI Z) (nI Wy) x3 x4 x5 (9, (am_sh Ω).1, i) 5), .int (tgM M (am_sh Ω).1 (nI Z) (nI Wy) x3 x4 x5 (9, (am_sh Ω).1, i) 6)] := rfl
  rw [e, r, tg_blk, n 2 (by decide), n 3 (by decide), n 4 (by decide), n 5 (by decide), n 6 (by decide)]
theorem og_w (hin : am_in Ω) {q0 : Nat} (hq0 : (am_dom Ω)[q0]? = some (2, 0, 0)) (hlen : ps.length = Z * Wy) : ((am_w Ω M) ++ (tiw (am_ca Ω 0) (am_ca Ω 4) a5 a8 a6 (Z * Wy) (nI Z) (nI Wy) x3 x4 x5 (.ref a7) ps ++ ([(a7, .inl (am_ca Ω 0, Z, .inl (fun _ => 0)))] : va_W))).set q0 (am_ad Ω (2, 0, 0), .inl (am_ca Ω 2, 4, .inr (.inr (.inr (.inr (va_up (fun j => (am_rf (am_sh Ω) (2, 0, 0) j).map (am_ad Ω)) (am_sh Ω).1 (some a5))))))) = am_w (og Ω Z Wy a5 a6 a7 a8 ps) (tgM M (am_sh Ω).1 (nI Z) (nI Wy) x3 x4 x5) := by
  have hl : (am_sh Ω).1 < (am_sh (og Ω Z Wy a5 a6 a7 a8 ps)).1 := Nat.lt_succ_self _
  have hlt : q0 < (am_dom Ω).length := (List.getElem?_eq_some_iff.mp hq0).1
  have hr : ∀ k' : am_K, og_ad (am_ad Ω) (am_sh Ω).1 a5 a6 a7 a8 ps k' = (if k'.2.1 = (am_sh Ω).1 ∧ 5 ≤ k'.1 ∧ k'.1 ≤ 10 then (if k'.1 = 5 then a5 else if k'.1 = 6 then a6 else if k'.1 = 7 then a7 else if k'.1 = 8 then a8 else if k'.1 = 9 then (ps.getD k'.2.2 (0, 0)).1 else (ps.getD k'.2.2 (0, 0)).2) else am_ad Ω k') := fun _ => rfl
  have z0 : ∀ (k : am_K), 6 ≤ k.1 → k.1 ≤ 10 → ¬ k.1 = 9 → k.2.1 = (am_sh Ω).1 → tgM M (am_sh Ω).1 (nI Z) (nI Wy) x3 x4 x5 k = fun _ => 0 := fun k h1 h2 h3 h4 => funext fun j => tg_z h1 h2 h4 (fun q => h3 q.1)
  rw [List.set_append_left _ _ (by simpa [am_w] using hlt)]
  have eA : (am_w Ω M).set q0 (am_ad Ω (2, 0, 0), .inl (am_ca Ω 2, 4, .inr (.inr (.inr (.inr (va_up (fun j => (am_rf (am_sh Ω) (2, 0, 0) j).map (am_ad Ω)) (am_sh Ω).1 (some a5))))))) = (am_dom Ω).map (fun k => (am_ad (og Ω Z Wy a5 a6 a7 a8 ps) k, am_e (og Ω Z Wy a5 a6 a7 a8 ps) (tgM M (am_sh Ω).1 (nI Z) (nI Wy) x3 x4 x5) k)) := by
    apply List.ext_getElem?
    intro i
    by_cases hi : i = q0
    · subst hi
      rw [List.getElem?_set_self (by simpa [am_w] using hlt), List.getElem?_map, hq0]
      have c2 : am_ct (am_sh Ω) (2, 0, 0) = some (Sum.inr (2, 4)) := rfl
      have c2' : am_ct (am_sh (og Ω Z Wy a5 a6 a7 a8 ps)) (2, 0, 0) = some (Sum.inr (2, 4)) := rfl
      show some _ = some (og_ad (am_ad Ω) (am_sh Ω).1 a5 a6 a7 a8 ps (2, 0, 0), am_e (og Ω Z Wy a5 a6 a7 a8 ps) _ (2, 0, 0))
      rw [og_ad_old (sh := am_sh Ω) rfl c2, am_e_arr c2']
      have e3 : va_up (fun j => (am_rf (am_sh Ω) (2, 0, 0) j).map (am_ad Ω)) (am_sh Ω).1 (some a5) = (fun j => (am_rf (shg (am_sh Ω) Z Wy) (2, 0, 0) j).map (og_ad (am_ad Ω) (am_sh Ω).1 a5 a6 a7 a8 ps)) := by
        funext j
        have f1 : am_rf (am_sh Ω) (2, 0, 0) j = if j < (am_sh Ω).1 then some (5, j, 0) else none := rfl
        have f2 : am_rf (shg (am_sh Ω) Z Wy) (2, 0, 0) j = if j < (am_sh Ω).1 + 1 then some (5, j, 0) else none := rfl
        show (if j = (am_sh Ω).1 then some a5 else (am_rf (am_sh Ω) (2, 0, 0) j).map (am_ad Ω)) = (am_rf (shg (am_sh Ω) Z Wy) (2, 0, 0) j).map (og_ad (am_ad Ω) (am_sh Ω).1 a5 a6 a7 a8 ps)
        rw [f1, f2]
        by_cases e : j = (am_sh Ω).1
        · subst e
          rw [if_pos rfl, if_pos (Nat.lt_succ_self _)]
          show some a5 = some (og_ad (am_ad Ω) (am_sh Ω).1 a5 a6 a7 a8 ps (5, (am_sh Ω).1, 0))
          rw [hr]; simp
        · rw [if_neg e]
          by_cases hj : j < (am_sh Ω).1
          · rw [if_pos hj, if_pos (by omega)]
            show some (am_ad Ω (5, j, 0)) = some (og_ad (am_ad Ω) (am_sh Ω).1 a5 a6 a7 a8 ps (5, j, 0))
            rw [hr, if_neg (fun q => e q.1)]
          · rw [if_neg hj, if_neg (by omega)]
            rfl
      rw [e3]
      rfl
    · rw [List.getElem?_set_ne (Ne.symm hi)]
      simp only [am_w, List.getElem?_map]
      cases hk : (am_dom Ω)[i]? with
      | none => rfl
      | some k' =>
        obtain ⟨c, hc, -⟩ := hin.2.1 k' (List.mem_of_getElem? hk)
        have hne : ¬ k'.1 = 2 := fun e => by
          obtain ⟨a, b, i'⟩ := k'
          dsimp only at e
          subst e
          have q : b = 0 ∧ i' = 0 := if_in (show (if b = 0 ∧ i' = 0 then some (Sum.inr (2, 4)) else none) = some c from hc)
          obtain ⟨rfl, rfl⟩ := q
          exact hi ((List.getElem?_inj (List.getElem?_eq_some_iff.mp hk).1 hin.2.2.1).mp (hk.trans hq0.symm))
        show some (am_ad Ω k', am_e Ω M k') = some (og_ad (am_ad Ω) (am_sh Ω).1 a5 a6 a7 a8 ps k', am_e (og Ω Z Wy a5 a6 a7 a8 ps) _ k')
        rw [og_ad_old (sh := am_sh Ω) rfl hc, og_e hc hne]
  have eB : tiw (am_ca Ω 0) (am_ca Ω 4) a5 a8 a6 (Z * Wy) (nI Z) (nI Wy) x3 x4 x5 (.ref a7) ps ++ ([(a7, .inl (am_ca Ω 0, Z, .inl (fun _ => 0)))] : va_W) = (og_new (am_sh Ω).1 (Z * Wy)).map (fun k => (am_ad (og Ω Z Wy a5 a6 a7 a8 ps) k, am_e (og Ω Z Wy a5 a6 a7 a8 ps) (tgM M (am_sh Ω).1 (nI Z) (nI Wy) x3 x4 x5) k)) := by
    have h5 : (am_ad (og Ω Z Wy a5 a6 a7 a8 ps) (5, (am_sh Ω).1, 0), am_e (og Ω Z Wy a5 a6 a7 a8 ps) (tgM M (am_sh Ω).1 (nI Z) (nI Wy) x3 x4 x5) (5, (am_sh Ω).1, 0)) = (a5, .inr (1, [.int (nI Z), .int (nI Wy), .int x3, .int x4, .int x5, .ref a6, .ref a7, .ref a8, .int 0])) := by
      rw [og_n5]
      show (og_ad (am_ad Ω) (am_sh Ω).1 a5 a6 a7 a8 ps (5, (am_sh Ω).1, 0), _) = _
      rw [hr]; simp
    have h8 : (am_ad (og Ω Z Wy a5 a6 a7 a8 ps) (8, (am_sh Ω).1, 0), am_e (og Ω Z Wy a5 a6 a7 a8 ps) (tgM M (am_sh Ω).1 (nI Z) (nI Wy) x3 x4 x5) (8, (am_sh Ω).1, 0)) = (a8, .inl (am_ca Ω 0, 6, .inl (fun _ => 0))) := by
      rw [am_e_arr (am_ct8 hl)]
      show (og_ad (am_ad Ω) (am_sh Ω).1 a5 a6 a7 a8 ps (8, (am_sh Ω).1, 0), Sum.inl (am_ca Ω 0, 6, Sum.inl (tgM M (am_sh Ω).1 (nI Z) (nI Wy) x3 x4 x5 (8, (am_sh Ω).1, 0)))) = _
      rw [hr, z0 _ (by simp) (by simp) (by simp) rfl]; simp
    have h6 : (am_ad (og Ω Z Wy a5 a6 a7 a8 ps) (6, (am_sh Ω).1, 0), am_e (og Ω Z Wy a5 a6 a7 a8 ps) (tgM M (am_sh Ω).1 (nI Z) (nI Wy) x3 x4 x5) (6, (am_sh Ω).1, 0)) = (a6, .inl (am_ca Ω 4, Z * Wy, .inr (.inr (.inr (.inr (lnf ps)))))) := by
      rw [am_e_arr (am_ct6 hl)]
      have eN : (am_sh (og Ω Z Wy a5 a6 a7 a8 ps)).2.1 (am_sh Ω).1 = Z * Wy := shg_N0
      have e4 : (fun j => (am_rf (shg (am_sh Ω) Z Wy) (6, (am_sh Ω).1, 0) j).map (og_ad (am_ad Ω) (am_sh Ω).1 a5 a6 a7 a8 ps)) = lnf ps := by
        funext j
        have f2 : am_rf (shg (am_sh Ω) Z Wy) (6, (am_sh Ω).1, 0) j = if j < (shg (am_sh Ω) Z Wy).2.1 (am_sh Ω).1 then some (9, (am_sh Ω).1, j) else none := rfl
        rw [f2, shg_N0]
        unfold lnf
        by_cases hj : j < Z * Wy
        · rw [if_pos hj]
          show some (og_ad (am_ad Ω) (am_sh Ω).1 a5 a6 a7 a8 ps (9, (am_sh Ω).1, j)) = _
          rw [hr]
          have hj' : j < ps.length := by omega
          simp [List.getD, hj']
        · rw [if_neg hj, List.getElem?_eq_none (by omega)]
          rfl
      rw [eN]
      show (og_ad (am_ad Ω) (am_sh Ω).1 a5 a6 a7 a8 ps (6, (am_sh Ω).1, 0), Sum.inl (am_ca Ω 4, Z * Wy, Sum.inr (Sum.inr (Sum.inr (Sum.inr (fun j => (am_rf (shg (am_sh Ω) Z Wy) (6, (am_sh Ω).1, 0) j).map (og_ad (am_ad Ω) (am_sh Ω).1 a5 a6 a7 a8 ps))))))) = _
      rw [e4, hr]; simp
    have h7 : (am_ad (og Ω Z Wy a5 a6 a7 a8 ps) (7, (am_sh Ω).1, 0), am_e (og Ω Z Wy a5 a6 a7 a8 ps) (tgM M (am_sh Ω).1 (nI Z) (nI Wy) x3 x4 x5) (7, (am_sh Ω).1, 0)) = (a7, .inl (am_ca Ω 0, Z, .inl (fun _ => 0))) := by
      rw [am_e_arr (am_ct7 hl)]
      have eZ : (am_sh (og Ω Z Wy a5 a6 a7 a8 ps)).2.2.1 (am_sh Ω).1 = Z := if_pos rfl
      rw [eZ]
      show (og_ad (am_ad Ω) (am_sh Ω).1 a5 a6 a7 a8 ps (7, (am_sh Ω).1, 0), Sum.inl (am_ca Ω 0, Z, Sum.inl (tgM M (am_sh Ω).1 (nI Z) (nI Wy) x3 x4 x5 (7, (am_sh Ω).1, 0)))) = _
      rw [hr, z0 _ (by simp) (by simp) (by simp) rfl]; simp
    have hL : lnw (am_ca Ω 0) ps = ((List.range (Z * Wy)).flatMap (fun i => [((9, (am_sh Ω).1, i) : am_K), (10, (am_sh Ω).1, i)])).map (fun k => (am_ad (og Ω Z Wy a5 a6 a7 a8 ps) k, am_e (og Ω Z Wy a5 a6 a7 a8 ps) (tgM M (am_sh Ω).1 (nI Z) (nI Wy) x3 x4 x5) k)) := by
      rw [List.map_flatMap]
      unfold lnw
      conv => lhs; rw [ps_range (0, 0) ps]
      rw [List.flatMap_map, hlen]
      refine fm_congr (fun i hi => ?_)
      have hi' := List.mem_range.mp hi
      have hi9 : i < (am_sh (og Ω Z Wy a5 a6 a7 a8 ps)).2.1 (am_sh Ω).1 := by
        show i < (shg (am_sh Ω) Z Wy).2.1 (am_sh Ω).1
        rw [shg_N0]; exact hi'
      show _ = [(og_ad (am_ad Ω) (am_sh Ω).1 a5 a6 a7 a8 ps (9, (am_sh Ω).1, i), am_e (og Ω Z Wy a5 a6 a7 a8 ps) (tgM M (am_sh Ω).1 (nI Z) (nI Wy) x3 x4 x5) (9, (am_sh Ω).1, i)), (og_ad (am_ad Ω) (am_sh Ω).1 a5 a6 a7 a8 ps (10, (am_sh Ω).1, i), am_e (og Ω Z Wy a5 a6 a7 a8 ps) (tgM M (am_sh Ω).1 (nI Z) (nI Wy) x3 x4 x5) (10, (am_sh Ω).1, i))]
      rw [og_n9 hi', am_e_arr (am_ct10 hl hi9), show am_av (og Ω Z Wy a5 a6 a7 a8 ps) (tgM M (am_sh Ω).1 (nI Z) (nI Wy) x3 x4 x5) 0 (10, (am_sh Ω).1, i) = Sum.inl (fun _ => 0) from congrArg Sum.inl (z0 _ (by simp) (by simp) (by simp) rfl), hr, hr]
      simp
      rfl
    unfold og_new tiw
    rw [List.map_cons, List.map_cons, List.map_cons, List.map_append, h5, h8, h6, ← hL]
    show _ = _ :: _ :: _ :: (lnw (am_ca Ω 0) ps ++ [(am_ad (og Ω Z Wy a5 a6 a7 a8 ps) (7, (am_sh Ω).1, 0), am_e (og Ω Z Wy a5 a6 a7 a8 ps) (tgM M (am_sh Ω).1 (nI Z) (nI Wy) x3 x4 x5) (7, (am_sh Ω).1, 0))])
    rw [h7]
    rfl
  rw [eA, eB, ← List.map_append]
  rfl
end XI
