section RUNB
variable {Ω : am_Ω} {d m : Nat} {p : Program} {l : Launch} {e : Env} {R : Room} {s : State} {mid : MethodId} {args : Array Value} {below : List Frame} {meth : Method} {c : Code} {Q : State → Prop} {pc len n : Nat} {L : am_Ls} {S : List am_V} {M : am_M} {σ : am_S}
set_option maxHeartbeats 1000000 in
theorem am_behind {T T' : State} {locs' : List Loc} (hC : am_Cx Ω (d + 1) m p e R s mid args meth c) {cal : Nat} {o : am_O} {ls : Array Slot} {rest : List am_V} {G : State → Prop} (hl : am_lv Ω (am_mL m) ls L) (hbud : n + am_bud cal ≤ am_bud m) (X' : Stand p l e R s mid args below meth c T' locs' (n + am_bud cal) (6 * (n + am_bud cal))) (hP' : va_P (am_D Ω) am_cl (am_w Ω o.1) T'.heap) (hS' : va_S (am_A Ω s.heap.size) s.heap T'.heap locs') (hsc : am_sc Ω o.1 s) {A0 : State}
    (hG : match o.2 with
      | .inl v => ∀ (target : State), Steps p.tables e below (T'.setTop (F0 mid (pc + 3) ls ((v.map (am_c (am_ad Ω))).toList ++ rest.map (am_c (am_ad Ω))))) target → Steps p.tables e below A0 target
      | .inr x => ∃ (a : Addr) (ce : Cell), s.heap.size ≤ a ∧ T'.heap[a]? = some ce ∧ ce.vm.isStatics = false ∧ s.vm.findClass (am_xn x) = some ce.cls ∧ ∀ (target : State), Steps p.tables e below ((T'.setTop (F0 mid pc ls (rest.map (am_c (am_ad Ω))))).pushFrame (.throwing a)) target → Steps p.tables e below A0 target)
    (haf : am_af Ω m p l e R s mid args below meth c Q cal o pc L rest n) : ∃ t, Steps p.tables e below A0 t ∧ Q t := by
  unfold am_af at haf
  cases ho : o.2 with
  | inl v =>
    rw [ho] at hG haf
    have h1 := haf T'.heap locs' ls hl hP' hS' hsc T' rfl X'
    obtain ⟨t, st, hq⟩ := h1
    refine ⟨t, hG t ?_, hq⟩
    have he : (v.map (am_c (am_ad Ω))).toList ++ rest.map (am_c (am_ad Ω)) = (v.toList ++ rest).map (am_c (am_ad Ω)) := by cases v <;> simp
    rw [he]
    exact st
  | inr x =>
    rw [ho] at hG haf
    obtain ⟨a, ce, ha, hce, hcs, hcl, hgo⟩ := hG
    obtain ⟨⟨hx, hb, hml, hown, hts⟩, hK, hrt, hlocks, hhd, hin, ⟨hR1, hR2, hR3, hR4⟩, htr⟩ := hC
    dsimp only at haf
    cases hh : am_hd m pc x with
    | none => rw [hh] at haf; exact haf.elim
    | some oh =>
      rw [hh] at haf
      cases oh with
      | none =>
        have hnil : am_hh m = [] := am_fact_h0 hh
        have htab : ∀ y ∈ c.exceptionTable.toList, covers y pc = false := by
          rw [hnil] at hhd
          intro y hy
          have : c.exceptionTable.toList = [] := List.map_eq_nil_iff.mp hhd
          rw [this] at hy
          cases hy
        obtain ⟨hst, hrun, hend, hW, hsame⟩ := X'.leaveThrown a (g := F0 mid pc ls (rest.map (am_c (am_ad Ω)))) rfl rfl rfl htab hlocks
        refine ⟨_, hgo _ hst, haf _ _ hrun hend ⟨hP', hS'.1, hS'.2.1, hW, ⟨locs', hsame.mono hbud (by omega), hS'.2.2⟩, hsc, a, ce, rfl, ha, hce, hcs, hcl⟩⟩
      | some h =>
        obtain ⟨vm', X2, hst⟩ := am_caught X' ⟨⟨hx, hb, hml, hown, hts⟩, hK, hrt, hlocks, hhd, hin, ⟨hR1, hR2, hR3, hR4⟩, htr⟩ hh (g := F0 mid pc ls (rest.map (am_c (am_ad Ω)))) rfl rfl hce hcs hcl
        obtain ⟨t, st, hq⟩ := haf a T'.heap locs' ls hl hP' hS' hsc (T'.setVm vm') rfl X2
        exact ⟨t, hgo t (hst t st), hq⟩
end RUNB
