-- the machine, stretch by stretch: a walk seen anew from where it stands, and back
section XA
variable {Ω : am_Ω} {d m : Nat} {p : Program} {l : Launch} {e : Env} {R : Room} {s : State} {mid : MethodId} {args : Array Value} {below : List Frame} {meth : Method} {c : Code} {Q : State → Prop} {locs : List Loc} {cells slots : Nat} {T : State}
abbrev am_re (T s : State) (mid : MethodId) (args : Array Value) (below : List Frame) : State := (T.setVm s.vm).setFrames (.invoking mid args :: below)
theorem am_re_w : s.WarmedH (am_re T s mid args below).vm := State.WarmedH.refl s
theorem vx_unbase {T' : State} {R' : Room} {locs' : List Loc} {n k : Nat} (X : Stand p l e R s mid args below meth c T locs cells slots) (Y : Stand p l e R' (am_re T s mid args below) mid args below meth c T' locs' n k) : Stand p l e R s mid args below meth c T' (locs ++ locs') (cells + n) (slots + k) := by
  refine ⟨X.admits, X.cas, X.clock, X.frames, X.room, X.hears, X.method, X.code, Y.here, Y.tail, State.WarmedH.trans am_re_w Y.warmed, ?_, ?_, ?_⟩
  · have h := Y.limits
    rw [State.stackLimits_setFrames] at h
    exact h.trans X.limits
  · have h := Y.bytes
    rw [State.stackBytes_setFrames] at h
    exact h.trans X.bytes
  · obtain ⟨e1, e2⟩ := Y.same
    rw [State.setFrames_setFrames] at e1
    have h2 : (T.setVm s.vm).sameButNew (T'.setVm s.vm) locs' n k := ⟨e1, e2⟩
    exact X.same.trans h2
theorem am_Cx_re {R' : Room} (hC : am_Cx Ω d m p e R s mid args meth c) (hS : va_S (am_A Ω s.heap.size) s.heap T.heap locs) (hR : d + 8 ≤ R'.frames ∧ 64 * d + 300 ≤ R'.locals ∧ am_bud m ≤ R'.cells ∧ 6 * am_bud m ≤ R'.slots) : am_Cx Ω d m p e R' (am_re T s mid args below) mid args meth c := by
  obtain ⟨⟨hx, hb, hml, hown, hts⟩, hK, hrt, hlocks, hhd, hin, -, htr, henv⟩ := hC
  have hW0 : s.WarmedH (am_re T s mid args below).vm := am_re_w
  exact ⟨⟨hx, hb, hml, hown, fun w hw => word_at hW0 (am_good w hw) (hts w hw)⟩, va_K.moved hW0.alike hK, hrt, hlocks, hhd, hin, hR, htr, am_env_moved henv hS hW0⟩
theorem va_S_trans {H : Heap} {locs' : List Loc} (hS : va_S (am_A Ω s.heap.size) s.heap T.heap locs) (hS' : va_S (am_A Ω T.heap.size) T.heap H locs') : va_S (am_A Ω s.heap.size) s.heap H (locs ++ locs') := by
  refine ⟨Nat.le_trans hS.1 hS'.1, fun q h1 h2 => ?_, fun q hq => ?_⟩
  · rw [hS'.2.1 q (Nat.lt_of_lt_of_le h1 hS.1) (fun z => h2 (am_A_mono hS.1 z))]
    exact hS.2.1 q h1 h2
  · rcases List.mem_append.mp hq with h | h
    · exact hS.2.2 q h
    · exact am_A_mono hS.1 (hS'.2.2 q h)
/-- from a state of the walk, by the abstract machine, to another one, or to the end -/
theorem am_again (X : Stand p l e R s mid args below meth c T locs cells slots) (hC : am_Cx Ω (d + 1) m p e R s mid args meth c) (hcl : cells + am_bud m ≤ R.cells) (hsl : slots + 6 * am_bud m ≤ R.slots) {pc n0 : Nat} {L : am_Ls} {S : List am_V} {M : am_M} {ls : Array Slot} (hl : am_lv Ω (am_mL m) ls L) (hP : va_P (am_D Ω) am_cl (am_w Ω M) T.heap) (hS : va_S (am_A Ω s.heap.size) s.heap T.heap locs) (hs : am_sc Ω M s) {P : am_S ⊕ am_O → Prop} (hev : am_ev (am_sh Ω) (am_cr (am_sh Ω) d) m (pc, L, S, M, n0) P)
    (hstop : ∀ σ, P (Sum.inl σ) → ∀ (T' : State) (locs' : List Loc) (ls' : Array Slot), Stand p l e R s mid args below meth c T' (locs ++ locs') (cells + σ.2.2.2.2) (slots + 6 * σ.2.2.2.2) → am_lv Ω (am_mL m) ls' σ.2.1 → va_P (am_D Ω) am_cl (am_w Ω σ.2.2.2.1) T'.heap → va_S (am_A Ω s.heap.size) s.heap T'.heap (locs ++ locs') → am_sc Ω σ.2.2.2.1 s → ∃ t, Steps p.tables e below (T'.setTop (F0 mid σ.1 ls' (σ.2.2.1.map (am_c (am_ad Ω))))) t ∧ Q t)
    (hend : ∀ o, P (Sum.inr o) → ∀ (t : State) (oc : Outcome), t.status = .running → Ended t below oc → am_Q Ω o (am_bud m) (am_re T s mid args below) oc t → Q t) : ∃ t, Steps p.tables e below (T.setTop (F0 mid pc ls (S.map (am_c (am_ad Ω))))) t ∧ Q t := by
  obtain ⟨R', hR'⟩ : ∃ R' : Room, R' = { frames := R.frames, locals := R.locals, cells := am_bud m, slots := 6 * am_bud m } := ⟨_, rfl⟩
  have Y : Stand p l e R' (am_re T s mid args below) mid args below meth c T [] 0 0 := by
    rw [hR']
    exact vx_rebase X (Nat.le_refl _) (Nat.le_refl _) hcl hsl
  have hR := hC.2.2.2.2.2.2.1
  have hC' : am_Cx Ω (d + 1) m p e R' (am_re T s mid args below) mid args meth c := am_Cx_re hC hS (by rw [hR']; exact ⟨hR.1, hR.2.1, Nat.le_refl _, Nat.le_refl _⟩)
  obtain ⟨f, hf⟩ := hev
  have hst : ∀ σ, P (Sum.inl σ) → am_nx Ω m p l e R' (am_re T s mid args below) mid args below meth c Q σ := by
    intro σ hσ H locs' ls' hl' hP' hS' hs' T' hT' Y'
    subst hT'
    refine hstop σ hσ T' locs' ls' (vx_unbase X Y') hl' hP' (va_S_trans hS hS') (fun k N hk => ?_)
    obtain ⟨g1, g2, g3⟩ := hs k N hk
    obtain ⟨f1, -, -⟩ := hs' k N hk
    refine ⟨?_, g2, g3⟩
    have f2 := va_X.moved (U := s) (Vm.Alike.refl _) f1
    exact va_X.kept f2 (hS.2.1 _ g2 g3).symm
  have h := am_W (l := l) (below := below) (Q := Q) hC' (fun cal M as o h => am_sound l Ω d cal M as o h) (P := P) hst hend f _ hf
  exact h T.heap [] ls hl hP va_S.rf (am_sc_in hs hS (Vm.Alike.refl _) rfl) T rfl (stand_widen Y (Nat.zero_le _) (Nat.zero_le _))
end XA
