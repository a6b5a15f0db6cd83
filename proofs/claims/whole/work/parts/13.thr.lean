-- an exception is made and thrown
section THR
variable {Ω : am_Ω} {d m : Nat} {p : Program} {l : Launch} {e : Env} {R : Room} {s : State} {mid : MethodId} {args : Array Value} {below : List Frame} {meth : Method} {c : Code} {Q : State → Prop} {pc len n : Nat} {L : am_Ls} {S : List am_V} {M : am_M} {σ : am_S}
theorem am_tw_at {w : Cond} (h : am_tw w = true) (hts : ∀ w ∈ am_ws, w.before args s = true) (henv : am_env Ω s) : w.before args s = true := by
  simp only [am_tw, Bool.or_eq_true, Bool.and_eq_true, List.any_eq_true, decide_eq_true_eq] at h
  rcases h with (⟨h1, h2⟩ | ⟨x, hx, rfl⟩) | ⟨y, hy, rfl⟩
  · have h3 : w ∈ tables_1.take 340 := by simpa using h1
    exact hts w (List.mem_filter.mpr ⟨List.mem_append_right _ (List.mem_of_mem_take h3), h2⟩)
  · exact va_Nw.use rfl (henv.2.2.2.2.1 x (List.mem_range.mp hx))
  · exact va_Nw.use rfl (henv.2.2.2.2.2 y hy)
theorem am_tw_all {x ic : Nat} (h : (x = 0 ∧ ic = 33) ∨ (x = 1 ∧ ic = 46) ∨ (x = 2 ∧ ic = 55) ∨ (x = 3 ∧ ic = 77)) : ∀ w ∈ vx_atS (am_cn 2) ic (am_xn x) am_up2, am_tw w = true := by
  rcases h with ⟨rfl, rfl⟩ | ⟨rfl, rfl⟩ | ⟨rfl, rfl⟩ | ⟨rfl, rfl⟩
  · exact List.all_eq_true.mp am_tw_0
  · exact List.all_eq_true.mp am_tw_1
  · exact List.all_eq_true.mp am_tw_2
  · exact List.all_eq_true.mp am_tw_3
set_option maxHeartbeats 2000000 in
theorem am_s_thr (hC : am_Cx Ω d m p e R s mid args meth c) {idx : Nat} {o : am_O} (h : am_st (am_sh Ω) m (.new idx) len pc L S M n = some (Sum.inr (Sum.inl o))) (hfin : ∀ (t : State) (oc : Outcome), t.status = .running → Ended t below oc → am_Q Ω o (am_bud m) s oc t → Q t) : am_nx Ω m p l e R s mid args below meth c Q (pc, L, S, M, n) := by
  obtain ⟨x, hx, rfl, hn, ho⟩ := am_thr_inv h
  cases ho
  obtain ⟨ik, is, ic, hmem, hcls, hh0, d0, d3, d4, d6, d9, wk, wi, hfit, hxi⟩ := am_fact_t hx
  intro H locs ls hl hP hS hs T hT X
  subst hT
  obtain ⟨⟨hexec, hb, hml, hown, hts⟩, hK, hrt, hlocks, hhd, hin, ⟨hR1, hR2, hR3, hR4⟩, htr, henv⟩ := hC
  rw [hcls] at hown
  dsimp only at hP hS hs X
  have Y := vx_rebase X (R' := { frames := R.frames, locals := R.locals, cells := 1, slots := 6 }) (Nat.le_refl _) (Nat.le_refl _) (by show n + 1 ≤ R.cells; omega) (by show 6 * n + 6 ≤ R.slots; omega)
  obtain ⟨s', hA⟩ : ∃ z, z = (T.setVm s.vm).setFrames (.invoking mid args :: below) := ⟨_, rfl⟩
  rw [← hA] at Y
  have hvm : s'.vm = s.vm := by rw [hA]; rfl
  have hhp : s'.heap = T.heap := by rw [hA]; rfl
  have hW0 : s.WarmedH s'.vm := by rw [hvm]; exact State.WarmedH.refl s
  have hts' : ∀ w ∈ am_ws, w.before args s' = true := fun w hw => word_at hW0 (am_good w hw) (hts w hw)
  have henv' : am_env Ω s' := am_env_moved henv (locs := locs) (by rw [hhp]; exact hS) hW0
  have hat : ∀ w ∈ vx_atS (am_cn 2) ic (am_xn x) am_up2, w.before args s' = true := fun w hw => am_tw_at (am_tw_all hxi w hw) hts' henv'
  have hall : ∀ w ∈ Bundle.ownAtoms (am_cn 2) ic (am_xn x) am_up2, w.before args s' = true := vx_own hat (vx_isRefq henv'.2.1.1) (vx_isRefq henv'.2.2.1.1) henv'.2.1.2.word henv'.2.2.1.2.word
  have hown' : s'.vm.findClass (am_cn 2) = some mid.cls := by rw [hvm]; exact hown
  have hins : (Cond.instantiable (am_xn x) 6).before args s' = true := hall _ (by simp [Bundle.ownAtoms])
  obtain ⟨sa, hstr⟩ := henv'.2.2.2.1 _ hmem
  have htab : ∀ y ∈ c.exceptionTable.toList, covers y (pc + 9) = false := by
    rw [hh0] at hhd
    intro y hy
    have h9 : c.exceptionTable.toList = [] := List.map_eq_nil_iff.mp hhd
    rw [h9] at hy
    cases hy
  obtain ⟨vm₁, cX, kX, hfX, hkX, -, -, X₁, st1⟩ := Y.newCold hexec (own := am_cn 2) (C := am_xn x) (index := ik) (n := 6) hown' (hts' _ wk) hins (hts' _ wi)
    (g := F0 mid pc ls []) rfl (by rw [hb]; exact d0) (Nat.le_refl _) (Nat.le_refl _)
  generalize hT1 : (T.setVm vm₁).pushCell { cls := cX, slots := kX.instanceTypes.map defaultValue, vm := .none } = T1 at X₁ st1
  have hcat : (Value.ref T.heap.size).category = 1 := rfl
  have hcellA : T1.heap[T.heap.size]? = some (freshCell cX kX) := by rw [← hT1]; exact State.heap_pushCell_size _ _
  have d3' : decode c.code (pc + 3) = .ok (.dup, 1) := by rw [hb]; exact d3
  have d4' : decode c.code (pc + 4) = .ok (.ldc is, 2) := by rw [hb]; exact d4
  obtain ⟨U, hsteps, hrun, hend, hW, hsame, ce, hce, hO⟩ := X₁.ctorThrowS hexec htr (own := am_cn 2) (cls := am_xn x) (names := am_up2) (ic := ic) hown' hfit (by decide +kernel) hall (fun x hx => nomatch hx) hfX hkX hcellA (by rw [hhp]; exact Nat.le_refl _) (msg := .ref sa) rfl
    (g := { method := mid, pc := pc + 6, locals := ls, stack := .ref sa :: .ref T.heap.size :: .ref T.heap.size :: [], locked := none }) rfl (by rw [hml]; exact hl.1) rfl rfl (rest := []) rfl
    (by rw [hb]; exact d6) (by rw [hb]; exact d9) htab (by show 2 + 3 < R.frames; omega) (by simp only [List.map_cons, List.map_nil, List.sum_cons, List.sum_nil, hcat]; show 2 * 0 + _ + (13 * (2 + 1) + 42) ≤ R.locals; omega) hlocks
  obtain ⟨f1, f2⟩ := vx_frame hsame
  rw [hhp] at f1 f2
  have hWs : s.WarmedH U.vm := State.WarmedH.trans hW0 hW
  have hcl : s.vm.findClass (am_xn x) = some ce.cls := by
    have h9 := hO.cls
    rw [hvm] at h9
    exact h9
  have hsb : s.sameButNew ({ U with vm := s.vm } : State) locs (am_bud m) (6 * am_bud m) := by
    subst hA
    obtain ⟨e1, e2⟩ := hsame
    rw [State.setFrames_setFrames] at e1
    have h2 : (T.setVm s.vm).sameButNew ({ U with vm := s.vm } : State) [] (0 + 1) (0 + 6) := ⟨e1, e2⟩
    have h3 := X.same.trans h2
    rw [List.append_nil] at h3
    exact h3.mono (by omega) (by omega)
  have keep : ∀ q : Nat, q < T.heap.size → U.heap[q]? = T.heap[q]? := fun q hq => f2 q hq (fun z hz => nomatch hz)
  refine ⟨U, ?_, hfin U (.threw T.heap.size) hrun hend ⟨hP.kept (fun k q hk => keep q.1 (hP k q hk).lt), Nat.le_trans hS.1 f1, fun q h1 h2 => by rw [keep q (Nat.lt_of_lt_of_le h1 hS.1)]; exact hS.2.1 q h1 h2, hWs, ⟨locs, hsb, hS.2.2⟩, hs, T.heap.size, ce, rfl, hS.1, hce, by rw [hO.vm]; rfl, hcl⟩⟩
  refine st1 _ ?_
  show Steps p.tables e below (T1.setTop { method := mid, pc := pc + 3, locals := ls, stack := .ref T.heap.size :: [], locked := none }) _
  jvm_step X₁.here [X₁.here.top, hexec, d3', Value.category]
  exact X₁.ldcString hexec (own := am_cn 2) (text := am_tx is) (index := is) (a := sa) hown' hstr.1 hstr.2
    (g := { method := mid, pc := pc + 4, locals := ls, stack := .ref T.heap.size :: .ref T.heap.size :: [], locked := none }) rfl d4' _ hsteps
end THR
