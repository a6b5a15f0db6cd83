-- ends and calls
def am_Q (Ω : am_Ω) (o : am_O) (b : Nat) (s : State) (oc : Outcome) (t : State) : Prop :=
  va_P (am_D Ω) am_cl (am_w Ω o.1) t.heap ∧ s.heap.size ≤ t.heap.size ∧ (∀ q : Nat, q < s.heap.size → ¬ am_A Ω s.heap.size q → t.heap[q]? = s.heap[q]?) ∧ s.WarmedH t.vm ∧ (∃ L : List Loc, s.sameButNew ({ t with vm := s.vm } : State) L b (6 * b) ∧ ∀ q ∈ L, am_A Ω s.heap.size q.base) ∧ am_sc Ω o.1 s ∧ (match o.2 with
    | .inl v => oc = .returned (v.map (am_c (am_ad Ω)))
    | .inr x => ∃ (a : Addr) (ce : Cell), oc = .threw a ∧ s.heap.size ≤ a ∧ t.heap[a]? = some ce ∧ ce.vm.isStatics = false ∧ s.vm.findClass (am_xn x) = some ce.cls)
/-- a callee, from its entry to its end -/
def am_Sd (l : Launch) (Ω : am_Ω) (d cal : Nat) (M : am_M) (as : List am_V) (o : am_O) : Prop :=
  ∀ (p : Program) (e : Env) (R : Room) (s : State) (mid : MethodId) (args : Array Value) (below : List Frame) (meth : Method) (c : Code) (T : State), Stand p l e R s mid args below meth c T [] 0 0 → am_Cx Ω d cal p e R s mid args meth c → T.heap = s.heap → args = (as.map (am_c (am_ad Ω))).toArray → va_P (am_D Ω) am_cl (am_w Ω M) s.heap → am_sc Ω M s →
    ∃ (t : State) (oc : Outcome), Steps p.tables e below (T.setTop (entryFrame mid args (am_mL cal))) t ∧ t.status = .running ∧ Ended t below oc ∧ am_Q Ω o (am_bud cal) s oc t
theorem am_sc_in {Ω : am_Ω} {M : am_M} {s s' : State} {H : Heap} {locs : List Loc} (h : am_sc Ω M s) (hS : va_S (am_A Ω s.heap.size) s.heap H locs) (hvm : s.vm.Alike s'.vm) (hH : s'.heap = H) : am_sc Ω M s' := by
  intro k N hk
  obtain ⟨h1, h2, h3⟩ := h k N hk
  refine ⟨?_, by rw [hH]; exact Nat.lt_of_lt_of_le h2 hS.1, fun q => h3 (am_A_mono (by rw [hH]; exact hS.1) q)⟩
  rw [hH]
  exact (h1.moved hvm).kept (hS.2.1 _ h2 h3)
section RUN
variable {Ω : am_Ω} {d m : Nat} {p : Program} {l : Launch} {e : Env} {R : Room} {s : State} {mid : MethodId} {args : Array Value} {below : List Frame} {meth : Method} {c : Code} {Q : State → Prop} {pc len n : Nat} {L : am_Ls} {S : List am_V} {M : am_M} {σ : am_S}
theorem am_s_ret {v : Option am_V} (hn : n ≤ am_bud m) (hfin : ∀ (t : State) (oc : Outcome), t.status = .running → Ended t below oc → am_Q Ω (M, Sum.inl v) (am_bud m) s oc t → Q t)
    (row : ∀ (H : Heap) (locs : List Loc) (ls : Array Slot), (∀ q ∈ locs, am_A Ω s.heap.size q.base) → W p l e R s mid args below meth c H locs n (6 * n) (MQ below (fun _ _ oc t => oc = .returned (v.map (am_c (am_ad Ω))) ∧ t.heap = H) args s n (6 * n) (am_A Ω s.heap.size)) (F0 mid pc ls (S.map (am_c (am_ad Ω))))) : am_nx Ω m p l e R s mid args below meth c Q (pc, L, S, M, n) := by
  intro H locs ls hl hP hS hs T hT X
  obtain ⟨t, st, oc, hrun, hend, ⟨hoc, hh⟩, L', ⟨-, hW, hsame⟩, hL⟩ := row H locs ls hS.2.2 T hT X
  refine ⟨t, st, hfin t oc hrun hend ⟨by rw [hh]; exact hP, by rw [hh]; exact hS.1, by rw [hh]; exact hS.2.1, hW, ⟨L', hsame.mono hn (Nat.mul_le_mul_left 6 hn), hL⟩, hs, hoc⟩⟩
theorem am_fin1 (hC : am_Cx Ω d m p e R s mid args meth c) {i : Instr} (hd : decode (am_b m) pc = .ok (i, len)) {o : am_O} (hno : ∀ idx, i ≠ .new idx) (h : am_st (am_sh Ω) m i len pc L S M n = some (Sum.inr (Sum.inl o))) (hfin : ∀ (t : State) (oc : Outcome), t.status = .running → Ended t below oc → am_Q Ω o (am_bud m) s oc t → Q t) : am_nx Ω m p l e R s mid args below meth c Q (pc, L, S, M, n) := by
  obtain ⟨⟨hx, hb, hml, hown, hts⟩, hK, hrt, hlocks, -, hin, -⟩ := hC
  have hco : (am_co (am_sh Ω) m i len pc L S M n).map (Sum.inl (β := am_O ⊕ am_C)) = some (Sum.inr (Sum.inl o)) → False := fun q => by
    cases hq : am_co (am_sh Ω) m i len pc L S M n with
    | none => rw [hq] at q; cases q
    | some z => rw [hq] at q; cases q
  have hiv : ∀ kind idx, am_inv (am_sh Ω) kind m idx len pc L S M n = some (Sum.inr (Sum.inl o)) → False := fun kind idx q => by
    obtain ⟨c, k, -, -, -, -, -, -, hr⟩ := am_inv_inv q
    cases hr
  cases i with
  | ireturn =>
    obtain ⟨v, rfl, rfl, hn, ht, hr⟩ := am_iret_inv h
    cases hr
    refine am_s_ret hn hfin (fun H locs ls hf => ?_)
    rcases ht with ht | ⟨ht, hv⟩
    · exact W.zret (ty := .int) hx hb (by rw [hrt, ht]) rfl (fun t ht _ => ⟨rfl, ht⟩) hf hd hlocks
    · exact W.zret (ty := .boolean) hx hb (by rw [hrt, ht]) (by rcases hv with rfl | rfl <;> rfl) (fun t ht _ => ⟨rfl, ht⟩) hf hd hlocks
  | areturn =>
    obtain ⟨v, rfl, rfl, hn, ht, hr⟩ := am_aret_inv h
    cases hr
    refine am_s_ret hn hfin (fun H locs ls hf => ?_)
    obtain ⟨nm, hnm⟩ := am_fact_ra ht
    exact W.aret (rt := .object nm) hx hb (by rw [hrt, hnm]) (Or.inl ⟨nm, rfl⟩) (va_rf_or _) (fun t ht _ => ⟨rfl, ht⟩) hf hd hlocks
  | return_ =>
    obtain ⟨rfl, rfl, hn, ht, hr⟩ := am_vret_inv h
    cases hr
    refine am_s_ret hn hfin (fun H locs ls hf => ?_)
    exact W.vret hx hb (by rw [hrt, ht]) (fun t ht _ => ⟨rfl, ht⟩) hf hd hlocks
  | new idx => exact absurd rfl (hno idx)
  | invokevirtual idx => exact (hiv 1 idx h).elim
  | invokestatic idx =>
    have h' : (if am_ac m idx = true then (am_cpy (am_sh Ω) len pc L S M n).map Sum.inl else am_inv (am_sh Ω) 0 m idx len pc L S M n) = some (Sum.inr (Sum.inl o)) := h
    split at h'
    · cases hq : am_cpy (am_sh Ω) len pc L S M n with
      | none => rw [hq] at h'; cases h'
      | some z => rw [hq] at h'; cases h'
    · exact (hiv 0 idx h').elim
  | _ => exact (hco h).elim
theorem am_callee (hts : ∀ w ∈ am_ws, w.before args s = true) {cal : Nat} (hcp : am_CP cal) {mk : MethodId} (hn : s.methodNamed? (am_y cal) = some mk) : ∃ (mt : Method) (ck : Code), s.vm.method? mk = some mt ∧ mt.code = some ck ∧ ck.code = am_b cal ∧ ck.maxLocals = am_mL cal ∧ mt.sig.returnType = am_rt cal ∧ mt.locks = false ∧ ck.exceptionTable.toList.map (fun h => (h.startPc, h.endPc, h.handlerPc, h.catchType)) = am_hh cal ∧ parseMethodDescriptor (am_y cal).desc = some mt.sig := by
  obtain ⟨-, -, -, -, ⟨hh, hw⟩ | hw⟩ := hcp
  · obtain ⟨mt, ck, h1, h2, h3, h4, h5, h6, h7, h8⟩ := Cond.code_spec hn (hts _ hw)
    refine ⟨mt, ck, h1, h2, h3, h4, h5, h6, ?_, h8⟩
    rw [hh]
    have : ck.exceptionTable = #[] := by simpa using h7
    rw [this]
    rfl
  · obtain ⟨m9, mt, ck, hn9, h1, h2, h3, h4, h5, h6, h7, h8⟩ := Cond.codeWith_spec (hts _ hw)
    cases hn.symm.trans hn9
    exact ⟨mt, ck, h1, h2, h3, h4, h6, h7, h5, h8⟩
theorem am_weaken {tb : Tables} {e : Env} {mid below : List Frame} {a b : State} (h : Steps tb e (mid ++ below) a b) : Steps tb e below a b := by
  obtain ⟨n, hn, w⟩ := h
  exact ⟨n, hn, fun k hk => (w k hk).weaken⟩
set_option maxRecDepth 4000 in
theorem am_room1 {st : List Value} {a d R : Nat} (h : (st.map fun v => v.category).sum ≤ 8) (ha : a ≤ 45) (hR : 64 * (d + 1) + 300 ≤ R) : 2 * 0 + (st.map fun v => v.category).sum + (a + 11) + (64 * d + 300) ≤ R := by
  generalize (st.map fun v => v.category).sum = z at h ⊢
  omega
set_option maxHeartbeats 1000000 in
theorem am_core {T : State} {locs : List Loc} (X : Stand p l e R s mid args below meth c T locs n (6 * n)) (hC : am_Cx Ω (d + 1) m p e R s mid args meth c) {cal : Nat} {as : List am_V} {o : am_O} (hSd : am_Sd l Ω d cal M as o) (hP : va_P (am_D Ω) am_cl (am_w Ω M) T.heap) (hS : va_S (am_A Ω s.heap.size) s.heap T.heap locs) (hs : am_sc Ω M s) {mk : MethodId} (hn : s.methodNamed? (am_y cal) = some mk) {rest : List am_V} (hrest : rest.length ≤ 4) (hbud : n + am_bud cal ≤ am_bud m) {ls : Array Slot} (hls : ls.size = am_mL m) {i : Instr} (hd : decode (am_b m) pc = .ok (i, 3)) (hcp : am_CP cal) :
    ∃ (T' : State) (locs' : List Loc), Stand p l e R s mid args below meth c T' locs' (n + am_bud cal) (6 * (n + am_bud cal)) ∧ va_P (am_D Ω) am_cl (am_w Ω o.1) T'.heap ∧ va_S (am_A Ω s.heap.size) s.heap T'.heap locs' ∧ am_sc Ω o.1 s ∧ (match o.2 with
      | .inl v => ∀ (acts : List Action) (target : State), Steps p.tables e below (T'.setTop (F0 mid (pc + 3) ls ((v.map (am_c (am_ad Ω))).toList ++ rest.map (am_c (am_ad Ω))))) target → Steps p.tables e below (doInvoke e (T.setTop (F0 mid pc ls (rest.map (am_c (am_ad Ω))))) acts mk (as.map (am_c (am_ad Ω))).toArray).1 target
      | .inr x => ∃ (a : Addr) (ce : Cell), s.heap.size ≤ a ∧ T'.heap[a]? = some ce ∧ ce.vm.isStatics = false ∧ s.vm.findClass (am_xn x) = some ce.cls ∧ ∀ (acts : List Action) (target : State), Steps p.tables e below ((T'.setTop (F0 mid pc ls (rest.map (am_c (am_ad Ω))))).pushFrame (.throwing a)) target → Steps p.tables e below (doInvoke e (T.setTop (F0 mid pc ls (rest.map (am_c (am_ad Ω))))) acts mk (as.map (am_c (am_ad Ω))).toArray).1 target) := by
  obtain ⟨⟨hx, hb, hml, hown, hts⟩, hK, hrt, hlocks, hhd, hin, ⟨hR1, hR2, hR3, hR4⟩, htr⟩ := hC
  obtain ⟨mt, ck, hm1, hm2, hm3, hm4, hm5, hm6, hm7, hm8⟩ := am_callee hts hcp hn
  have hal := X.warmed.alike
  have hmT : T.vm.method? mk = some mt := by rw [hal.method?]; exact hm1
  have hnT : T.methodNamed? (am_y cal) = some mk := X.named hn
  have hpk : T.plainMethod mk := State.plainMethod.of_named hcp.1 hnT hmT
  have hcat := am_cats (ad := am_ad Ω) rest
  obtain ⟨X2, hinto⟩ := X.into (g := F0 mid pc ls (rest.map (am_c (am_ad Ω)))) rfl (by rw [hml]; exact hls) (by rw [hb]; exact hd) (mk := mk) (methk := mt) (ck := ck) (as.map (am_c (am_ad Ω))).toArray (R' := { frames := d + 8, cells := am_bud cal, slots := 6 * am_bud cal, locals := 64 * d + 300 }) hmT hm2 hm6 hpk (by show d + 8 + 1 ≤ R.frames; omega) (by rw [hm4]; exact am_room1 (by show ((rest.map (am_c (am_ad Ω))).map fun v => v.category).sum ≤ 8; omega) hcp.2.1 hR2) (by show n + am_bud cal ≤ R.cells; omega) (by show 6 * n + 6 * am_bud cal ≤ R.slots; omega)
  obtain ⟨t, oc, hst, hrun, hend, hQ1, hQ2, hQ3, hQ4, ⟨L', hQ5, hQ6⟩, hQ7, hQ8⟩ := hSd p e _ (T.calling (F0 mid pc ls (rest.map (am_c (am_ad Ω)))) mk (as.map (am_c (am_ad Ω))).toArray) mk _ (.java (F0 mid pc ls (rest.map (am_c (am_ad Ω)))) :: below) mt ck _ X2
    ⟨⟨hx, hm3, hm4, findClass_of_methodNamed hnT, fun w hw => word_at (U := T.calling (F0 mid pc ls (rest.map (am_c (am_ad Ω)))) mk (as.map (am_c (am_ad Ω))).toArray) X.warmed (am_good w hw) (hts w hw)⟩, va_K.moved hal hK, hm5, hm6, hm7, hin, ⟨Nat.le_refl _, Nat.le_refl _, Nat.le_refl _, Nat.le_refl _⟩, htr.1, am_env_moved (U := T.calling (F0 mid pc ls (rest.map (am_c (am_ad Ω)))) mk (as.map (am_c (am_ad Ω))).toArray) htr.2 hS X.warmed⟩ rfl rfl hP (am_sc_in hs hS hal rfl)
  rw [← hm4] at hst
  have hz : (T.calling (F0 mid pc ls (rest.map (am_c (am_ad Ω)))) mk (as.map (am_c (am_ad Ω))).toArray).heap = T.heap := rfl
  rw [hz] at hQ2 hQ3 hQ6
  have hS' : va_S (am_A Ω s.heap.size) s.heap t.heap (locs ++ L') := by
    refine ⟨Nat.le_trans hS.1 hQ2, fun q h1 h2 => ?_, fun q hq => ?_⟩
    · rw [hQ3 q (Nat.lt_of_lt_of_le h1 hS.1) (fun z => h2 (am_A_mono hS.1 z))]
      exact hS.2.1 q h1 h2
    · rcases List.mem_append.mp hq with h | h
      · exact hS.2.2 q h
      · exact am_A_mono hS.1 (hQ6 q h)
  have hsc : am_sc Ω o.1 s := by
    intro k N hk
    obtain ⟨g1, g2, g3⟩ := hs k N hk
    obtain ⟨f1, -, -⟩ := hQ7 k N hk
    refine ⟨?_, g2, g3⟩
    have f2 := va_X.moved (U := s) hal.symm f1
    exact va_X.kept f2 (hS.2.1 _ g2 g3).symm
  have hsl : 6 * (n + am_bud cal) = 6 * n + 6 * am_bud cal := Nat.mul_add 6 n (am_bud cal)
  cases ho : o.2 with
  | inl v =>
    rw [ho] at hQ8
    have hoc : oc = .returned (v.map (am_c (am_ad Ω))) := hQ8
    subst hoc
    obtain ⟨T', X', -, -, ht⟩ := X.outOf (g := F0 mid pc ls (rest.map (am_c (am_ad Ω)))) rfl (by rw [hb]; exact hd) hend hQ4 hQ5
    have hh : T'.heap = t.heap := by rw [ht]; rfl
    refine ⟨T', locs ++ L', by rw [hsl]; exact X', by rw [hh]; exact hQ1, by rw [hh]; exact hS', hsc, fun acts target hrest => ?_⟩
    rw [hinto acts]
    exact (am_weaken (mid := [.java (F0 mid pc ls (rest.map (am_c (am_ad Ω))))]) hst).trans (by rw [ht]; exact hrest)
  | inr x =>
    rw [ho] at hQ8
    obtain ⟨a, ce, hoc, ha, hce, hcs, hcl⟩ := (hQ8 : ∃ (a : Addr) (ce : Cell), oc = .threw a ∧ _ ≤ a ∧ t.heap[a]? = some ce ∧ ce.vm.isStatics = false ∧ _ = some ce.cls)
    subst hoc
    obtain ⟨T', X', -, -, ht⟩ := X.outOfThrown (g := F0 mid pc ls (rest.map (am_c (am_ad Ω)))) rfl hend hQ4 hQ5
    have hh : T'.heap = t.heap := by rw [ht]; rfl
    refine ⟨T', locs ++ L', by rw [hsl]; exact X', by rw [hh]; exact hQ1, by rw [hh]; exact hS', hsc, a, ce, Nat.le_trans hS.1 ha, by rw [hh]; exact hce, hcs, ?_, fun acts target hrest => ?_⟩
    · rw [← hal.findClass]; exact hcl
    · rw [hinto acts]
      exact (am_weaken (mid := [.java (F0 mid pc ls (rest.map (am_c (am_ad Ω))))]) hst).trans (by rw [ht]; exact hrest)
/-- what comes behind a call -/
def am_af (Ω : am_Ω) (m : Nat) (p : Program) (l : Launch) (e : Env) (R : Room) (s : State) (mid : MethodId) (args : Array Value) (below : List Frame) (meth : Method) (c : Code) (Q : State → Prop) (cal : Nat) (o : am_O) (pc : Nat) (L : am_Ls) (S : List am_V) (n : Nat) : Prop := match o.2 with
  | .inl v => am_nx Ω m p l e R s mid args below meth c Q (pc + 3, L, v.toList ++ S, o.1, n + am_bud cal)
  | .inr x => (match am_hd m pc x with
    | none => False
    | some none => ∀ (t : State) (oc : Outcome), t.status = .running → Ended t below oc → am_Q Ω (o.1, Sum.inr x) (am_bud m) s oc t → Q t
    | some (some h) => ∀ a, am_nx Ω m p l e R s mid args below meth c Q (h, L, [am_X a], o.1, n + am_bud cal))
end RUN
