-- the world grows: a call that makes cells
section XB
variable {Ω Ω' : am_Ω} {z d m : Nat} {p : Program} {l : Launch} {e : Env} {R : Room} {s : State} {mid : MethodId} {args : Array Value} {below : List Frame} {meth : Method} {c : Code} {locs : List Loc} {cells slots : Nat} {T : State} {M M' : am_M} {L : am_Ls} {S : List am_V} {pc : Nat}
def am_G (Ω Ω' : am_Ω) (z : Nat) : Prop := am_D Ω' = am_D Ω ∧ am_ca Ω' = am_ca Ω ∧ am_in Ω' ∧ (∀ k c, am_ct (am_sh Ω) k = some c → am_ct (am_sh Ω') k = some c ∧ am_ad Ω' k = am_ad Ω k) ∧ (∀ k, k ∈ am_dom Ω' → k ∈ am_dom Ω ∨ z ≤ am_ad Ω' k) ∧ ∀ k N, am_ct (am_sh Ω') k = some (Sum.inr (5, N)) → am_ct (am_sh Ω) k = some (Sum.inr (5, N))
theorem am_G_mono {z' : Nat} (hG : am_G Ω Ω' z) (h : z' ≤ z) : am_G Ω Ω' z' := ⟨hG.1, hG.2.1, hG.2.2.1, hG.2.2.2.1, fun k hk => (hG.2.2.2.2.1 k hk).imp id (Nat.le_trans h), hG.2.2.2.2.2⟩
theorem am_G_Ae (hin : am_in Ω) (hG : am_G Ω Ω' z) {z0 : Nat} (hz : z0 ≤ z) : am_A Ω' z0 = am_A Ω z0 := by
  funext q
  apply propext
  constructor
  · rintro (⟨k, hk, rfl⟩ | h)
    · rcases hG.2.2.2.2.1 k hk with h | h
      · obtain ⟨c, hc, -⟩ := hin.2.1 k h
        exact Or.inl ⟨k, h, (hG.2.2.2.1 k c hc).2.symm⟩
      · exact Or.inr (Nat.le_trans hz h)
    · exact Or.inr h
  · rintro (⟨k, hk, rfl⟩ | h)
    · obtain ⟨c, hc, hc5⟩ := hin.2.1 k hk
      exact Or.inl ⟨k, hG.2.2.1.1 k c (hG.2.2.2.1 k c hc).1 hc5, (hG.2.2.2.1 k c hc).2⟩
    · exact Or.inr h
theorem am_Cx_G (hC : am_Cx Ω d m p e R s mid args meth c) (hG : am_G Ω Ω' z) (hz : s.heap.size ≤ z) : am_Cx Ω' d m p e R s mid args meth c := by
  obtain ⟨hf, hK, hrt, hlocks, hhd, hin, hR, htr, henv⟩ := hC
  have hA := am_G_Ae hin hG hz
  obtain ⟨gD, gca, gin, -⟩ := hG
  refine ⟨hf, ?_, hrt, hlocks, hhd, gin, hR, htr, ?_⟩
  · show va_K (am_D Ω') am_cl [(am_ca Ω' 0, .int), (am_ca Ω' 1, .boolean), (am_ca Ω' 2, .object am_nT), (am_ca Ω' 3, .long), (am_ca Ω' 4, .object am_nL)] s
    rw [gD, gca]
    exact hK
  · unfold am_env at henv ⊢
    rw [hA]
    exact henv
theorem am_lv_G {nL : Nat} {ls : Array Slot} (hl : am_lv Ω nL ls L) (h : ∀ (i : Nat) (v : am_V), L[i]? = some (some v) → am_c (am_ad Ω') v = am_c (am_ad Ω) v) : am_lv Ω' nL ls L := ⟨hl.1, hl.2.1, hl.2.2.1, hl.2.2.2.1, fun i v hv => by rw [h i v hv]; exact hl.2.2.2.2 i v hv⟩
theorem am_sc_G (hs : am_sc Ω M s) (hin : am_in Ω) (hG : am_G Ω Ω' z) (hz : s.heap.size ≤ z) (hM : ∀ k N, am_ct (am_sh Ω) k = some (Sum.inr (5, N)) → M' k = M k) : am_sc Ω' M' s := by
  intro k N hk
  have hk0 := hG.2.2.2.2.2 k N hk
  obtain ⟨g1, g2, g3⟩ := hs k N hk0
  rw [am_G_Ae hin hG hz, (hG.2.2.2.1 k _ hk0).2, hM k N hk0]
  exact ⟨g1, g2, g3⟩
/-- what a walk's end gives -/
def am_En (Ω : am_Ω) (b ms : Nat) (s t : State) : Prop := s.heap.size ≤ t.heap.size ∧ (∀ q : Nat, q < s.heap.size → ¬ am_A Ω s.heap.size q → t.heap[q]? = s.heap[q]?) ∧ s.WarmedH t.vm ∧ ∃ L : List Loc, s.sameButNew ({ t with vm := s.vm } : State) L b ms ∧ ∀ q ∈ L, am_A Ω s.heap.size q.base
theorem am_fin_re (X : Stand p l e R s mid args below meth c T locs cells slots) (hS : va_S (am_A Ω s.heap.size) s.heap T.heap locs) {o : am_O} {b b' ms' : Nat} {oc : Outcome} {t : State} (hQ : am_Q Ω o b (am_re T s mid args below) oc t) (hb : cells + b ≤ b') (hms : slots + 6 * b ≤ ms') : am_En Ω b' ms' s t := by
  obtain ⟨-, h2, h3, h4, ⟨L, h5, h6⟩, -⟩ := hQ
  refine ⟨Nat.le_trans hS.1 h2, fun q a1 a2 => ?_, State.WarmedH.trans am_re_w h4, locs ++ L, ?_, fun q hq => ?_⟩
  · exact (h3 q (Nat.lt_of_lt_of_le a1 hS.1) (fun z => a2 (am_A_mono hS.1 z))).trans (hS.2.1 q a1 a2)
  · obtain ⟨e1, e2⟩ := h5
    rw [State.setFrames_setFrames] at e1
    have h7 : (T.setVm s.vm).sameButNew ({ t with vm := s.vm } : State) L b (6 * b) := ⟨e1, e2⟩
    exact (X.same.trans h7).mono hb hms
  · rcases List.mem_append.mp hq with h | h
    · exact hS.2.2 q h
    · exact am_A_mono hS.1 (h6 q h)
def y_li : MethodName := ⟨"CacheLadder$Line", "<init>", "()V"⟩
/-- what making a tier needs beyond the tables' words -/
def am_tk (s : State) : Prop := va_AO am_nL s ∧ va_Nw (.methodLinkNest "CacheLadder$Tier" 38 y_li "CacheLadder") s
theorem am_tk_w {s U : State} (hW : s.WarmedH U.vm) (h : am_tk s) : am_tk U := ⟨va_AO.moved hW.alike h.1, va_Nw.warmM hW h.2⟩
/-- a callee that makes cells -/
def am_SG (l : Launch) (Ω : am_Ω) (d cal b ms : Nat) (M : am_M) (as : List am_V) (Post : am_Ω → am_M → Int32 → Prop) : Prop :=
  ∀ (p : Program) (e : Env) (R : Room) (s : State) (mid : MethodId) (args : Array Value) (below : List Frame) (meth : Method) (c : Code) (T : State), Stand p l e R s mid args below meth c T [] 0 0 → am_Cx Ω d cal p e R s mid args meth c → am_tk s → b ≤ R.cells → ms ≤ R.slots → T.heap = s.heap → args = (as.map (am_c (am_ad Ω))).toArray → va_P (am_D Ω) am_cl (am_w Ω M) s.heap → am_sc Ω M s →
    ∃ (t : State) (Ω' : am_Ω) (M' : am_M) (v : Int32), Steps p.tables e below (T.setTop (entryFrame mid args (am_mL cal))) t ∧ t.status = .running ∧ Ended t below (.returned (some (.int v))) ∧ am_G Ω Ω' s.heap.size ∧ Post Ω' M' v ∧ va_P (am_D Ω) am_cl (am_w Ω' M') t.heap ∧ am_En Ω b ms s t ∧ ∀ k N, am_ct (am_sh Ω) k = some (Sum.inr (5, N)) → M' k = M k
/-- where the caller stands behind it -/
def am_Bh (Ω : am_Ω) (p : Program) (l : Launch) (e : Env) (R : Room) (s : State) (mid : MethodId) (args : Array Value) (below : List Frame) (meth : Method) (c : Code) (cells slots : Nat) (M : am_M) (Post : am_Ω → am_M → Int32 → Prop) (T : State) (T' : State) (locs' : List Loc) (Ω' : am_Ω) (M' : am_M) (v : Int32) : Prop :=
  Stand p l e R s mid args below meth c T' locs' cells slots ∧ am_G Ω Ω' T.heap.size ∧ Post Ω' M' v ∧ va_P (am_D Ω) am_cl (am_w Ω' M') T'.heap ∧ va_S (am_A Ω s.heap.size) s.heap T'.heap locs' ∧ ∀ k N, am_ct (am_sh Ω) k = some (Sum.inr (5, N)) → M' k = M k
set_option maxHeartbeats 1000000 in
theorem am_coreG (X : Stand p l e R s mid args below meth c T locs cells slots) (hC : am_Cx Ω (d + 1) m p e R s mid args meth c) {cal b ms : Nat} {as : List am_V} {Post : am_Ω → am_M → Int32 → Prop} (htk : am_tk s) (hSd : am_SG l Ω d cal b ms M as Post) (hbm : am_bud cal ≤ b ∧ 6 * am_bud cal ≤ ms) (hP : va_P (am_D Ω) am_cl (am_w Ω M) T.heap) (hS : va_S (am_A Ω s.heap.size) s.heap T.heap locs) (hs : am_sc Ω M s) {mk : MethodId} (hn : s.methodNamed? (am_y cal) = some mk) {rest : List am_V} (hrest : rest.length ≤ 4) (hb1 : cells + b ≤ R.cells) (hb2 : slots + ms ≤ R.slots) {ls : Array Slot} (hls : ls.size = am_mL m) {i : Instr} (hd : decode (am_b m) pc = .ok (i, 3)) (hcp : am_CP cal) :
    ∃ (T' : State) (locs' : List Loc) (Ω' : am_Ω) (M' : am_M) (v : Int32), am_Bh Ω p l e R s mid args below meth c (cells + b) (slots + ms) M Post T T' locs' Ω' M' v ∧ ∀ (acts : List Action) (target : State), Steps p.tables e below (T'.setTop (F0 mid (pc + 3) ls (.int v :: rest.map (am_c (am_ad Ω))))) target → Steps p.tables e below (doInvoke e (T.setTop (F0 mid pc ls (rest.map (am_c (am_ad Ω))))) acts mk (as.map (am_c (am_ad Ω))).toArray).1 target := by
  obtain ⟨⟨hx, hb, hml, hown, hts⟩, hK, hrt, hlocks, hhd, hin, ⟨hR1, hR2, hR3, hR4⟩, htr⟩ := hC
  obtain ⟨mt, ck, hm1, hm2, hm3, hm4, hm5, hm6, hm7, hm8⟩ := am_callee hts hcp hn
  have hal := X.warmed.alike
  have hmT : T.vm.method? mk = some mt := by rw [hal.method?]; exact hm1
  have hnT : T.methodNamed? (am_y cal) = some mk := X.named hn
  have hpk : T.plainMethod mk := State.plainMethod.of_named hcp.1 hnT hmT
  have hcat := am_cats (ad := am_ad Ω) rest
  obtain ⟨X2, hinto⟩ := X.into (g := F0 mid pc ls (rest.map (am_c (am_ad Ω)))) rfl (by rw [hml]; exact hls) (by rw [hb]; exact hd) (mk := mk) (methk := mt) (ck := ck) (as.map (am_c (am_ad Ω))).toArray (R' := { frames := d + 8, cells := b, slots := ms, locals := 64 * d + 300 }) hmT hm2 hm6 hpk (by show d + 8 + 1 ≤ R.frames; omega) (by rw [hm4]; exact am_room1 (by show ((rest.map (am_c (am_ad Ω))).map fun v => v.category).sum ≤ 8; omega) hcp.2.1 hR2) (by show cells + b ≤ R.cells; omega) (by show slots + ms ≤ R.slots; omega)
  obtain ⟨t, Ω', M', v, hst, hrun, hend, hG, hPost, hQ1, ⟨hQ2, hQ3, hQ4, L', hQ5, hQ6⟩, hQ7⟩ := hSd p e _ (T.calling (F0 mid pc ls (rest.map (am_c (am_ad Ω)))) mk (as.map (am_c (am_ad Ω))).toArray) mk _ (.java (F0 mid pc ls (rest.map (am_c (am_ad Ω)))) :: below) mt ck _ X2
    ⟨⟨hx, hm3, hm4, findClass_of_methodNamed hnT, fun w hw => word_at (U := T.calling (F0 mid pc ls (rest.map (am_c (am_ad Ω)))) mk (as.map (am_c (am_ad Ω))).toArray) X.warmed (am_good w hw) (hts w hw)⟩, va_K.moved hal hK, hm5, hm6, hm7, hin, ⟨Nat.le_refl _, Nat.le_refl _, hbm.1, hbm.2⟩, htr.1, am_env_moved (U := T.calling (F0 mid pc ls (rest.map (am_c (am_ad Ω)))) mk (as.map (am_c (am_ad Ω))).toArray) htr.2 hS X.warmed⟩ (am_tk_w (U := T.calling (F0 mid pc ls (rest.map (am_c (am_ad Ω)))) mk (as.map (am_c (am_ad Ω))).toArray) X.warmed htk) (Nat.le_refl _) (Nat.le_refl _) rfl rfl hP (am_sc_in hs hS hal rfl)
  rw [← hm4] at hst
  have hz : (T.calling (F0 mid pc ls (rest.map (am_c (am_ad Ω)))) mk (as.map (am_c (am_ad Ω))).toArray).heap = T.heap := rfl
  rw [hz] at hQ2 hQ3 hQ6 hG
  have hS' : va_S (am_A Ω s.heap.size) s.heap t.heap (locs ++ L') := by
    refine ⟨Nat.le_trans hS.1 hQ2, fun q h1 h2 => ?_, fun q hq => ?_⟩
    · rw [hQ3 q (Nat.lt_of_lt_of_le h1 hS.1) (fun z => h2 (am_A_mono hS.1 z))]
      exact hS.2.1 q h1 h2
    · rcases List.mem_append.mp hq with h | h
      · exact hS.2.2 q h
      · exact am_A_mono hS.1 (hQ6 q h)
  obtain ⟨T', X', -, -, ht⟩ := X.outOf (g := F0 mid pc ls (rest.map (am_c (am_ad Ω)))) rfl (by rw [hb]; exact hd) hend hQ4 hQ5
  have hh : T'.heap = t.heap := by rw [ht]; rfl
  refine ⟨T', locs ++ L', Ω', M', v, ⟨X', hG, hPost, by rw [hh]; exact hQ1, by rw [hh]; exact hS', hQ7⟩, fun acts target hrest => ?_⟩
  rw [hinto acts]
  exact (am_weaken (mid := [.java (F0 mid pc ls (rest.map (am_c (am_ad Ω))))]) hst).trans (by rw [ht]; exact hrest)
set_option maxHeartbeats 1000000 in
theorem am_callGS (X : Stand p l e R s mid args below meth c T locs cells slots) (hC : am_Cx Ω (d + 1) m p e R s mid args meth c) {idx cal k b ms : Nat} {Post : am_Ω → am_M → Int32 → Prop} (hd : decode (am_b m) pc = .ok (.invokestatic idx, 3)) (hml : am_ml m idx = some (cal, k, 0)) (hk1 : k ≤ S.length) (hk2 : S.length ≤ k + 4) (htk : am_tk s) (hSd : am_SG l Ω d cal b ms M (S.take k).reverse Post) (hbm : am_bud cal ≤ b ∧ 6 * am_bud cal ≤ ms) (hb1 : cells + b ≤ R.cells) (hb2 : slots + ms ≤ R.slots) (hP : va_P (am_D Ω) am_cl (am_w Ω M) T.heap) (hS : va_S (am_A Ω s.heap.size) s.heap T.heap locs) (hs : am_sc Ω M s) {ls : Array Slot} (hls : ls.size = am_mL m) :
    ∃ (T' : State) (locs' : List Loc) (Ω' : am_Ω) (M' : am_M) (v : Int32), am_Bh Ω p l e R s mid args below meth c (cells + b) (slots + ms) M Post T T' locs' Ω' M' v ∧ ∀ (target : State), Steps p.tables e below (T'.setTop (F0 mid (pc + 3) ls (.int v :: (S.drop k).map (am_c (am_ad Ω))))) target → Steps p.tables e below (T.setTop (F0 mid pc ls (S.map (am_c (am_ad Ω))))) target := by
  obtain ⟨hcp, hlk, ⟨-, hst, hpn⟩ | ⟨h01, -⟩⟩ := am_fact_m hml
  · obtain ⟨⟨hx, hb, hmL, hown, hts⟩, hrest⟩ := hC
    obtain ⟨mk, hnamed⟩ : ∃ mk, s.methodNamed? (am_y cal) = some mk := by
      obtain ⟨-, -, -, -, ⟨-, hw⟩ | hw⟩ := hcp
      · exact Cond.code_named (hts _ hw)
      · obtain ⟨mk, -, -, hn, -⟩ := Cond.codeWith_spec (hts _ hw)
        exact ⟨mk, hn⟩
    obtain ⟨mt, ck, hm1, hm2, hm3, hm4, hm5, hm6, hm7, hm8⟩ := am_callee hts hcp hnamed
    have hstatic : mt.isStatic = true := Cond.static_spec hnamed hm1 (hts _ hst)
    obtain ⟨kP, hkP, -⟩ := className_of_methodNamed hnamed
    have hinitP : kP.init = .initialized := Cond.initialized_spec (findClass_of_methodNamed hnamed) hkP (hts _ hcp.2.2.1)
    have hlen : ((S.take k).reverse.map (am_c (am_ad Ω))).length = mt.sig.parameters.length := by
      rw [am_len_of hpn hm8]
      simp [hk1]
    have hstk : S.map (am_c (am_ad Ω)) = ((S.take k).reverse.map (am_c (am_ad Ω))).reverse ++ (S.drop k).map (am_c (am_ad Ω)) := by
      rw [List.map_reverse, List.reverse_reverse, ← List.map_append, List.take_append_drop]
    obtain ⟨vm', X1, hstep⟩ := X.invokestatic hx hown (hts _ hlk) hnamed hm1 hstatic hkP hinitP hcp.2.2.2.1 (g := F0 mid pc ls (S.map (am_c (am_ad Ω)))) rfl (argsL := (S.take k).reverse.map (am_c (am_ad Ω))) (rest := (S.drop k).map (am_c (am_ad Ω))) hlen hstk (by rw [hb]; exact hd)
    obtain ⟨T', locs', Ω', M', v, hBh, hG⟩ := am_coreG X1 ⟨⟨hx, hb, hmL, hown, hts⟩, hrest⟩ htk hSd hbm hP hS hs hnamed (rest := S.drop k) (by simp; omega) hb1 hb2 hls hd hcp
    exact ⟨T', locs', Ω', M', v, hBh, fun target h => hstep target (fun acts => hG acts target h)⟩
  · cases h01
set_option maxHeartbeats 1000000 in
theorem am_callGV (X : Stand p l e R s mid args below meth c T locs cells slots) (hC : am_Cx Ω (d + 1) m p e R s mid args meth c) {idx cal k b ms : Nat} {Post : am_Ω → am_M → Int32 → Prop} (hd : decode (am_b m) pc = .ok (.invokevirtual idx, 3)) (hml : am_ml m idx = some (cal, k, 1)) (hk1 : k ≤ S.length) (hk2 : S.length ≤ k + 4) (hrcv : am_rcv (am_sh Ω) cal (S.take k).reverse = true) (htk : am_tk s) (hSd : am_SG l Ω d cal b ms M (S.take k).reverse Post) (hbm : am_bud cal ≤ b ∧ 6 * am_bud cal ≤ ms) (hb1 : cells + b ≤ R.cells) (hb2 : slots + ms ≤ R.slots) (hP : va_P (am_D Ω) am_cl (am_w Ω M) T.heap) (hS : va_S (am_A Ω s.heap.size) s.heap T.heap locs) (hs : am_sc Ω M s) {ls : Array Slot} (hls : ls.size = am_mL m) :
    ∃ (T' : State) (locs' : List Loc) (Ω' : am_Ω) (M' : am_M) (v : Int32), am_Bh Ω p l e R s mid args below meth c (cells + b) (slots + ms) M Post T T' locs' Ω' M' v ∧ ∀ (target : State), Steps p.tables e below (T'.setTop (F0 mid (pc + 3) ls (.int v :: (S.drop k).map (am_c (am_ad Ω))))) target → Steps p.tables e below (T.setTop (F0 mid pc ls (S.map (am_c (am_ad Ω))))) target := by
  obtain ⟨hcp, hlk, ⟨h01, -⟩ | ⟨-, hin, hsel, ⟨TT, NN, hcl⟩, hpn⟩⟩ := am_fact_m hml
  · cases h01
  · obtain ⟨⟨hx, hb, hmL, hown, hts⟩, hK, hrest⟩ := hC
    obtain ⟨kb, as', has, hct⟩ := am_rcv_inv hrcv
    have hin0 : am_in Ω := hrest.2.2.2.1
    obtain ⟨q0, hq, hw0⟩ := am_w_get M (hin0.1 kb _ hct (fun N h => by cases h))
    rw [am_e_obj hct] at hw0
    obtain ⟨cellB, hcB, hoB, hclB⟩ := va_recv hK hP hcl hw0
    obtain ⟨mk, methM, hnamed, hmethM, hstM, habM⟩ := Cond.instanceMethod_spec (hts _ hin)
    obtain ⟨mt, ck, hm1, hm2, hm3, hm4, hm5, hm6, hm7, hm8⟩ := am_callee hts hcp hnamed
    cases hmethM.symm.trans hm1
    obtain ⟨c2, r2, m2, q1, q2, q3, q4, kP, hkP, hkPi⟩ := Cond.selects_spec (hts _ hsel)
    cases hclB.symm.trans q1
    cases (State.methodFound?_of_named hnamed hcp.2.2.2.1).symm.trans q2
    cases hnamed.symm.trans q3
    have hselP : selectMethod e.platform s.vm cellB.cls mk = .method mk := by rw [Launch.admits_selectMethod X.admits]; exact q4
    have hk : k = as'.length + 1 := by
      have h1 := congrArg List.length has
      simp only [List.length_reverse, List.length_take, List.length_cons] at h1
      omega
    have hlen : (as'.map (am_c (am_ad Ω))).length = methM.sig.parameters.length := by
      have := am_len_of hpn hm8
      rw [List.length_map]
      omega
    have hstk : S.map (am_c (am_ad Ω)) = (as'.map (am_c (am_ad Ω))).reverse ++ Value.ref (am_ad Ω kb) :: (S.drop k).map (am_c (am_ad Ω)) := by
      have h1 : S.take k = as'.reverse ++ [am_R (some kb)] := by
        have h2 := congrArg List.reverse has
        rw [List.reverse_reverse, List.reverse_cons] at h2
        exact h2
      conv => lhs; rw [← List.take_append_drop k S, h1]
      simp only [List.map_append, List.map_reverse, List.map_cons, List.map_nil, List.append_assoc, List.cons_append, List.nil_append]
      rfl
    have harg : ((S.take k).reverse.map (am_c (am_ad Ω))).toArray = (Value.ref (am_ad Ω kb) :: as'.map (am_c (am_ad Ω))).toArray := by
      rw [has]
      rfl
    obtain ⟨vm', X1, hstep⟩ := X.invokevirtual hx hown (hts _ hlk) hnamed hmethM hstM hkP hkPi hcp.2.2.2.1 (a := am_ad Ω kb) (cell := cellB) hcB
      (fun z h => by rw [h] at hoB; cases hoB) hselP hmethM habM hkP hkPi (g := F0 mid pc ls (S.map (am_c (am_ad Ω)))) rfl (argsL := as'.map (am_c (am_ad Ω))) (rest := (S.drop k).map (am_c (am_ad Ω))) hlen hstk (by rw [hb]; exact hd)
    obtain ⟨T', locs', Ω', M', v, hBh, hG⟩ := am_coreG X1 ⟨⟨hx, hb, hmL, hown, hts⟩, hK, hrest⟩ htk hSd hbm hP hS hs hnamed (rest := S.drop k) (by simp; omega) hb1 hb2 hls hd hcp
    rw [harg] at hG
    exact ⟨T', locs', Ω', M', v, hBh, fun target h => hstep target (fun acts => hG acts target h)⟩
end XB
