-- an exception is caught
section CAT
variable {Ω : am_Ω} {d m : Nat} {p : Program} {l : Launch} {e : Env} {R : Room} {s : State} {mid : MethodId} {args : Array Value} {below : List Frame} {meth : Method} {c : Code} {Q : State → Prop} {pc len n : Nat} {L : am_Ls} {S : List am_V} {M : am_M} {σ : am_S}
theorem am_go1 {Q : Handler → Pre} {E : CtlPost} {b : Bool} {acts : List Action} {u : State} {f : JFrame} {a : Addr} {x : ExceptionTableEntry} {t : List ExceptionTableEntry} {k : ClassId} {cell : Cell} (hx : covers x f.pc = true) (h0 : x.catchType ≠ 0)
    (hl : u.vm.ClassLinks e.platform f.method.cls x.catchType k) (hcell : u.heap[a]? = some cell) (hobj : ∀ k, cell.vm ≠ .statics k) (hk : ∃ k, u.vm.classes[cell.cls]? = some k) (hc : ∃ q, u.vm.classes[k]? = some q) :
    wp (findHandler.go f a (x :: t)) Q E e b acts u ↔ (if u.vm.assignable cell.cls k = true then Q (.found x.handlerPc) b acts (u.setVm (u.vm.noted f.method.cls x.catchType (.cls k))) else wp (findHandler.go f a t) Q E e b acts (u.setVm (u.vm.noted f.method.cls x.catchType (.cls k)))) := by
  simp only [covers] at hx
  obtain ⟨ha, ht⟩ := (resolveClass_links e.toSetting hl).op (op := VmOp.resolveClass f.method.cls x.catchType) rfl
  have hal : u.vm.Alike (u.vm.noted f.method.cls x.catchType (.cls k)) := (Vm.Alike.refl u.vm).noted _ _ _
  obtain ⟨k1, hk1⟩ := hk
  obtain ⟨k2, hk2⟩ := hc
  obtain ⟨k1', hk1', -⟩ := hal.2.2 _ _ hk1
  obtain ⟨k2', hk2', -⟩ := hal.2.2 _ _ hk2
  have has : (u.vm.noted f.method.cls x.catchType (.cls k)).assignable cell.cls k = u.vm.assignable cell.cls k := by rw [hal.assignable]
  cases hfit : u.vm.assignable cell.cls k <;> rw [hfit] at has <;>
    simp [findHandler.go, hx, h0, ha, ht, hcell, hobj, hk1', hk2', has, VmOp.dirties, VmOp.acts]
/-- the search passes rows whose class the exception isn't of, and ends at a row whose class it is of; what it links on its way is a link that the tables have -/
theorem am_goes {own : String} {f : JFrame} {a : Addr} {cell : Cell} {E0 : String} (hown : s.vm.findClass own = some f.method.cls) (hpl : e.platform.magicAccessors = ({} : Platform).magicAccessors) (hobj : ∀ k, cell.vm ≠ .statics k) (hcl : s.vm.findClass E0 = some cell.cls) {x : ExceptionTableEntry} {rest : List ExceptionTableEntry} (hx : covers x f.pc = true) (h0 : x.catchType ≠ 0) {name : String} (hlink : (Cond.classLink own x.catchType name).before args s = true) (hcast : (Cond.castable E0 name).before args s = true) :
    ∀ (pre : List ExceptionTableEntry), (∀ y ∈ pre, covers y f.pc = true ∧ y.catchType ≠ 0 ∧ ∃ nm : String, (Cond.classLink own y.catchType nm).before args s = true ∧ va_Nc E0 nm s) → ∀ vm : Vm, s.WarmedH vm → ∃ vm', s.WarmedH vm' ∧ ∀ (u : State), u.vm = vm → u.heap[a]? = some cell → ∀ (Q : Handler → Pre) (E : CtlPost) (b : Bool) (acts : List Action), wp (findHandler.go f a (pre ++ x :: rest)) Q E e b acts u ↔ Q (.found x.handlerPc) b acts (u.setVm vm') := by
  obtain ⟨k0, hk0, -⟩ := Vm.findClass_spec hcl
  intro pre
  induction pre with
  | nil =>
    intro _ vm hW
    obtain ⟨c5, hc5, hcl5⟩ := Cond.classLink_spec hown hlink e.platform hpl
    obtain ⟨c3, c4, hc3, hc4, hasg⟩ := Cond.castable_spec hcast
    cases Option.some.inj (hc3.symm.trans hcl)
    cases Option.some.inj (hc4.symm.trans hc5)
    obtain ⟨dk, _, _, kt, hd, _, _, _, _, hkt, _, hopen⟩ := hcl5.here
    obtain ⟨kt', hkt', -⟩ := hW.alike.2.2 _ _ hkt
    obtain ⟨k0', hk0', -⟩ := hW.alike.2.2 _ _ hk0
    refine ⟨_, hW.noted hd hopen (State.rightAt_cls hcl5), fun u hu hcell Q E b acts => ?_⟩
    subst hu
    rw [List.nil_append, am_go1 hx h0 (hW.classLinks hcl5) hcell hobj ⟨k0', hk0'⟩ ⟨kt', hkt'⟩, if_pos (by rw [hW.alike.assignable]; exact hasg)]
  | cons y ys ih =>
    intro hp vm hW
    obtain ⟨hy, hy0, nm, hyl, a8, b8, h1, h2, h3⟩ := hp y List.mem_cons_self
    obtain ⟨c5, hc5, hcl5⟩ := Cond.classLink_spec hown hyl e.platform hpl
    cases Option.some.inj (h1.symm.trans hcl)
    cases Option.some.inj (h2.symm.trans hc5)
    obtain ⟨dk, _, _, kt, hd, _, _, _, _, hkt, _, hopen⟩ := hcl5.here
    obtain ⟨kt', hkt', -⟩ := hW.alike.2.2 _ _ hkt
    obtain ⟨k0', hk0', -⟩ := hW.alike.2.2 _ _ hk0
    obtain ⟨vm', hW', hgo⟩ := ih (fun z hz => hp z (List.mem_cons_of_mem _ hz)) _ (hW.noted hd hopen (State.rightAt_cls hcl5))
    refine ⟨vm', hW', fun u hu hcell Q E b acts => ?_⟩
    subst hu
    rw [List.cons_append, am_go1 hy hy0 (hW.classLinks hcl5) hcell hobj ⟨k0', hk0'⟩ ⟨kt', hkt'⟩, if_neg (by rw [hW.alike.assignable, h3]; decide)]
    exact hgo (u.setVm (u.vm.noted f.method.cls y.catchType (.cls b8))) rfl hcell Q E b acts
theorem am_catchTo {s : State} {a : Addr} {f : JFrame} {r : List Frame} {h : Nat} {vm' : Vm} (hfind : ∀ (Q : Handler → Pre) (E : CtlPost) (b : Bool) (acts : List Action), wp (findHandler f a) Q E e b acts s ↔ Q (.found h) b acts (s.setVm vm')) :
    (stepThrowing e s a (.java f :: r)).Is ((s.setVm vm').setFrames (.java { f with pc := h, stack := [.ref a] } :: r)) [] := by
  simp only [stepThrowing, searchFrame, vmDo]
  generalize hr : Sem.go _ e false [] s = res
  obtain ⟨as, rfl, ha⟩ := Sem.eq_ok_of hr (a := Handler.found h) (s' := s.setVm vm') (acts' := []) (by simp [hfind _ _ _ _])
  exact ⟨rfl, ha⟩
theorem am_caughtTo {tb : Tables} {s target : State} {g : JFrame} {a : Addr} (h : At s g.method c below) {hp : Nat} {vm' : Vm} (hfind : ∀ (Q : Handler → Pre) (E : CtlPost) (b : Bool) (acts : List Action), wp (findHandler g a) Q E e b acts ((s.setTop g).pushFrame (.throwing a)) ↔ Q (.found hp) b acts (((s.setTop g).pushFrame (.throwing a)).setVm vm'))
    (hrest : Steps tb e below ((s.setVm vm').setTop { g with pc := hp, stack := [.ref a] }) target) : Steps tb e below ((s.setTop g).pushFrame (.throwing a)) target := by
  obtain ⟨hgo, hw⟩ := h.throwing a
  refine Steps.head hgo hw ?_
  rw [stepThread_throwing (frames_entered h.top _), (am_catchTo (s := (s.setTop g).pushFrame (.throwing a)) hfind).1]
  obtain ⟨g₀, hg⟩ := Option.isSome_iff_exists.mp h.top
  obtain ⟨r, hr⟩ := State.topJava?_eq_some.mp hg
  have hr' : (s.setVm vm').frames = .java g₀ :: r := hr
  have hsw : ∀ (u : State) (F G : List Frame), ((u.setFrames F).setVm vm').setFrames G = (u.setVm vm').setFrames G := fun u F G => by
    have h1 : (u.setFrames F).setVm vm' = (u.setVm vm').setFrames F := rfl
    rw [h1, State.setFrames_setFrames]
  rw [State.setTop_of_frames _ hr'] at hrest
  rw [hr, List.tail_cons, State.pushFrame, hsw, State.setTop_of_frames _ hr, hsw]
  exact hrest
theorem am_caught {T : State} {locs : List Loc} {cells slots : Nat} (X : Stand p l e R s mid args below meth c T locs cells slots) (hC : am_Cx Ω d m p e R s mid args meth c) {x hp : Nat} (hh : am_hd m pc x = some (some hp)) {g : JFrame} (hg : g.method = mid) (hpc : g.pc = pc) {a : Addr} {ce : Cell} (hce : T.heap[a]? = some ce) (hcs : ce.vm.isStatics = false) (hcl : s.vm.findClass (am_xn x) = some ce.cls) :
    ∃ vm', Stand p l e R s mid args below meth c (T.setVm vm') locs cells slots ∧ ∀ target, Steps p.tables e below ((T.setVm vm').setTop { g with pc := hp, stack := [.ref a] }) target → Steps p.tables e below ((T.setTop g).pushFrame (.throwing a)) target := by
  obtain ⟨⟨hx, hb, hml, hown, hts⟩, hK, hrt, hlocks, hhd, hin, hR, htr, henv⟩ := hC
  obtain ⟨pre, post, s0, e0, ct, hsp, hs0, he0, hct, hlk, hx4, hpre⟩ := am_fact_h hh
  rw [hsp] at hhd
  obtain ⟨pre', q1, hq, hpre', hq1⟩ := List.map_eq_append_iff.mp hhd
  obtain ⟨y, post', hq2, hy, hpost'⟩ := List.map_eq_cons_iff.mp hq1
  subst hq2
  cases hy
  have hpl : e.platform.magicAccessors = ({} : Platform).magicAccessors := by rw [X.admits.platform]
  subst hg
  subst hpc
  obtain ⟨vm', hW', hgo⟩ := am_goes (e := e) (s := s) (args := args) (own := (am_y m).cls) (f := g) (a := a) (cell := ce) (E0 := am_xn x) hown hpl (VmData.ne_statics_of hcs) hcl (x := y) (rest := post') (by simp only [covers]; simp [hs0, he0]) hct (hts _ hlk) (va_Nw.use rfl (henv.2.2.2.2.1 x hx4)) pre' (fun z hz => by
    have hz' : (z.startPc, z.endPc, z.handlerPc, z.catchType) ∈ pre := by rw [← hpre']; exact List.mem_map_of_mem hz
    obtain ⟨z1, z2, z3, x', hx', hl'⟩ := hpre _ hz'
    exact ⟨by simp only [covers]; simp [z1, z2], z3, am_xn x', hts _ hl', henv.1 _ hx'⟩) T.vm X.warmed
  refine ⟨vm', X.noted hW', fun target h => am_caughtTo X.here (vm' := vm') (fun Q E b acts => ?_) h⟩
  rw [W.findHandler_eq (s := (T.setTop g).pushFrame (.throwing a)) (meth := meth) (code := c) X.method' X.code, hq]
  exact hgo ((T.setTop g).pushFrame (.throwing a)) rfl hce Q E b acts
end CAT
