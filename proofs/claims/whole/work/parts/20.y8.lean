section YI
def R_law : String := "CacheLadderLaw"
def lw_P (b : Addr) (xs : List Int32) (args : Array Value) (s : State) : Prop := args = #[.ref b] ∧ s.IntsAt b xs ∧ xs.length ≤ 3072 ∧ (Jvm.Cond.and given_1 narrow_1).before args s = true
def lw_Q (_ : Array Value) (s : State) (o : Outcome) (t : State) : Prop := o = .returned (some (.int 1)) ∧ Framed s o t [] 601024 7293034
def lw_Z (below : List Frame) (a : Array Value) (s : State) : State → Prop := fun t => ∃ o, t.status = .running ∧ Ended t below o ∧ lw_Q a s o t
/-- the law's own end, with 1 on the stack, nothing written that was there before, its room as the claim has it -/
theorem lw_ret {p : Program} {l : Launch} {e : Env} {s : State} {m : MethodId} {below : List Frame} {meth : Method} {c : Code} {b : Nat} (hx : p.tables.exec = Jvm.exec) (hb : c.code = code) (hr : meth.sig.returnType = ret) (hlocks : meth.locks = false) {pc : Nat} {H : Heap} {ls : Array Slot} (hdg : decode code pc = .ok (.ireturn, 1)) : W p l e room_1 s m #[Value.ref b] below meth c H [] 601024 7293034 (lw_Z below #[Value.ref b] s) (F0 m pc ls [.int 1]) := by
  intro T hT X
  obtain ⟨fs, hret, hrun, hended, hW, hframe⟩ := X.leave (v := some (.int 1)) (hlocks := hlocks) (fun h => by rw [hr] at h; cases h)
  have hmeth' : T.vm.method? m = some meth := X.method'
  refine ⟨T.setFrames fs, ?_, .returned (some (.int 1)), hrun, hended, rfl, ⟨_, rfl⟩, hW, hframe⟩
  jvm_step X.here [X.here.top, hx, hb, hdg, hmeth', hr, ret, narrow_b1]
  (try refine ⟨rfl, ?_⟩); (try refine ⟨rfl, ?_⟩)
  first | (intro acts; rw [hret _ acts rfl rfl rfl]) | rw [hret _ _ rfl rfl rfl]
  exact Steps.refl _
/-- what holds at the law's entry: the machine, the code, the tables' words (any of lw_tbl by 'hts w (by decide +kernel)'), the script of L ints xs at the cell b, what the Statement gives of the start (any of its parts by flat_of_before) -/
def lw_At (p : Program) (s : State) (m : MethodId) (meth : Method) (c : Code) (b L : Nat) (xs : Nat → Int32) : Prop :=
  p.tables.exec = Jvm.exec ∧ c.code = code ∧ meth.sig.returnType = ret ∧ c.maxLocals = 7 ∧ s.vm.findClass R_law = some m.cls ∧ (∀ w ∈ lw_tbl, w.before #[Value.ref b] s = true) ∧ va_X b L xs s s.heap ∧ b < s.heap.size ∧ meth.locks = false ∧ (Jvm.Cond.and given_1 narrow_1).before #[Value.ref b] s = true
theorem kd_lw_0 : decode code 0 = .ok (.new 8, 3) := by decide +kernel
theorem kd_lw_3 : decode code 3 = .ok (.dup, 1) := by decide +kernel
theorem kd_lw_4 : decode code 4 = .ok (.invokespecial 65, 3) := by decide +kernel
theorem kd_lw_7 : decode code 7 = .ok (.astore_n 1, 1) := by decide +kernel
theorem kd_lw_8 : decode code 8 = .ok (.new 66, 3) := by decide +kernel
theorem kd_lw_11 : decode code 11 = .ok (.dup, 1) := by decide +kernel
theorem kd_lw_12 : decode code 12 = .ok (.invokespecial 68, 3) := by decide +kernel
theorem kd_lw_15 : decode code 15 = .ok (.astore_n 2, 1) := by decide +kernel
theorem kd_lw_16 : decode code 16 = .ok (.iconst 1, 1) := by decide +kernel
theorem kd_lw_17 : decode code 17 = .ok (.newarray .long, 2) := by decide +kernel
theorem kd_lw_19 : decode code 19 = .ok (.astore_n 3, 1) := by decide +kernel
theorem kd_lw_20 : decode code 20 = .ok (.iconst 0, 1) := by decide +kernel
theorem kd_lw_21 : decode code 21 = .ok (.istore 4, 2) := by decide +kernel
theorem kd_lw_1166 : decode code 1166 = .ok (.iconst 1, 1) := by decide +kernel
theorem kd_lw_1167 : decode code 1167 = .ok (.ireturn, 1) := by decide +kernel
theorem kw_14 : Cond.classLink "CacheLadderLaw" 8 "CacheLadder" ∈ am_ws := am_in1 14 (by decide +kernel) (by decide +kernel)
theorem kw_16 : Cond.methodLink "CacheLadderLaw" 65 y_cl ∈ am_ws := am_in1 16 (by decide +kernel) (by decide +kernel)
theorem kw_17 : Cond.instanceMethod y_cl ∈ am_ws := am_in1 17 (by decide +kernel) (by decide +kernel)
theorem kw_544 : Cond.classLink "CacheLadderLaw" 66 "CacheLadderModel" ∈ am_ws := am_in1 544 (by decide +kernel) (by decide +kernel)
theorem kw_546 : Cond.methodLink "CacheLadderLaw" 68 y_mo ∈ am_ws := am_in1 546 (by decide +kernel) (by decide +kernel)
theorem kw_547 : Cond.instanceMethod y_mo ∈ am_ws := am_in1 547 (by decide +kernel) (by decide +kernel)
theorem k_A1 {q sz z : Nat} (hz : va_A [(q, .inr (0, []))] sz z) : z = q ∨ sz ≤ z := by
  rcases hz with ⟨j, e9, hz⟩ | hz
  · have h1 : j < 1 := (List.getElem?_eq_some_iff.mp hz).1
    rw [show j = 0 by omega] at hz
    cases hz
    exact Or.inl rfl
  · exact Or.inr hz
set_option maxHeartbeats 8000000 in
set_option maxRecDepth 100000 in
theorem whole_start {p : Program} {e : Env} {s : State} {m : MethodId} {below : List Frame} {meth : Method} {c : Code} (l : Launch) (hfl : l.flags = flags0) {b L : Nat} {xs : Nat → Int32} (hL : L ≤ 3072) (htab : c.exceptionTable.toList = []) (C0 : lw_At p s m meth c b L xs) : W p l e room_1 s m #[Value.ref b] below meth c s.heap [] 0 0 (lw_Z below #[Value.ref b] s) (entryFrame m ([Value.ref b] : List Value).toArray 7) := by
  obtain ⟨hx, hb, hr, hml, hown, hts0, hX, hbl, hlocks, hgv⟩ := C0
  have hts : ∀ w ∈ am_ws, w.before #[Value.ref b] s = true := fun w hw => hts0 w (am_ws_in hw)
  obtain ⟨htk, hao⟩ := law_tk hts0
  obtain ⟨D, ca, hK⟩ := law_K hts hao htk.1
  have hcl : s.vm.findClass "CacheLadder" = some (D.1 2) := (hK.1 2 _ rfl).2.1
  have hown' : s.vm.findClass "CacheLadderLaw" = some m.cls := hown
  obtain ⟨A, hAd⟩ : ∃ A : Nat → Prop, A = fun q => s.heap.size ≤ q := ⟨_, rfl⟩
  have hA : ∀ q, s.heap.size ≤ q → A q := fun q h => by rw [hAd]; exact h
  have hA' : ∀ q, A q → s.heap.size ≤ q := fun q h => by rw [hAd] at h; exact h
  have hP0 : va_P D am_cl [] s.heap := fun k q h => by simp at h
  have hD0 : va_D A [] := ⟨fun i j p q hi => by simp at hi, fun k q h => by simp at h⟩
  have hS0 : va_S A s.heap s.heap [] := va_S.rf
  have hl := lv_entry ([.ref b]) (n := 7) (Nat.le_of_ble_eq_true rfl)
  rw [lg_entry_eq]
  generalize (lg_sl ([.ref b]) ++ List.replicate (7 - (lg_sl ([.ref b])).length) Slot.unset).toArray = ls at hl ⊢
  have hl : lv_has ls 7 [(0, .ref b)] := hl
  refine va_new (ci := 2) (fs := [.null, .null, .null, .null, .int 0, .int 0, .int 0, .int 0]) (C := am_cn 2) (T := am_FCL) (N := 8) hx hb hts am_u_2 (am_T 2) am_y_2 hown' (hts _ kw_14) (hts _ kw_15) (hts _ am_i_2) hK hP0 hD0 hS0 hA rfl (fun j hj => by rcases (show j = 0 ∨ j = 1 ∨ j = 2 ∨ j = 3 ∨ j = 4 ∨ j = 5 ∨ j = 6 ∨ j = 7 by omega) with rfl | rfl | rfl | rfl | rfl | rfl | rfl | rfl <;> rfl) (by decide) (by decide) kd_lw_0 (fun qc H1 hP1 hD1 hS1 => ?_)
  have hP1 : va_P D am_cl [(qc, .inr (2, [.null, .null, .null, .null, .int 0, .int 0, .int 0, .int 0]))] H1 := hP1
  have hD1 : va_D A [(qc, .inr (2, [.null, .null, .null, .null, .int 0, .int 0, .int 0, .int 0]))] := hD1
  refine lv_dup hx hb kd_lw_3 rfl ?_
  have hF1 : ∀ z, va_A [(qc, .inr (0, []))] H1.size z → A z := fun z hz => by
    rcases k_A1 hz with rfl | h
    · exact hD1.2 0 _ rfl
    · exact hA z (Nat.le_trans hS1.1 h)
  refine va_callv (va_runI (n := 0) (As := []) (rest := [.ref qc]) ⟨hx, hb, hml, hown', hts⟩ (c_cl l D _ (ca 0) (ca 2) rfl rfl qc H1.size) ⟨⟨rfl, rfl, (by decide), (by decide), k_hws hts kw_cl, List.mem_cons_self, hts _ kw_cl, hts _ am_i_2, ⟨by decide, by decide⟩, k_par (by decide +kernel), hts _ kw_16⟩, rfl, hts _ kw_17⟩ ⟨fun a9 U g mk q9 => by obtain ⟨q0, q1, qP, qK, qt⟩ := q9; exact ⟨q0, q1, qP, va_K.moved (u := U) (U := U.calling g mk a9) (Vm.Alike.refl U.vm) qK, va_AO.moved (u := U) (U := U.calling g mk a9) (Vm.Alike.refl U.vm) qt⟩, fun U hU hW => ⟨rfl, by rw [hU], by rw [hU]; exact hP1, va_K.moved hW.alike hK, va_AO.moved hW.alike hao⟩⟩ rfl rfl hl.1 rfl (lv_room (Nat.le_of_ble_eq_true rfl)) kd_lw_4 ⟨by decide, by decide⟩) hS1 (fun z _ h => hF1 z h) hF1 (fun u t H2 locs2 ht2 hvm _ hB hz1 hk1 hS2 => ?_)
  obtain ⟨q1, q2, q3, q4⟩ := u
  obtain ⟨hB1, hB2⟩ := hB
  rw [ht2] at hB1
  have hP2 : va_P D am_cl (w5 ca qc q1 q2 q3 q4) H2 := hB1
  have hD2 : va_D A (w5 ca qc q1 q2 q3 q4) := hB2.weaken (fun k q _ h => hF1 q.1 h)
  refine lv_astore_n (lv' := [(1, .ref qc), (0, .ref b)]) hx hb kd_lw_7 rfl hl (by decide) rfl (fun ls hl => ?_)
  refine va_new (ci := 3) (fs := [.int 0, .int 0, .int 0, .null, .null, .null, .null, .null, .null, .null, .null, .null, .null, .null, .null, .null, .null, .int 0, .null, .int 0, .int 0, .null, .null, .int 0, .null, .null, .null, .null, .null, .null, .null]) (C := am_cn 3) (T := am_FMo) (N := 31) hx hb hts am_u_3 (am_T 3) am_y_3 hown' (hts _ kw_544) (hts _ kw_545) (hts _ am_i_3) hK hP2 hD2 hS2 hA rfl (fun j hj => by rcases (show j = 0 ∨ j = 1 ∨ j = 2 ∨ j = 3 ∨ j = 4 ∨ j = 5 ∨ j = 6 ∨ j = 7 ∨ j = 8 ∨ j = 9 ∨ j = 10 ∨ j = 11 ∨ j = 12 ∨ j = 13 ∨ j = 14 ∨ j = 15 ∨ j = 16 ∨ j = 17 ∨ j = 18 ∨ j = 19 ∨ j = 20 ∨ j = 21 ∨ j = 22 ∨ j = 23 ∨ j = 24 ∨ j = 25 ∨ j = 26 ∨ j = 27 ∨ j = 28 ∨ j = 29 ∨ j = 30 by omega) with rfl | rfl | rfl | rfl | rfl | rfl | rfl | rfl | rfl | rfl | rfl | rfl | rfl | rfl | rfl | rfl | rfl | rfl | rfl | rfl | rfl | rfl | rfl | rfl | rfl | rfl | rfl | rfl | rfl | rfl | rfl <;> rfl) (by decide) (by decide) kd_lw_8 (fun qm H3 hP3 hD3 hS3 => ?_)
  refine lv_dup hx hb kd_lw_11 rfl ?_
  have hqi : (w5 ca qc q1 q2 q3 q4 ++ ([(qm, .inr (3, [.int 0, .int 0, .int 0, .null, .null, .null, .null, .null, .null, .null, .null, .null, .null, .null, .null, .null, .null, .int 0, .null, .int 0, .int 0, .null, .null, .int 0, .null, .null, .null, .null, .null, .null, .null]))] : va_W))[5]? = some (qm, .inr (3, [.int 0, .int 0, .int 0, .null, .null, .null, .null, .null, .null, .null, .null, .null, .null, .null, .null, .null, .null, .int 0, .null, .int 0, .int 0, .null, .null, .int 0, .null, .null, .null, .null, .null, .null, .null])) := rfl
  have hPl : va_P D am_cl [(qm, .inr (3, [.int 0, .int 0, .int 0, .null, .null, .null, .null, .null, .null, .null, .null, .null, .null, .null, .null, .null, .null, .int 0, .null, .int 0, .int 0, .null, .null, .int 0, .null, .null, .null, .null, .null, .null, .null]))] H3 := fun j x hj => by
    have h1 : j < 1 := (List.getElem?_eq_some_iff.mp hj).1
    rw [show j = 0 by omega] at hj
    cases hj
    exact hP3 _ _ hqi
  have hF3 : ∀ z, va_A [(qm, .inr (0, []))] H3.size z → A z := fun z hz => by
    rcases k_A1 hz with rfl | h
    · exact hD3.2 5 _ hqi
    · exact hA z (Nat.le_trans hS3.1 h)
  have hold : ∀ (j : Nat) (x : Nat × va_E), (w5 ca qc q1 q2 q3 q4)[j]? = some x → (w5 ca qc q1 q2 q3 q4 ++ ([(qm, .inr (3, [.int 0, .int 0, .int 0, .null, .null, .null, .null, .null, .null, .null, .null, .null, .null, .null, .null, .null, .null, .int 0, .null, .int 0, .int 0, .null, .null, .int 0, .null, .null, .null, .null, .null, .null, .null]))] : va_W))[j]? = some x ∧ x.1 < H3.size ∧ ¬ x.1 = qm := fun j x hj => by
    have hjl : j < (w5 ca qc q1 q2 q3 q4).length := (List.getElem?_eq_some_iff.mp hj).1
    have hj5 : j < 5 := hjl
    have hj2 : (w5 ca qc q1 q2 q3 q4 ++ ([(qm, .inr (3, [.int 0, .int 0, .int 0, .null, .null, .null, .null, .null, .null, .null, .null, .null, .null, .null, .null, .null, .null, .int 0, .null, .int 0, .int 0, .null, .null, .int 0, .null, .null, .null, .null, .null, .null, .null]))] : va_W))[j]? = some x := by rw [List.getElem?_append_left hjl]; exact hj
    refine ⟨hj2, (hP3 j x hj2).lt, fun eq => ?_⟩
    have := hD3.1 j 5 x _ hj2 hqi eq
    omega
  refine va_callv (va_runI (n := 0) (As := []) (rest := [.ref qm]) ⟨hx, hb, hml, hown', hts⟩ (c_mo l D _ (ca 0) (ca 1) rfl rfl qm H3.size) ⟨⟨rfl, rfl, (by decide), (by decide), k_hws hts kw_mo, List.mem_cons_self, hts _ kw_mo, hts _ am_i_3, ⟨by decide, by decide⟩, k_par (by decide +kernel), hts _ kw_546⟩, rfl, hts _ kw_547⟩ ⟨fun a9 U g mk q9 => by obtain ⟨q0, q1, qP, qK⟩ := q9; exact ⟨q0, q1, qP, va_K.moved (u := U) (U := U.calling g mk a9) (Vm.Alike.refl U.vm) qK⟩, fun U hU hW => ⟨rfl, by rw [hU], by rw [hU]; exact hPl, va_K.moved hW.alike hK⟩⟩ rfl rfl hl.1 rfl (lv_room (Nat.le_of_ble_eq_true rfl)) kd_lw_12 ⟨by decide, by decide⟩) hS3 (fun z _ h => hF3 z h) hF3 (fun q t4 H4 locs4 ht4 hvm4 _ hB4 hz4 hk4 hS4 => ?_)
  obtain ⟨hB41, hB42⟩ := hB4
  rw [ht4] at hB41
  have hP4 : va_P D am_cl (w5 ca qc q1 q2 q3 q4 ++ mow (ca 0) (ca 1) qm q (mbl 256)) H4 := by
    refine va_P.app (va_P.kept (fun j x hj => hP3 j x (hold j x hj).1) (fun j x hj => ?_)) hB41
    obtain ⟨-, o1, o2⟩ := hold j x hj
    refine hk4 x.1 o1 (fun hz => ?_)
    rcases k_A1 hz with h | h
    · exact o2 h
    · omega
  have hD4 : va_D A (w5 ca qc q1 q2 q3 q4 ++ mow (ca 0) (ca 1) qm q (mbl 256)) := by
    refine va_D.app hD2 (hB42.weaken (fun k x _ h => hF3 x.1 h)) (fun i j x y hx hy hxy => ?_)
    obtain ⟨-, o1, o2⟩ := hold i x hx
    rcases k_A1 (hB42.2 j y hy) with h | h
    · exact o2 (hxy.trans h)
    · omega
  refine lv_astore_n (lv' := [(2, .ref qm), (1, .ref qc), (0, .ref b)]) hx hb kd_lw_15 rfl hl (by decide) rfl (fun ls hl => ?_)
  refine lv_iconst (v := 1) hx hb kd_lw_16 (by decide) ?_
  refine va_newa (atype := .long) (ty := .long) (N' := 1) (a0 := (1, .inr (.inl (fun _ => 0)))) hx hb (hts _ kw_832) rfl hK hP4 hD4 hS4 hA (fun _ => rfl) (by decide) (by decide) (by decide) (by decide) (by decide) kd_lw_17 (fun qo cN H5 hK' hP5 hD5 hS5 => ?_)
  have hcN : cN = ca 3 := va_K_uq 3 hK' rfl
  rw [hcN] at hP5 hD5
  refine lv_astore_n (lv' := [(3, .ref qo), (2, .ref qm), (1, .ref qc), (0, .ref b)]) hx hb kd_lw_19 rfl hl (by decide) rfl (fun ls hl => ?_)
  refine lv_iconst (v := 0) hx hb kd_lw_20 (by decide) ?_
  refine lv_istore (lv' := [(4, .int 0), (3, .ref qo), (2, .ref qm), (1, .ref qc), (0, .ref b)]) hx hb kd_lw_21 hl (by decide) rfl (fun ls hl => ?_)
  have hPw : va_P D am_cl (am_w (w0 L b qc q1 q2 q3 q4 qm qo q D ca) (w0M xs)) H5 := by rw [w0_w]; exact hP5
  have hDw : va_D A (am_w (w0 L b qc q1 q2 q3 q4 qm qo q D ca) (w0M xs)) := by rw [w0_w]; exact hD5
  have hbA : ¬ A b := fun h => absurd (hA' b h) (by omega)
  have hin := w0_in hDw hbA
  have hdom : ∀ k, k ∈ am_dom (w0 L b qc q1 q2 q3 q4 qm qo q D ca) → s.heap.size ≤ am_ad (w0 L b qc q1 q2 q3 q4 qm qo q D ca) k := fun k hk => by
    obtain ⟨i, -, i2⟩ := am_w_get (Ω := (w0 L b qc q1 q2 q3 q4 qm qo q D ca)) (w0M xs) hk
    exact hA' _ (hDw.2 i _ i2)
  have hAA : ∀ q9, am_A (w0 L b qc q1 q2 q3 q4 qm qo q D ca) s.heap.size q9 → s.heap.size ≤ q9 := fun q9 h => by
    rcases h with ⟨k, hk, rfl⟩ | h
    · exact hdom k hk
    · exact h
  have hSw : ∀ locs5, va_S A s.heap H5 locs5 → va_S (am_A (w0 L b qc q1 q2 q3 q4 qm qo q D ca) s.heap.size) s.heap H5 locs5 := fun locs5 h => ⟨h.1, fun q9 h1 h2 => h.2.1 q9 h1 (fun a9 => h2 (Or.inr (hA' q9 a9))), fun q9 hq => Or.inr (hA' _ (h.2.2 q9 hq))⟩
  have hsc : am_sc (w0 L b qc q1 q2 q3 q4 qm qo q D ca) (w0M xs) s := fun k N hk => by
    have ek := scr0 hk
    subst ek
    have hN : L = N := by
      have h1 : some (Sum.inr (5, L)) = some (Sum.inr (5, N)) := hk
      simpa using h1
    subst hN
    exact ⟨hX, hbl, fun h => absurd (hAA b h) (by omega)⟩
  have hlv : am_lv (w0 L b qc q1 q2 q3 q4 qm qo q D ca) (am_mL 121) ls (lwL (6 * 0) none none) := by
    refine ⟨hl.1, rfl, hl.2.1, fun i v hv => ?_, fun i v hv => ?_⟩
    · rcases i with _ | _ | _ | _ | _ | _ | _ | i <;> cases hv <;> rfl
    · rcases i with _ | _ | _ | _ | _ | _ | _ | i
      · cases hv; exact lv_at hl 4 rfl
      · cases hv; exact lv_at hl 3 rfl
      · cases hv; exact lv_at hl 2 rfl
      · cases hv; exact lv_at hl 1 rfl
      · cases hv; exact lv_at hl 0 rfl
      · cases hv
      · cases hv
      · cases hv
  intro T hT XX
  subst hT
  have htr : e.platform.stackTraces = false := by
    rw [XX.admits.platform]
    show l.stackTraces = false
    unfold Launch.stackTraces
    rw [hfl]
    decide +kernel
  have hC : am_Cx (w0 L b qc q1 q2 q3 q4 qm qo q D ca) 61 121 p e room_1 s m #[Value.ref b] meth c := ⟨⟨hx, hb, hml, hown, hts⟩, hK, hr, hlocks, by rw [htab]; rfl, hin, ⟨by decide, by decide, by rw [b121]; decide, by rw [b121]; decide⟩, htr, law_env hts0 hgv hcl hAA⟩
  refine law_loop (R := room_1) (by decide) (by decide) htk (len := L) (c0 := 100) (s0 := 10000) hL (by decide) (by decide) (fun T' locs' cells' slots' ls' X' g1 g2 g3 => ?_) (L + 1) 0 (w0 L b qc q1 q2 q3 q4 qm qo q D ca) (w0M xs) 0 T _ _ _ ls (by omega) (by omega) XX hC rfl w0_shk w0_Jn w0_prs (by omega) (by decide) (by decide) hlv hPw (hSw _ hS5) hsc hdom
  have hw : W p l e room_1 s m #[Value.ref b] below meth c T'.heap locs' cells' slots' (lw_Z below #[Value.ref b] s) (F0 m 1166 ls' []) := by
    refine va_forget g3 ?_
    refine W.widen (k := 601024) (n := 7293034) (by omega) (by omega) ?_
    refine lv_iconst (v := 1) hx hb kd_lw_1166 (by decide) ?_
    exact lw_ret hx hb hr hlocks kd_lw_1167
  exact hw T' rfl X'
end YI
