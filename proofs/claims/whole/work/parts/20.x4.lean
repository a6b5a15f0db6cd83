-- the making of a line
section XD
abbrev b_li : ByteArray := prog_2_method_1_code
theorem kw_li : Cond.code y_li b_li 1 none ∈ am_ws := am_in1 242 (by decide +kernel) (by decide +kernel)
theorem kw_20 : Cond.instanceMethod objectInit ∈ am_ws := am_in1 20 (by decide +kernel) (by decide +kernel)
theorem kw_21 : Cond.code objectInit ⟨#[0xb1]⟩ 1 none ∈ am_ws := am_in1 21 (by decide +kernel) (by decide +kernel)
theorem kw_49 : Cond.arrayClass .int ∈ am_ws := am_in1 49 (by decide +kernel) (by decide +kernel)
theorem kw_243 : Cond.methodLink "CacheLadder$Line" 3 objectInit ∈ am_ws := am_in1 243 (by decide +kernel) (by decide +kernel)
theorem kw_244 : Cond.fieldLink "CacheLadder$Line" 9 "CacheLadder$Line" "words" "[I" ∈ am_ws := am_in1 244 (by decide +kernel) (by decide +kernel)
theorem kw_246 : Cond.fieldLink "CacheLadder$Line" 15 "CacheLadder$Line" "block" "I" ∈ am_ws := am_in1 246 (by decide +kernel) (by decide +kernel)
theorem kd_li_0 : decode b_li 0 = .ok (.aload_n 0, 1) := by decide +kernel
theorem kd_li_1 : decode b_li 1 = .ok (.invokespecial 3, 3) := by decide +kernel
theorem kd_li_4 : decode b_li 4 = .ok (.aload_n 0, 1) := by decide +kernel
theorem kd_li_5 : decode b_li 5 = .ok (.iconst 4, 1) := by decide +kernel
theorem kd_li_6 : decode b_li 6 = .ok (.newarray .int, 2) := by decide +kernel
theorem kd_li_8 : decode b_li 8 = .ok (.putfield 9, 3) := by decide +kernel
theorem kd_li_11 : decode b_li 11 = .ok (.aload_n 0, 1) := by decide +kernel
theorem kd_li_12 : decode b_li 12 = .ok (.iconst (-1), 1) := by decide +kernel
theorem kd_li_13 : decode b_li 13 = .ok (.putfield 15, 3) := by decide +kernel
theorem kd_li_16 : decode b_li 16 = .ok (.return_, 1) := by decide +kernel
theorem va_K_uq {D : va_G} {cl : List vw_C} {tys : List (ClassId × FieldType)} {s : State} {cA cB : ClassId} {ty : FieldType} (k : Nat) (hK : va_K D cl (tys ++ [(cA, ty)]) s) (h : tys[k]? = some (cB, ty)) : cA = cB := by
  have hl : k < tys.length := (List.getElem?_eq_some_iff.mp h).1
  have h1 := (hK.2 tys.length (cA, ty) (by rw [List.getElem?_append_right (Nat.le_refl _)]; simp)).2
  have h2 := (hK.2 k (cB, ty) (by rw [List.getElem?_append_left hl]; exact h)).2
  cases ty with
  | object C =>
    obtain ⟨-, -, -, -, -, h1⟩ := h1
    obtain ⟨-, -, -, -, -, h2⟩ := h2
    exact Option.some.inj (h1.symm.trans h2)
  | _ => exact Option.some.inj ((h1 : s.vm.findClass _ = some cA).symm.trans h2)
theorem va_D1 {A : Nat → Prop} {a : Nat} {e : va_E} (h : A a) : va_D A [(a, e)] := by
  refine ⟨fun i j p q hi hj _ => ?_, fun k q hq => ?_⟩
  · have h1 : i < 1 := (List.getElem?_eq_some_iff.mp hi).1
    have h2 : j < 1 := (List.getElem?_eq_some_iff.mp hj).1
    omega
  · have h1 : k < 1 := (List.getElem?_eq_some_iff.mp hq).1
    rw [show k = 0 by omega] at hq
    cases hq
    exact h
set_option maxHeartbeats 4000000 in
set_option maxRecDepth 100000 in
theorem c_li (l : Launch) (D : va_G) (tys : List (ClassId × FieldType)) (cI : ClassId) (h0 : tys[0]? = some (cI, .int)) (a sz : Nat) : Met l y_li (Cond.code y_li b_li 1 none :: am_ws) ({ frames := 1, cells := 1, slots := 4, locals := 12 }) (va_Pc [.ref a] (fun U => U.heap.size = sz ∧ va_P D am_cl [(a, .inr (0, [.null, .int 0, .int 0, .int 0, .int 0, .int 0, .int 0]))] U.heap ∧ va_K D am_cl tys U)) (va_Qv (fun q : Nat => sz ≤ q) (fun q t => va_P D am_cl [(a, .inr (0, [.ref q, .int (-1), .int 0, .int 0, .int 0, .int 0, .int 0])), (q, .inl (cI, 4, .inl (fun _ => 0)))] t.heap) (va_A [(a, .inr (0, []))] sz)) 1 4 (va_A [(a, .inr (0, []))] sz) := by
  refine Met.ofW (cc := b_li) (maxL := 1) (ret := none) (by decide) rfl ?_
  intro p e s m args below meth c s₁ B hml hv
  obtain ⟨rfl, hsz, hP, hK⟩ := hv
  have hx := B.exec
  have hb := B.bytes
  have hr := B.returns
  have hts : ∀ w ∈ am_ws, w.before ([Value.ref a] : List Value).toArray s = true := fun w hw => atoms_spec (ws := Cond.code y_li b_li 1 none :: am_ws) B.pre w (List.mem_cons_of_mem _ hw)
  have hown : s.vm.findClass "CacheLadder$Line" = some m.cls := findClass_of_methodNamed B.named
  have hlocks := B.notSynchronized
  have hin : meth.name = "<init>" := (name_of_methodNamed B.named B.method).1
  subst hsz
  generalize hAe : va_A [(a, .inr (0, []))] s.heap.size = A
  have hA : ∀ q : Nat, s.heap.size ≤ q → A q := fun q h => by rw [← hAe]; exact Or.inr h
  have hAi : ∀ q : Nat, A q → q = a ∨ s.heap.size ≤ q := fun q h => by
    rw [← hAe] at h
    rcases h with ⟨k, e, h⟩ | h
    · have h1 : k < 1 := (List.getElem?_eq_some_iff.mp h).1
      rw [show k = 0 by omega] at h
      cases h
      exact Or.inl rfl
    · exact Or.inr h
  have hD : va_D A [(a, .inr (0, [.null, .int 0, .int 0, .int 0, .int 0, .int 0, .int 0]))] := va_D1 (by rw [← hAe]; exact Or.inl ⟨0, _, rfl⟩)
  have hS : va_S A s.heap s.heap [] := va_S.rf
  have hl := lv_entry ([.ref a]) (n := 1) (Nat.le_of_ble_eq_true rfl)
  rw [lg_entry_eq]
  generalize (lg_sl ([.ref a]) ++ List.replicate (1 - (lg_sl ([.ref a])).length) Slot.unset).toArray = ls at hl ⊢
  have hl : lv_has ls 1 [(0, .ref a)] := hl
  refine lv_aload_n hx hb kd_li_0 rfl (lv_at hl 0 rfl) ?_
  refine W.objInit hx hb hown (hts _ kw_243) (hts _ kw_20) (hts _ kw_21) rfl (by rw [hml]; exact hl.1) rfl kd_li_1 (Nat.le_of_ble_eq_true rfl) (Nat.le_of_ble_eq_true rfl) ?_
  refine W.eq (g2 := F0 m 4 ls []) rfl ?_
  refine lv_aload_n hx hb kd_li_4 rfl (lv_at hl 0 rfl) ?_
  refine lv_iconst (v := 4) hx hb kd_li_5 (by decide) ?_
  refine va_newa (atype := .int) (ty := .int) (N' := 4) (a0 := (4, .inl (fun _ => 0))) hx hb (hts _ kw_49) rfl hK hP hD hS hA (fun _ => rfl) (by decide) (by decide) (by decide) (by decide) (by decide) kd_li_6 (fun q cA H hK' hP hD hS => ?_)
  have hc := va_K_uq 0 hK' h0
  subst hc
  have hP : va_P D am_cl [(a, .inr (0, [.null, .int 0, .int 0, .int 0, .int 0, .int 0, .int 0])), (q, .inl (cA, 4, .inl (fun _ => 0)))] H := hP
  have hD : va_D A [(a, .inr (0, [.null, .int 0, .int 0, .int 0, .int 0, .int 0, .int 0])), (q, .inl (cA, 4, .inl (fun _ => 0)))] := hD
  have hq : s.heap.size ≤ q := (hAi q (hD.2 1 _ rfl)).resolve_left (fun e => absurd (hD.1 0 1 _ _ rfl rfl e.symm) (by decide))
  refine va_putF (D := D) (ci := 0) (v := .ref q) (ty := .array .int) (C := am_cn 0) (T := am_FLi) (N := 7) hx hb hts am_u_0 (am_T 0) am_y_0 am_n_0 hown hK hP hD hS 0 rfl rfl 0 (by decide) (hts _ kw_244) (fun _ h9 => h9) rfl hin rfl (by decide +kernel) rfl rfl (Nat.le_of_ble_eq_true rfl) kd_li_8 (fun H locs hP hD hS => ?_)
  have hP : va_P D am_cl [(a, .inr (0, [.ref q, .int 0, .int 0, .int 0, .int 0, .int 0, .int 0])), (q, .inl (cA, 4, .inl (fun _ => 0)))] H := hP
  have hD : va_D A [(a, .inr (0, [.ref q, .int 0, .int 0, .int 0, .int 0, .int 0, .int 0])), (q, .inl (cA, 4, .inl (fun _ => 0)))] := hD
  refine lv_aload_n hx hb kd_li_11 rfl (lv_at hl 0 rfl) ?_
  refine lv_iconst (v := -1) hx hb kd_li_12 (by decide) ?_
  refine va_put (D := D) (ci := 0) (v := .int (-1)) (ty := .int) (C := am_cn 0) (T := am_FLi) (N := 7) hx hb hts am_u_0 (am_T 0) am_y_0 am_n_0 hown hK hP hD hS 0 rfl rfl 1 (by decide) (hts _ kw_246) (fun _ h9 => h9) rfl (by decide +kernel) rfl rfl (Nat.le_of_ble_eq_true rfl) kd_li_13 (fun H locs hP hD hS => ?_)
  have hP : va_P D am_cl [(a, .inr (0, [.ref q, .int (-1), .int 0, .int 0, .int 0, .int 0, .int 0])), (q, .inl (cA, 4, .inl (fun _ => 0)))] H := hP
  exact W.vret hx hb hr (fun t ht hW => ⟨⟨q, rfl, hq, by dsimp only; rw [ht]; exact hP⟩, hS.F ht⟩) hS.2.2 kd_li_16
end XD
