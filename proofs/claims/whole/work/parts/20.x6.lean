-- the making of a tier, whole
section XF
set_option maxHeartbeats 4000000 in
set_option maxRecDepth 100000 in
theorem c_ti (l : Launch) (D : va_G) (tys : List (ClassId × FieldType)) (cI cL : ClassId) (h0 : tys[0]? = some (cI, .int)) (h4 : tys[4]? = some (cL, .object am_nL)) (a sz Z Wy : Nat) (x3 x4 x5 : Int32) (hz : zok Z Wy) (h5 : x5 = 0 ∨ x5 = 1) : Met l y_ti (Cond.code y_ti b_ti 7 none :: am_ws) ({ frames := 2, cells := 131, slots := 790, locals := 32 }) (va_Pc [.ref a, .int (nI Z), .int (nI Wy), .int x3, .int x4, .int x5] (fun U => U.heap.size = sz ∧ va_P D am_cl [(a, .inr (1, [.int 0, .int 0, .int 0, .int 0, .int 0, .null, .null, .null, .int 0]))] U.heap ∧ va_K D am_cl tys U ∧ am_tk U)) (va_Qv (fun u : (Nat × Nat × Nat) × List (Nat × Nat) => u.2.length = Z * Wy) (fun u t => va_P D am_cl (tiw cI cL a u.1.1 u.1.2.1 (Z * Wy) (nI Z) (nI Wy) x3 x4 x5 (.ref u.1.2.2) u.2 ++ [(u.1.2.2, .inl (cI, Z, .inl (fun _ => 0)))]) t.heap ∧ va_D (va_A [(a, .inr (0, []))] sz) (tiw cI cL a u.1.1 u.1.2.1 (Z * Wy) (nI Z) (nI Wy) x3 x4 x5 (.ref u.1.2.2) u.2 ++ [(u.1.2.2, .inl (cI, Z, .inl (fun _ => 0)))])) (va_A [(a, .inr (0, []))] sz)) 131 790 (va_A [(a, .inr (0, []))] sz) := by
  have hzl : 1 ≤ Z ∧ Z ≤ 16 := by rcases hz.1 with h | h | h | h | h <;> omega
  have hNl : Z * Wy ≤ 64 := Nat.le_trans (Nat.mul_le_mul hzl.2 hz.2.2) (by decide)
  obtain ⟨N, hN⟩ : ∃ N, N = Z * Wy := ⟨_, rfl⟩
  rw [← hN] at hNl ⊢
  refine Met.ofW (cc := b_ti) (maxL := 7) (ret := none) (by decide) rfl ?_
  intro p e s m args below meth c s₁ B hml hv
  obtain ⟨rfl, hsz, hP, hK, htk⟩ := hv
  have hx := B.exec
  have hb := B.bytes
  have hr := B.returns
  have hts : ∀ w ∈ am_ws, w.before ([Value.ref a, .int (nI Z), .int (nI Wy), .int x3, .int x4, .int x5] : List Value).toArray s = true := fun w hw => atoms_spec (ws := Cond.code y_ti b_ti 7 none :: am_ws) B.pre w (List.mem_cons_of_mem _ hw)
  have hown : s.vm.findClass "CacheLadder$Tier" = some m.cls := findClass_of_methodNamed B.named
  have hlocks := B.notSynchronized
  have hin : meth.name = "<init>" := (name_of_methodNamed B.named B.method).1
  subst hsz
  generalize hAe : va_A [(a, .inr (0, []))] s.heap.size = A
  have hA : ∀ q : Nat, s.heap.size ≤ q → A q := fun q h => by rw [← hAe]; exact Or.inr h
  have hD : va_D A [(a, .inr (1, [.int 0, .int 0, .int 0, .int 0, .int 0, .null, .null, .null, .int 0]))] := va_D1 (by rw [← hAe]; exact Or.inl ⟨0, _, rfl⟩)
  have hS : va_S A s.heap s.heap [] := va_S.rf
  have hl := lv_entry ([.ref a, .int (nI Z), .int (nI Wy), .int x3, .int x4, .int x5]) (n := 7) (Nat.le_of_ble_eq_true rfl)
  rw [lg_entry_eq]
  generalize (lg_sl ([.ref a, .int (nI Z), .int (nI Wy), .int x3, .int x4, .int x5]) ++ List.replicate (7 - (lg_sl ([.ref a, .int (nI Z), .int (nI Wy), .int x3, .int x4, .int x5])).length) Slot.unset).toArray = ls at hl ⊢
  have hl : lv_has ls 7 [(0, .ref a), (1, .int (nI Z)), (2, .int (nI Wy)), (3, .int x3), (4, .int x4), (5, .int x5)] := hl
  refine lv_aload_n hx hb kd_ti_0 rfl (lv_at hl 0 rfl) ?_
  refine W.objInit hx hb hown (hts _ kw_236) (hts _ kw_20) (hts _ kw_21) rfl (by rw [hml]; exact hl.1) rfl kd_ti_1 (Nat.le_of_ble_eq_true rfl) (Nat.le_of_ble_eq_true rfl) ?_
  refine W.eq (g2 := F0 m 4 ls []) rfl ?_
  refine lv_aload_n hx hb kd_ti_4 rfl (lv_at hl 0 rfl) ?_
  refine lv_bipush (v := 6) hx hb kd_ti_5 (by decide) ?_
  refine va_newa (atype := .int) (ty := .int) (N' := 6) (a0 := (6, .inl (fun _ => 0))) hx hb (hts _ kw_49) rfl hK hP hD hS hA (fun _ => rfl) (by decide) (by decide) (by decide) (by decide) (by decide) kd_ti_7 (fun q8 cA H hK' hP hD hS => ?_)
  have hc := va_K_uq 0 hK' h0
  subst hc
  have hP : va_P D am_cl [(a, .inr (1, [.int 0, .int 0, .int 0, .int 0, .int 0, .null, .null, .null, .int 0])), (q8, .inl (cA, 6, .inl (fun _ => 0)))] H := hP
  have hD : va_D A [(a, .inr (1, [.int 0, .int 0, .int 0, .int 0, .int 0, .null, .null, .null, .int 0])), (q8, .inl (cA, 6, .inl (fun _ => 0)))] := hD
  refine va_putF (D := D) (ci := 1) (v := .ref q8) (ty := .array .int) (C := am_cn 1) (T := am_FTi) (N := 9) hx hb hts am_u_1 (am_T 1) am_y_1 am_n_1 hown hK hP hD hS 0 rfl rfl 7 (by decide) (hts _ kw_283) (fun _ h9 => h9) rfl hin rfl (by decide +kernel) rfl rfl (Nat.le_of_ble_eq_true rfl) kd_ti_9 (fun H locs hP hD hS => ?_)
  have hP : va_P D am_cl [(a, .inr (1, [.int 0, .int 0, .int 0, .int 0, .int 0, .null, .null, .ref q8, .int 0])), (q8, .inl (cA, 6, .inl (fun _ => 0)))] H := hP
  have hD : va_D A [(a, .inr (1, [.int 0, .int 0, .int 0, .int 0, .int 0, .null, .null, .ref q8, .int 0])), (q8, .inl (cA, 6, .inl (fun _ => 0)))] := hD
  refine lv_aload_n hx hb kd_ti_12 rfl (lv_at hl 0 rfl) ?_
  refine lv_iload_n hx hb kd_ti_13 rfl (lv_at hl 1 rfl) ?_
  refine va_putF (D := D) (ci := 1) (v := .int (nI Z)) (ty := .int) (C := am_cn 1) (T := am_FTi) (N := 9) hx hb hts am_u_1 (am_T 1) am_y_1 am_n_1 hown hK hP hD hS 0 rfl rfl 0 (by decide) (hts _ kw_271) (fun _ h9 => h9) rfl hin rfl (by decide +kernel) rfl rfl (Nat.le_of_ble_eq_true rfl) kd_ti_14 (fun H locs hP hD hS => ?_)
  have hP : va_P D am_cl [(a, .inr (1, [.int (nI Z), .int 0, .int 0, .int 0, .int 0, .null, .null, .ref q8, .int 0])), (q8, .inl (cA, 6, .inl (fun _ => 0)))] H := hP
  have hD : va_D A [(a, .inr (1, [.int (nI Z), .int 0, .int 0, .int 0, .int 0, .null, .null, .ref q8, .int 0])), (q8, .inl (cA, 6, .inl (fun _ => 0)))] := hD
  refine lv_aload_n hx hb kd_ti_17 rfl (lv_at hl 0 rfl) ?_
  refine lv_iload_n hx hb kd_ti_18 rfl (lv_at hl 2 rfl) ?_
  refine va_putF (D := D) (ci := 1) (v := .int (nI Wy)) (ty := .int) (C := am_cn 1) (T := am_FTi) (N := 9) hx hb hts am_u_1 (am_T 1) am_y_1 am_n_1 hown hK hP hD hS 0 rfl rfl 1 (by decide) (hts _ kw_273) (fun _ h9 => h9) rfl hin rfl (by decide +kernel) rfl rfl (Nat.le_of_ble_eq_true rfl) kd_ti_19 (fun H locs hP hD hS => ?_)
  have hP : va_P D am_cl [(a, .inr (1, [.int (nI Z), .int (nI Wy), .int 0, .int 0, .int 0, .null, .null, .ref q8, .int 0])), (q8, .inl (cA, 6, .inl (fun _ => 0)))] H := hP
  have hD : va_D A [(a, .inr (1, [.int (nI Z), .int (nI Wy), .int 0, .int 0, .int 0, .null, .null, .ref q8, .int 0])), (q8, .inl (cA, 6, .inl (fun _ => 0)))] := hD
  refine lv_aload_n hx hb kd_ti_22 rfl (lv_at hl 0 rfl) ?_
  refine lv_iload_n hx hb kd_ti_23 rfl (lv_at hl 3 rfl) ?_
  refine va_putF (D := D) (ci := 1) (v := .int x3) (ty := .int) (C := am_cn 1) (T := am_FTi) (N := 9) hx hb hts am_u_1 (am_T 1) am_y_1 am_n_1 hown hK hP hD hS 0 rfl rfl 2 (by decide) (hts _ kw_275) (fun _ h9 => h9) rfl hin rfl (by decide +kernel) rfl rfl (Nat.le_of_ble_eq_true rfl) kd_ti_24 (fun H locs hP hD hS => ?_)
  have hP : va_P D am_cl [(a, .inr (1, [.int (nI Z), .int (nI Wy), .int x3, .int 0, .int 0, .null, .null, .ref q8, .int 0])), (q8, .inl (cA, 6, .inl (fun _ => 0)))] H := hP
  have hD : va_D A [(a, .inr (1, [.int (nI Z), .int (nI Wy), .int x3, .int 0, .int 0, .null, .null, .ref q8, .int 0])), (q8, .inl (cA, 6, .inl (fun _ => 0)))] := hD
  refine lv_aload_n hx hb kd_ti_27 rfl (lv_at hl 0 rfl) ?_
  refine lv_iload hx hb kd_ti_28 (lv_at hl 4 rfl) ?_
  refine va_putF (D := D) (ci := 1) (v := .int x4) (ty := .int) (C := am_cn 1) (T := am_FTi) (N := 9) hx hb hts am_u_1 (am_T 1) am_y_1 am_n_1 hown hK hP hD hS 0 rfl rfl 3 (by decide) (hts _ kw_276) (fun _ h9 => h9) rfl hin rfl (by decide +kernel) rfl rfl (Nat.le_of_ble_eq_true rfl) kd_ti_30 (fun H locs hP hD hS => ?_)
  have hP : va_P D am_cl [(a, .inr (1, [.int (nI Z), .int (nI Wy), .int x3, .int x4, .int 0, .null, .null, .ref q8, .int 0])), (q8, .inl (cA, 6, .inl (fun _ => 0)))] H := hP
  have hD : va_D A [(a, .inr (1, [.int (nI Z), .int (nI Wy), .int x3, .int x4, .int 0, .null, .null, .ref q8, .int 0])), (q8, .inl (cA, 6, .inl (fun _ => 0)))] := hD
  refine lv_aload_n hx hb kd_ti_33 rfl (lv_at hl 0 rfl) ?_
  refine lv_iload hx hb kd_ti_34 (lv_at hl 5 rfl) ?_
  refine va_putF (D := D) (ci := 1) (v := .int x5) (ty := .boolean) (C := am_cn 1) (T := am_FTi) (N := 9) hx hb hts am_u_1 (am_T 1) am_y_1 am_n_1 hown hK hP hD hS 0 rfl rfl 4 (by decide) (hts _ kw_278) (fun _ h9 => h9) rfl hin rfl (by decide +kernel) (by rcases h5 with rfl | rfl <;> rfl) (by rcases h5 with rfl | rfl <;> rfl) (Nat.le_of_ble_eq_true rfl) kd_ti_36 (fun H locs hP hD hS => ?_)
  have hP : va_P D am_cl [(a, .inr (1, [.int (nI Z), .int (nI Wy), .int x3, .int x4, .int x5, .null, .null, .ref q8, .int 0])), (q8, .inl (cA, 6, .inl (fun _ => 0)))] H := hP
  have hD : va_D A [(a, .inr (1, [.int (nI Z), .int (nI Wy), .int x3, .int x4, .int x5, .null, .null, .ref q8, .int 0])), (q8, .inl (cA, 6, .inl (fun _ => 0)))] := hD
  refine lv_aload_n hx hb kd_ti_39 rfl (lv_at hl 0 rfl) ?_
  refine lv_iload_n hx hb kd_ti_40 rfl (lv_at hl 1 rfl) ?_
  refine lv_iload_n hx hb kd_ti_41 rfl (lv_at hl 2 rfl) ?_
  refine lv_imul hx hb kd_ti_42 ?_
  rw [show nI Z * nI Wy = nI N from by rw [hN, pk_mul]]
  have hc6 : 0 + 1 + 1 ≤ 131 := by decide
  have hs6 : 0 + 6 + N ≤ 790 := by omega
  refine va_newq (N' := N) (own := "CacheLadder$Tier") (C := am_nL) hx hb hown (hts _ kw_237) htk.1 hK hP hD hS hA (nI_pos (by omega)) (nI_clamp (by omega)) (by omega) hc6 hs6 kd_ti_43 (fun q6 cB H hK' hP hD hS => ?_)
  have hc := va_K_uq 4 hK' h4
  subst hc
  have hP : va_P D am_cl [(a, .inr (1, [.int (nI Z), .int (nI Wy), .int x3, .int x4, .int x5, .null, .null, .ref q8, .int 0])), (q8, .inl (cA, 6, .inl (fun _ => 0))), (q6, .inl (cB, N, .inr (.inr (.inr (.inr (fun _ => none))))))] H := hP
  have hD : va_D A [(a, .inr (1, [.int (nI Z), .int (nI Wy), .int x3, .int x4, .int x5, .null, .null, .ref q8, .int 0])), (q8, .inl (cA, 6, .inl (fun _ => 0))), (q6, .inl (cB, N, .inr (.inr (.inr (.inr (fun _ => none))))))] := hD
  refine va_putF (D := D) (ci := 1) (v := .ref q6) (ty := .array (.object am_nL)) (C := am_cn 1) (T := am_FTi) (N := 9) hx hb hts am_u_1 (am_T 1) am_y_1 am_n_1 hown hK hP hD hS 0 rfl rfl 5 (by decide) (hts _ kw_280) (fun _ h9 => h9) rfl hin rfl (by decide +kernel) rfl rfl (Nat.le_of_ble_eq_true rfl) kd_ti_46 (fun H locs hP hD hS => ?_)
  have hP : va_P D am_cl [(a, .inr (1, [.int (nI Z), .int (nI Wy), .int x3, .int x4, .int x5, .ref q6, .null, .ref q8, .int 0])), (q8, .inl (cA, 6, .inl (fun _ => 0))), (q6, .inl (cB, N, .inr (.inr (.inr (.inr (fun _ => none))))))] H := hP
  have hD : va_D A [(a, .inr (1, [.int (nI Z), .int (nI Wy), .int x3, .int x4, .int x5, .ref q6, .null, .ref q8, .int 0])), (q8, .inl (cA, 6, .inl (fun _ => 0))), (q6, .inl (cB, N, .inr (.inr (.inr (.inr (fun _ => none))))))] := hD
  refine lv_iconst (v := 0) hx hb kd_ti_49 (by decide) ?_
  refine lv_istore (lv' := [(6, .int 0), (0, .ref a), (1, .int (nI Z)), (2, .int (nI Wy)), (3, .int x3), (4, .int x4), (5, .int x5)]) hx hb kd_ti_50 hl (by decide) rfl (fun ls hl => ?_)
  have e0 : (fun _ => none : Nat → Option Nat) = lnf [] := by
    funext j
    rfl
  rw [e0] at hP hD
  refine ti_loop (R := (headSpec (Cond.code y_ti b_ti 7 none :: am_ws) { frames := 2, cells := 131, slots := 790, locals := 32 }).room) (x1 := nI Z) (x2 := nI Wy) (x3 := x3) (x4 := x4) (x5 := x5) (a := a) (q8 := q8) (q6 := q6) (N := N) hx hb hml hown hts hK h0 h4 htk (Nat.le_refl _) (Nat.le_refl _) (Nat.le_refl _) (Nat.le_refl _) hA hNl ?_ N [] H locs _ _ ls (by simp) (by simp) (by simp; omega) hP hD hS (lv_sub hl [0, 1, 2] rfl)
  intro ps H locs cells slots ls hlen hcl hsl hP hD hS hl
  have hc9 : cells + 1 ≤ 131 := by omega
  have hs9 : slots + Z ≤ 790 := by omega
  refine lv_aload_n hx hb kd_ti_82 rfl (lv_at hl 0 rfl) ?_
  refine lv_iload_n hx hb kd_ti_83 rfl (lv_at hl 1 rfl) ?_
  refine va_newa (atype := .int) (ty := .int) (N' := Z) (a0 := (Z, .inl (fun _ => 0))) hx hb (hts _ kw_49) rfl hK hP hD hS hA (fun _ => rfl) (nI_pos (by omega)) (nI_clamp (by omega)) (by show Z * 4 ≤ _; omega) hc9 hs9 kd_ti_84 (fun q7 cC H hK' hP hD hS => ?_)
  have hc := va_K_uq 0 hK' h0
  subst hc
  refine va_putF (D := D) (ci := 1) (v := .ref q7) (ty := .array .int) (C := am_cn 1) (T := am_FTi) (N := 9) hx hb hts am_u_1 (am_T 1) am_y_1 am_n_1 hown hK hP hD hS 0 rfl rfl 6 (by decide) (hts _ kw_282) (fun _ h9 => h9) rfl hin rfl (by decide +kernel) rfl rfl (Nat.le_of_ble_eq_true rfl) kd_ti_86 (fun H locs hP hD hS => ?_)
  refine W.widen (k := 131) (n := 790) hc9 hs9 ?_
  exact W.vret hx hb hr (fun t ht hW => ⟨⟨((q8, q6, q7), ps), rfl, hlen, by dsimp only; rw [ht]; exact ⟨hP, hD⟩⟩, hS.F ht⟩) hS.2.2 kd_ti_89
end XF
