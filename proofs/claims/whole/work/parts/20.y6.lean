-- what stands at the law's entry
section YG
variable {s : State} {args : Array Value} {Ω : am_Ω}
theorem tb_in {w : Cond} (i : Nat) (h : tables_1[i]? = some w) : w ∈ lw_tbl := List.mem_append_right _ (List.mem_of_getElem? h)
theorem ks_31 : Cond.stringRef "CacheLadder" 31 (am_tx 31) ∈ lw_tbl := tb_in 172 (by decide +kernel)
theorem ks_36 : Cond.stringRef "CacheLadder" 36 (am_tx 36) ∈ lw_tbl := tb_in 199 (by decide +kernel)
theorem ks_44 : Cond.stringRef "CacheLadder" 44 (am_tx 44) ∈ lw_tbl := tb_in 209 (by decide +kernel)
theorem ks_53 : Cond.stringRef "CacheLadder" 53 (am_tx 53) ∈ lw_tbl := tb_in 225 (by decide +kernel)
theorem ks_178 : Cond.stringRef "CacheLadder" 178 (am_tx 178) ∈ lw_tbl := tb_in 325 (by decide +kernel)
theorem ks_71 : Cond.stringRef "CacheLadder" 71 (am_tx 71) ∈ lw_tbl := tb_in 443 (by decide +kernel)
theorem ks_75 : Cond.stringRef "CacheLadder" 75 (am_tx 75) ∈ lw_tbl := tb_in 444 (by decide +kernel)
theorem ks_85 : Cond.stringRef "CacheLadder" 85 (am_tx 85) ∈ lw_tbl := tb_in 452 (by decide +kernel)
theorem ks_87 : Cond.stringRef "CacheLadder" 87 (am_tx 87) ∈ lw_tbl := tb_in 453 (by decide +kernel)
theorem ks_180 : Cond.stringRef "CacheLadder" 180 (am_tx 180) ∈ lw_tbl := tb_in 480 (by decide +kernel)
theorem ks_125 : Cond.stringRef "CacheLadder" 125 (am_tx 125) ∈ lw_tbl := tb_in 495 (by decide +kernel)
theorem ks_185 : Cond.stringRef "CacheLadder" 185 (am_tx 185) ∈ lw_tbl := tb_in 507 (by decide +kernel)
theorem ks_142 : Cond.stringRef "CacheLadder" 142 (am_tx 142) ∈ lw_tbl := tb_in 508 (by decide +kernel)
theorem ks_187 : Cond.stringRef "CacheLadder" 187 (am_tx 187) ∈ lw_tbl := tb_in 521 (by decide +kernel)
theorem kc_0 : Cond.castable (am_xn 0) (am_xn 0) ∈ lw_tbl := tb_in 132 (by decide +kernel)
theorem kc_1 : Cond.castable (am_xn 1) (am_xn 1) ∈ lw_tbl := tb_in 202 (by decide +kernel)
theorem kc_2 : Cond.castable (am_xn 2) (am_xn 2) ∈ lw_tbl := tb_in 218 (by decide +kernel)
theorem kc_3 : Cond.castable (am_xn 3) (am_xn 3) ∈ lw_tbl := tb_in 318 (by decide +kernel)
theorem kdc_0 : Cond.declares ⟨"java/lang/RuntimeException", "<init>", "(Ljava/lang/String;)V"⟩ ∈ lw_tbl := tb_in 134 (by decide +kernel)
theorem kdc_1 : Cond.declares ⟨"java/lang/Exception", "<init>", "(Ljava/lang/String;)V"⟩ ∈ lw_tbl := tb_in 136 (by decide +kernel)
theorem kdc_2 : Cond.declares ⟨"java/lang/Throwable", "<init>", "(Ljava/lang/String;)V"⟩ ∈ lw_tbl := tb_in 138 (by decide +kernel)
theorem kls_0 : Cond.laysStatic Bundle.tN "UNASSIGNED_STACK" Bundle.steD ∈ lw_tbl := tb_in 157 (by decide +kernel)
theorem kls_1 : Cond.laysStatic Bundle.tN "SUPPRESSED_SENTINEL" Bundle.listD ∈ lw_tbl := tb_in 159 (by decide +kernel)
theorem kin_t : Cond.initialized Bundle.tN ∈ lw_tbl := tb_in 4 (by decide +kernel)
theorem law_env (hts0 : ∀ w ∈ lw_tbl, w.before args s = true) (hgv : (Jvm.Cond.and given_1 narrow_1).before args s = true) {d2 : ClassId} (hcl : s.vm.findClass "CacheLadder" = some d2) (hA : ∀ q, am_A Ω s.heap.size q → s.heap.size ≤ q) : am_env Ω s := by
  have hf := flat_of_before _ hgv
  have hA' : ∀ a : Nat, a < s.heap.size → ¬ am_A Ω s.heap.size a := fun a h q => absurd (hA a q) (by omega)
  have hst : ∀ (k : Nat), Cond.stringRef "CacheLadder" k (am_tx k) ∈ lw_tbl → ∃ a, vk_R (am_cn 2) k (am_tx k) a s := fun k hk => by
    obtain ⟨-, -, -, sa, -, -, -, -, -, hev⟩ := Cond.stringRef_spec hcl (hts0 _ hk)
    exact ⟨sa, vk_R.of (hts0 _ hk) hev⟩
  refine ⟨fun q hq => ?_, vx_Zqof (hts0 _ kls_0) (hts0 _ kin_t) (hf _ (by decide +kernel)) hA', vx_Zqof (hts0 _ kls_1) (hts0 _ kin_t) (hf _ (by decide +kernel)) hA', fun t ht => ?_, fun x hx => ?_, fun y hy => ?_⟩
  · simp only [am_np, List.mem_cons, List.not_mem_nil, or_false] at hq
    rcases hq with rfl | rfl | rfl | rfl | rfl <;> exact va_Nc.of (hf _ (by decide +kernel))
  · simp only [am_tt, List.mem_cons, List.not_mem_nil, or_false] at ht
    rcases ht with rfl | rfl | rfl | rfl | rfl | rfl | rfl | rfl | rfl | rfl | rfl | rfl | rfl | rfl
    · exact hst 31 ks_31
    · exact hst 36 ks_36
    · exact hst 44 ks_44
    · exact hst 53 ks_53
    · exact hst 178 ks_178
    · exact hst 71 ks_71
    · exact hst 75 ks_75
    · exact hst 85 ks_85
    · exact hst 87 ks_87
    · exact hst 180 ks_180
    · exact hst 125 ks_125
    · exact hst 142 ks_142
    · exact hst 185 ks_185
    · exact hst 187 ks_187
  · rcases (show x = 0 ∨ x = 1 ∨ x = 2 ∨ x = 3 by omega) with rfl | rfl | rfl | rfl
    · exact va_Nw.of rfl (hts0 _ kc_0)
    · exact va_Nw.of rfl (hts0 _ kc_1)
    · exact va_Nw.of rfl (hts0 _ kc_2)
    · exact va_Nw.of rfl (hts0 _ kc_3)
  · simp only [am_od, List.mem_cons, List.not_mem_nil, or_false] at hy
    rcases hy with rfl | rfl | rfl
    · exact va_Nw.of rfl (hts0 _ kdc_0)
    · exact va_Nw.of rfl (hts0 _ kdc_1)
    · exact va_Nw.of rfl (hts0 _ kdc_2)
theorem kw_15 : Cond.instantiable "CacheLadder" 8 ∈ am_ws := am_in1 15 (by decide +kernel) (by decide +kernel)
theorem kw_545 : Cond.instantiable "CacheLadderModel" 31 ∈ am_ws := am_in1 545 (by decide +kernel) (by decide +kernel)
theorem kw_832 : Cond.arrayClass .long ∈ am_ws := am_in1 832 (by decide +kernel) (by decide +kernel)
theorem kao_2 : Cond.arrayOver (.object am_nT) ∈ lw_tbl := tb_in 23 (by decide +kernel)
theorem kao_4 : Cond.arrayOver (.object am_nL) ∈ lw_tbl := tb_in 238 (by decide +kernel)
theorem kmn : Cond.methodLinkNest "CacheLadder$Tier" 38 y_li "CacheLadder" ∈ lw_tbl := tb_in 240 (by decide +kernel)
theorem law_tk (hts0 : ∀ w ∈ lw_tbl, w.before args s = true) : am_tk s ∧ va_AO am_nT s := ⟨⟨va_AO.of (hts0 _ kao_4), va_Nw.of rfl (hts0 _ kmn)⟩, va_AO.of (hts0 _ kao_2)⟩
theorem k_arr {ty : FieldType} (hp : ∀ C, ty ≠ .object C) (h : (Cond.arrayClass ty).before args s = true) : ∃ cA, ArrOfT s cA ty ∧ va_RA s cA ty := by
  obtain ⟨cA, kA, comp, h1, h2, h3⟩ := Cond.arrayClass_spec h
  refine ⟨cA, fun n z => ⟨fun k h => (by cases h), kA, h2, comp, h3⟩, ?_⟩
  cases ty with
  | object C => exact absurd rfl (hp C)
  | _ => exact h1
theorem k_arq {C : String} (h : va_AO C s) : ∃ cA, ArrOfT s cA (.object C) ∧ va_RA s cA (.object C) := by
  obtain ⟨comp, cA, kA, h1, h2, h3, h4, h5⟩ := Cond.arrayOver_spec (va_AO.use (A := #[]) h)
  exact ⟨cA, fun n z => ⟨fun k h => (by cases h), kA, h3, comp, h4⟩, kA, comp, h3, h4, h1, h5⟩
theorem law_K (hts : ∀ w ∈ am_ws, w.before args s = true) (hT : va_AO am_nT s) (hL : va_AO am_nL s) : ∃ (D : va_G) (ca : Nat → ClassId), va_K D am_cl [(ca 0, .int), (ca 1, .boolean), (ca 2, .object am_nT), (ca 3, .long), (ca 4, .object am_nL)] s := by
  obtain ⟨d0, i0, hk0⟩ := u_known hts am_u_0 (hts _ kw_239)
  obtain ⟨d1, i1, hk1⟩ := u_known hts am_u_1 (hts _ kw_232)
  obtain ⟨d2, i2, hk2⟩ := u_known hts am_u_2 (hts _ kw_15)
  obtain ⟨d3, i3, hk3⟩ := u_known hts am_u_3 (hts _ kw_545)
  obtain ⟨c0, h0⟩ := k_arr (fun C h => by cases h) (hts _ kw_49)
  obtain ⟨c1, h1⟩ := k_arr (fun C h => by cases h) (hts _ kw_644)
  obtain ⟨c2, h2⟩ := k_arq hT
  obtain ⟨c3, h3⟩ := k_arr (fun C h => by cases h) (hts _ kw_832)
  obtain ⟨c4, h4⟩ := k_arq hL
  refine ⟨(fun c => match c with
    | 0 => d0
    | 1 => d1
    | 2 => d2
    | _ => d3, fun c => match c with
    | 0 => i0
    | 1 => i1
    | 2 => i2
    | _ => i3), fun k => match k with
    | 0 => c0
    | 1 => c1
    | 2 => c2
    | 3 => c3
    | _ => c4, fun c q hq => ?_, fun k q hq => ?_⟩
  · have hl : c < 4 := (List.getElem?_eq_some_iff.mp hq).1
    rcases (show c = 0 ∨ c = 1 ∨ c = 2 ∨ c = 3 by omega) with rfl | rfl | rfl | rfl
    · cases hq; exact hk0
    · cases hq; exact hk1
    · cases hq; exact hk2
    · cases hq; exact hk3
  · have hl : k < 5 := (List.getElem?_eq_some_iff.mp hq).1
    rcases (show k = 0 ∨ k = 1 ∨ k = 2 ∨ k = 3 ∨ k = 4 by omega) with rfl | rfl | rfl | rfl | rfl
    · cases hq; exact h0
    · cases hq; exact h1
    · cases hq; exact h2
    · cases hq; exact h3
    · cases hq; exact h4
end YG
