-- tier(): a tier is made and laid down
section YB
theorem kw_22 : Cond.classLink "CacheLadder" 13 "CacheLadder$Tier" ∈ am_ws := am_in1 22 (by decide +kernel) (by decide +kernel)
theorem kw_232 : Cond.instantiable "CacheLadder$Tier" 9 ∈ am_ws := am_in1 232 (by decide +kernel) (by decide +kernel)
theorem kw_233 : Cond.methodLink "CacheLadder" 56 y_ti ∈ am_ws := am_in1 233 (by decide +kernel) (by decide +kernel)
theorem kw_234 : Cond.instanceMethod y_ti ∈ am_ws := am_in1 234 (by decide +kernel) (by decide +kernel)
theorem k_par {y : MethodName} {n : Nat} (h : (parseMethodDescriptor y.desc).map (fun d => d.parameters.length) = some n) : ∀ sig, parseMethodDescriptor y.desc = some sig → n = sig.parameters.length := fun sig q => by
  rw [q] at h
  exact (Option.some.inj h).symm
def am_GQ (Ω : am_Ω) (b ms : Nat) (M : am_M) (Post : am_Ω → am_M → Int32 → Prop) (below : List Frame) (s t : State) : Prop := ∃ (Ω' : am_Ω) (M' : am_M) (v : Int32), t.status = .running ∧ Ended t below (.returned (some (.int v))) ∧ am_G Ω Ω' s.heap.size ∧ Post Ω' M' v ∧ va_P (am_D Ω) am_cl (am_w Ω' M') t.heap ∧ am_En Ω b ms s t ∧ ∀ k N, am_ct (am_sh Ω) k = some (Sum.inr (5, N)) → M' k = M k
theorem b25 : am_bud 25 = 1 := by decide +kernel
theorem tg_scr {sh : am_Sh} {M : am_M} {h : Nat} {x1 x2 x3 x4 x5 : Int32} {k : am_K} {N : Nat} (hk : am_ct sh k = some (Sum.inr (5, N))) (hh : h = sh.1) : tgX M h x1 x2 x3 x4 x5 k = M k := by
  funext j
  subst hh
  by_cases e : k = (0, 0, 0)
  · subst e
    cases hk
  · rw [tgX_k e, tg_ct hk]
set_option maxHeartbeats 4000000 in
set_option maxRecDepth 100000 in
theorem tier_G (l : Launch) (Ω : am_Ω) {Z Wy d : Nat} {M : am_M} {x3 x4 x5 : Int32} (hz : zok Z Wy) (ht : tok (nI Z) (nI Wy) x3 x4) (h5 : x5 = 0 ∨ x5 = 1) (hh : (am_sh Ω).1 < 4) (h4 : M (0, 0, 0) 4 = nI (am_sh Ω).1) (h7 : M (0, 0, 0) 7 = 0) (hd : 2 ≤ d) : am_SG l Ω (d + 1) 25 133 806 M [clk, am_I (nI Z), am_I (nI Wy), am_I x3, am_I x4, am_I x5] (fun Ω' M' v => am_sh Ω' = shg (am_sh Ω) Z Wy ∧ M' = tgX M (am_sh Ω).1 (nI Z) (nI Wy) x3 x4 x5 ∧ v = nI (am_sh Ω).1) := by
  intro p e R s mid args below meth c T X hC htk hRc hRs hT hargs hP hs
  have hnl : ∀ v ∈ ([clk, am_I (nI Z), am_I (nI Wy), am_I x3, am_I x4, am_I x5] : List am_V), am_isL v = false := by
    intro v hv
    simp only [List.mem_cons, List.not_mem_nil, or_false] at hv
    rcases hv with rfl | rfl | rfl | rfl | rfl | rfl <;> rfl
  have hent := am_ent_lv (Ω := Ω) (m := 25) (as := [clk, am_I (nI Z), am_I (nI Wy), am_I x3, am_I x4, am_I x5]) (Nat.le_of_ble_eq_true rfl) hnl
  rw [hargs, am_ent_eq hnl]
  generalize ((([clk, am_I (nI Z), am_I (nI Wy), am_I x3, am_I x4, am_I x5] : List am_V).map (am_c (am_ad Ω))).map Slot.val ++ List.replicate (am_mL 25 - (([clk, am_I (nI Z), am_I (nI Wy), am_I x3, am_I x4, am_I x5] : List am_V).map (am_c (am_ad Ω))).length) Slot.unset).toArray = ls0 at hent ⊢
  have hent : am_lv Ω (am_mL 25) ls0 [some clk, some (am_I (nI Z)), some (am_I (nI Wy)), some (am_I x3), some (am_I x4), some (am_I x5)] := hent
  have hev : am_ev (am_sh Ω) (am_cr (am_sh Ω) d) 25 (0, [some clk, some (am_I (nI Z)), some (am_I (nI Wy)), some (am_I x3), some (am_I x4), some (am_I x5)], [], M, 0) (fun r => r = Sum.inl (100, [some clk, some (am_I (nI Z)), some (am_I (nI Wy)), some (am_I x3), some (am_I x4), some (am_I x5)], [am_I (nI (am_sh Ω).1), am_R (some (2, 0, 0))], M, 0)) := by
    refine tier_pre ht hd (sg_25_57 (fun _ => sg_25_75 (fun _ => sg_25_92 (am_ev_stop (by rw [h4]))) (fun q => absurd h7 q)) (fun q => absurd ?_ q))
    rw [h4]
    exact nI_lt (b := 4) hh (by decide)
  suffices hq : ∃ t, Steps p.tables e below (T.setTop (F0 mid 0 ls0 [])) t ∧ am_GQ Ω 133 806 M (fun Ω' M' v => am_sh Ω' = shg (am_sh Ω) Z Wy ∧ M' = tgX M (am_sh Ω).1 (nI Z) (nI Wy) x3 x4 x5 ∧ v = nI (am_sh Ω).1) below s t by
    obtain ⟨t, st, Ω', M', v, h⟩ := hq
    exact ⟨t, Ω', M', v, st, h⟩
  refine am_again (S := []) (n0 := 0) X hC (by rw [b25]; omega) (by rw [b25]; omega) hent (by rw [hT]; exact hP) (by rw [hT]; exact va_S.rf) hs hev ?_ (fun o ho => by cases ho)
  intro σ hσ T' locs' ls' X' hl' hP' hS' hs'
  cases hσ
  dsimp only at X' hl' hP' hS' hs' ⊢
  have hC0 := hC
  obtain ⟨⟨hx, hb, hml, hown, hts⟩, hK, hrt, hlocks, hhd, hin, ⟨hR1, hR2, -, -⟩, htr, henv⟩ := hC0
  have hown' : s.vm.findClass "CacheLadder" = some mid.cls := hown
  have hA : ∀ q, s.heap.size ≤ q → am_A Ω s.heap.size q := fun q h => Or.inr h
  have l1 : ls'[1]? = some (.val (.int (nI Z))) := hl'.2.2.2.2 1 (am_I (nI Z)) rfl
  have l2 : ls'[2]? = some (.val (.int (nI Wy))) := hl'.2.2.2.2 2 (am_I (nI Wy)) rfl
  have l3 : ls'[3]? = some (.val (.int x3)) := hl'.2.2.2.2 3 (am_I x3) rfl
  have l4 : ls'[4]? = some (.val (.int x4)) := hl'.2.2.2.2 4 (am_I x4) rfl
  have l5 : ls'[5]? = some (.val (.int x5)) := hl'.2.2.2.2 5 (am_I x5) rfl
  suffices hw : W p l e R s mid args below meth c T'.heap ([] ++ locs') (0 + 0) (0 + 6 * 0) (am_GQ Ω 133 806 M (fun Ω' M' v => am_sh Ω' = shg (am_sh Ω) Z Wy ∧ M' = tgX M (am_sh Ω).1 (nI Z) (nI Wy) x3 x4 x5 ∧ v = nI (am_sh Ω).1) below s) (F0 mid 100 ls' [.int (nI (am_sh Ω).1), .ref (am_ad Ω (2, 0, 0))]) from hw T' rfl X'
  refine va_new (ci := 1) (fs := [.int 0, .int 0, .int 0, .int 0, .int 0, .null, .null, .null, .int 0]) (C := am_cn 1) (T := am_FTi) (N := 9) hx hb hts am_u_1 (am_T 1) am_y_1 hown' (hts _ kw_22) (hts _ kw_232) (hts _ am_i_1) hK hP' (am_w_D M _ hin) hS' hA rfl (fun j hj => by rcases (show j = 0 ∨ j = 1 ∨ j = 2 ∨ j = 3 ∨ j = 4 ∨ j = 5 ∨ j = 6 ∨ j = 7 ∨ j = 8 by omega) with rfl | rfl | rfl | rfl | rfl | rfl | rfl | rfl | rfl <;> rfl) (by omega) (by omega) dd_25_100 (fun q H1 hP1 hD1 hS1 => ?_)
  refine lv_dup hx hb dd_25_103 rfl ?_
  refine lv_iload_n hx hb dd_25_104 rfl l1 ?_
  refine lv_iload_n hx hb dd_25_105 rfl l2 ?_
  refine lv_iload_n hx hb dd_25_106 rfl l3 ?_
  refine lv_iload hx hb dd_25_107 l4 ?_
  refine lv_iload hx hb dd_25_109 l5 ?_
  have hlt : ∀ (j : Nat) (x : Nat × va_E), (am_w Ω M ++ [(q, .inr (1, [.int 0, .int 0, .int 0, .int 0, .int 0, .null, .null, .null, .int 0]))])[j]? = some x → x.1 < H1.size := fun j x hx2 => (hP1 j x hx2).lt
  have hqi : (am_w Ω M ++ [(q, .inr (1, [.int 0, .int 0, .int 0, .int 0, .int 0, .null, .null, .null, .int 0]))])[(am_w Ω M).length]? = some (q, .inr (1, [.int 0, .int 0, .int 0, .int 0, .int 0, .null, .null, .null, .int 0])) := by
    rw [List.getElem?_append_right (Nat.le_refl _), Nat.sub_self]
    rfl
  have hAq : am_A Ω s.heap.size q := hD1.2 _ _ hqi
  have hPl : va_P (am_D Ω) am_cl [(q, .inr (1, [.int 0, .int 0, .int 0, .int 0, .int 0, .null, .null, .null, .int 0]))] H1 := fun j x hj => by
    have h1 : j < 1 := (List.getElem?_eq_some_iff.mp hj).1
    rw [show j = 0 by omega] at hj
    cases hj
    exact hP1 _ _ hqi
  have hF0 : ∀ z, va_A [(q, .inr (0, []))] H1.size z → z = q ∨ H1.size ≤ z := fun z hz => by
    rcases hz with ⟨j, e9, hz⟩ | hz
    · have h1 : j < 1 := (List.getElem?_eq_some_iff.mp hz).1
      rw [show j = 0 by omega] at hz
      cases hz
      exact Or.inl rfl
    · exact Or.inr hz
  have hF : ∀ z, va_A [(q, .inr (0, []))] H1.size z → am_A Ω s.heap.size z := fun z hz => by
    rcases hF0 z hz with rfl | hz
    · exact hAq
    · exact hA z (Nat.le_trans hS1.1 hz)
  have hold : ∀ (j : Nat) (x : Nat × va_E), (am_w Ω M)[j]? = some x → x.1 < H1.size ∧ ¬ x.1 = q := fun j x hj => by
    have hjl : j < (am_w Ω M).length := (List.getElem?_eq_some_iff.mp hj).1
    have hj2 : (am_w Ω M ++ [(q, .inr (1, [.int 0, .int 0, .int 0, .int 0, .int 0, .null, .null, .null, .int 0]))])[j]? = some x := by rw [List.getElem?_append_left hjl]; exact hj
    refine ⟨hlt j x hj2, fun eq => ?_⟩
    have := hD1.1 j _ x _ hj2 hqi eq
    omega
  refine va_callv (va_runI (n := 5) (As := [.int (nI Z), .int (nI Wy), .int x3, .int x4, .int x5]) (rest := [.ref q, .int (nI (am_sh Ω).1), .ref (am_ad Ω (2, 0, 0))]) ⟨hx, hb, hml, hown', hts⟩ (c_ti l (am_D Ω) (am_tys Ω) (am_ca Ω 0) (am_ca Ω 4) rfl rfl q H1.size Z Wy x3 x4 x5 hz h5) ⟨⟨rfl, rfl, (by show 2 + 1 ≤ R.frames; omega), (by show 8 + (7 + 11) + 32 ≤ R.locals; omega), k_hws hts kw_ti, List.mem_cons_self, hts _ kw_ti, hts _ am_i_1, ⟨by decide, by decide⟩, k_par (by decide +kernel), hts _ kw_233⟩, rfl, hts _ kw_234⟩ ⟨fun a9 U g mk q9 => by obtain ⟨q0, q1, qP, qK, qt⟩ := q9; exact ⟨q0, q1, qP, va_K.moved (u := U) (U := U.calling g mk a9) (Vm.Alike.refl U.vm) qK, am_tk_w (s := U) (U := U.calling g mk a9) (State.WarmedH.refl U) qt⟩, fun U hU hW => ⟨rfl, by rw [hU], by rw [hU]; exact hPl, va_K.moved hW.alike hK, am_tk_w hW htk⟩⟩ rfl rfl hl'.1 rfl (lv_room (Nat.le_of_ble_eq_true rfl)) dd_25_111 ⟨by omega, by omega⟩) hS1 (fun z _ h => hF z h) hF (fun u t H2 locs2 ht2 hvm hu hB hz1 hk1 hS2 => ?_)
  obtain ⟨hB1, hB2⟩ := hB
  rw [ht2] at hB1
  have hP2 : va_P (am_D Ω) am_cl (am_w Ω M ++ (tiw (am_ca Ω 0) (am_ca Ω 4) q u.1.1 u.1.2.1 (Z * Wy) (nI Z) (nI Wy) x3 x4 x5 (.ref u.1.2.2) u.2 ++ ([(u.1.2.2, .inl (am_ca Ω 0, Z, .inl (fun _ => 0)))] : va_W))) H2 := by
    refine va_P.app (va_P.kept (fun j x hj => hP1 j x (by rw [List.getElem?_append_left (List.getElem?_eq_some_iff.mp hj).1]; exact hj)) (fun j x hj => ?_)) hB1
    obtain ⟨o1, o2⟩ := hold j x hj
    refine hk1 x.1 o1 (fun hz => ?_)
    rcases hF0 _ hz with h | h
    · exact o2 h
    · omega
  have hD2 : va_D (am_A Ω s.heap.size) (am_w Ω M ++ (tiw (am_ca Ω 0) (am_ca Ω 4) q u.1.1 u.1.2.1 (Z * Wy) (nI Z) (nI Wy) x3 x4 x5 (.ref u.1.2.2) u.2 ++ ([(u.1.2.2, .inl (am_ca Ω 0, Z, .inl (fun _ => 0)))] : va_W))) := by
    refine va_D.app (am_w_D M _ hin) (hB2.weaken (fun k x _ h => hF x.1 h)) (fun i j x y hx hy hxy => ?_)
    obtain ⟨o1, o2⟩ := hold i x hx
    rcases hF0 _ (hB2.2 j y hy) with h | h
    · exact o2 (hxy.trans h)
    · omega
  have c2 : am_ct (am_sh Ω) (2, 0, 0) = some (Sum.inr (2, 4)) := rfl
  obtain ⟨q0, hq0, hw0⟩ := am_w_get M (hin.1 (2, 0, 0) _ c2 (fun N h => by cases h))
  rw [am_e_arr c2] at hw0
  have hql : q0 < (am_w Ω M).length := (List.getElem?_eq_some_iff.mp hw0).1
  refine va_astq hx hb hK hP2 hD2 hS2 q0 2 (am_w Ω M).length 1 (r := (am_cn 1, am_FTi, 9)) (f := fun j => (am_rf (am_sh Ω) (2, 0, 0) j).map (am_ad Ω)) (cA := am_ca Ω 2) (n := 4) (by rw [List.getElem?_append_left hql]; exact hw0) rfl (by rw [List.getElem?_append_right (Nat.le_refl _), Nat.sub_self]; rfl) rfl (vp_in_nI hh (by decide)) dd_25_114 (fun H3 locs3 hP3 hD3 hS3 => ?_)
  rw [nI_clamp (by omega), og_w hin hq0 hu] at hP3 hD3
  have hG := og_G hin hD3 (fun k N hk => (hs' k N hk).2.2)
  have hA3 := am_G_Ae hin hG (z0 := s.heap.size) (Nat.le_refl _)
  have hM4 : tgM M (am_sh Ω).1 (nI Z) (nI Wy) x3 x4 x5 (0, 0, 0) 4 = nI (am_sh Ω).1 := (tg_old (Or.inl (by simp))).trans h4
  have hev3 : am_ev (am_sh (og Ω Z Wy q u.1.2.1 u.1.2.2 u.1.1 u.2)) (am_cr (am_sh (og Ω Z Wy q u.1.2.1 u.1.2.2 u.1.1 u.2)) d) 25 (115, [some clk, some (am_I (nI Z)), some (am_I (nI Wy)), some (am_I x3), some (am_I x4), some (am_I x5)], [], tgM M (am_sh Ω).1 (nI Z) (nI Wy) x3 x4 x5, 0) (fun r => r = Sum.inr (tgX M (am_sh Ω).1 (nI Z) (nI Wy) x3 x4 x5, Sum.inl (some (am_I (nI (am_sh Ω).1))))) := by
    refine sg_25_115 ?_
    rw [hM4, nI_1, am_up_same, nI_pred]
    rfl
  intro T3 hT3 X3
  subst hT3
  refine am_again (S := []) (n0 := 0) X3 (am_Cx_G hC hG (Nat.le_refl _)) (by rw [b25]; omega) (by rw [b25]; omega) (am_lv_G hl' (fun i v hv => ?_)) hP3 (by rw [hA3]; exact hS3) (am_sc_G hs' hin hG (Nat.le_refl _) (fun k N hk => funext fun j => tg_ct hk)) hev3 (fun σ hσ => by cases hσ) ?_
  · have hv2 := List.mem_of_getElem? hv
    simp only [List.mem_cons, List.not_mem_nil, or_false, Option.some.injEq] at hv2
    rcases hv2 with rfl | rfl | rfl | rfl | rfl | rfl
    · show Value.ref (og_ad (am_ad Ω) (am_sh Ω).1 q u.1.2.1 u.1.2.2 u.1.1 u.2 (0, 0, 0)) = Value.ref (am_ad Ω (0, 0, 0))
      rw [og_ad_old (sh := am_sh Ω) (c := Sum.inl 2) rfl rfl]
    all_goals rfl
  · intro o ho t9 oc hrun hend hQ
    cases ho
    have hfin := am_fin_re (b' := 133) (ms' := 806) X3 (by rw [hA3]; exact hS3) hQ (by rw [b25]; omega) (by rw [b25]; omega)
    unfold am_En at hfin
    rw [hA3] at hfin
    obtain ⟨hQ1, -, -, -, -, -, hQ7⟩ := hQ
    have hoc : oc = .returned (some (.int (nI (am_sh Ω).1))) := hQ7
    subst hoc
    exact ⟨_, _, _, hrun, hend, hG, ⟨rfl, rfl, rfl⟩, hQ1, hfin, fun k N hk => tg_scr hk rfl⟩
end YB
