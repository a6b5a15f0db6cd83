-- the law's wrapper around tier()
section YC
theorem b107 : am_bud 107 = 1 := by decide +kernel
theorem am_c_G {Ω Ω' : am_Ω} {z : Nat} {k : am_K} {c : Nat ⊕ (Nat × Nat)} (hG : am_G Ω Ω' z) (hc : am_ct (am_sh Ω) k = some c) : am_c (am_ad Ω') (am_R (some k)) = am_c (am_ad Ω) (am_R (some k)) := by
  show Value.ref (am_ad Ω' k) = Value.ref (am_ad Ω k)
  rw [(hG.2.2.2.1 k c hc).2]
set_option maxHeartbeats 4000000 in
set_option maxRecDepth 100000 in
theorem wrap_G (l : Launch) (Ω : am_Ω) {Z Wy d : Nat} {M : am_M} {x3 x4 x5 : Int32} (hz : zok Z Wy) (ht : tok (nI Z) (nI Wy) x3 x4) (h5 : x5 = 0 ∨ x5 = 1) (hh : (am_sh Ω).1 < 4) (h4 : M (0, 0, 0) 4 = nI (am_sh Ω).1) (h7 : M (0, 0, 0) 7 = 0) (hd : 2 ≤ d) : am_SG l Ω (d + 1 + 1) 107 135 820 M [clk, am_I (nI Z), am_I (nI Wy), am_I x3, am_I x4, am_I x5, outk] (fun Ω' M' v => am_sh Ω' = shg (am_sh Ω) Z Wy ∧ M' = am_up (tgX M (am_sh Ω).1 (nI Z) (nI Wy) x3 x4 x5) (30, 0, 0) 0 (nI (am_sh Ω).1) ∧ v = 0) := by
  intro p e R s mid args below meth c T X hC htk hRc hRs hT hargs hP hs
  have hnl : ∀ v ∈ ([clk, am_I (nI Z), am_I (nI Wy), am_I x3, am_I x4, am_I x5, outk] : List am_V), am_isL v = false := by
    intro v hv
    simp only [List.mem_cons, List.not_mem_nil, or_false] at hv
    rcases hv with rfl | rfl | rfl | rfl | rfl | rfl | rfl <;> rfl
  have hent := am_ent_lv (Ω := Ω) (m := 107) (as := [clk, am_I (nI Z), am_I (nI Wy), am_I x3, am_I x4, am_I x5, outk]) (Nat.le_of_ble_eq_true rfl) hnl
  rw [hargs, am_ent_eq hnl]
  generalize ((([clk, am_I (nI Z), am_I (nI Wy), am_I x3, am_I x4, am_I x5, outk] : List am_V).map (am_c (am_ad Ω))).map Slot.val ++ List.replicate (am_mL 107 - (([clk, am_I (nI Z), am_I (nI Wy), am_I x3, am_I x4, am_I x5, outk] : List am_V).map (am_c (am_ad Ω))).length) Slot.unset).toArray = ls0 at hent ⊢
  have hent : am_lv Ω (am_mL 107) ls0 [some clk, some (am_I (nI Z)), some (am_I (nI Wy)), some (am_I x3), some (am_I x4), some (am_I x5), some outk, none] := hent
  have hev : am_ev (am_sh Ω) (am_cr (am_sh Ω) (d + 1)) 107 (0, [some clk, some (am_I (nI Z)), some (am_I (nI Wy)), some (am_I x3), some (am_I x4), some (am_I x5), some outk, none], [], M, 0) (fun r => r = Sum.inl (11, [some clk, some (am_I (nI Z)), some (am_I (nI Wy)), some (am_I x3), some (am_I x4), some (am_I x5), some outk, none], [am_I x5, am_I x4, am_I x3, am_I (nI Wy), am_I (nI Z), clk, am_I 0, outk], M, 0)) := sg_107_p (am_ev_stop rfl)
  suffices hq : ∃ t, Steps p.tables e below (T.setTop (F0 mid 0 ls0 [])) t ∧ am_GQ Ω 135 820 M (fun Ω' M' v => am_sh Ω' = shg (am_sh Ω) Z Wy ∧ M' = am_up (tgX M (am_sh Ω).1 (nI Z) (nI Wy) x3 x4 x5) (30, 0, 0) 0 (nI (am_sh Ω).1) ∧ v = 0) below s t by
    obtain ⟨t, st, Ω', M', v, h⟩ := hq
    exact ⟨t, Ω', M', v, st, h⟩
  refine am_again (S := []) (n0 := 0) X hC (by rw [b107]; omega) (by rw [b107]; omega) hent (by rw [hT]; exact hP) (by rw [hT]; exact va_S.rf) hs hev ?_ (fun o ho => by cases ho)
  intro σ hσ T' locs' ls' X' hl' hP' hS' hs'
  cases hσ
  dsimp only at X' hl' hP' hS' hs' ⊢
  have hin : am_in Ω := hC.2.2.2.2.2.1
  obtain ⟨T2, locs2, Ω', M', v, ⟨X2, hG, ⟨hsh', hM', hv⟩, hP2, hS2, hscr⟩, hgo⟩ := am_callGV (S := [am_I x5, am_I x4, am_I x3, am_I (nI Wy), am_I (nI Z), clk, am_I 0, outk]) X' hC (k := 6) dd_107_11 (by decide +kernel) (Nat.le_of_ble_eq_true rfl) (Nat.le_of_ble_eq_true rfl) (am_rcv_of rfl) htk (tier_G l Ω hz ht h5 hh h4 h7 hd) (by rw [b25]; decide) (by omega) (by omega) hP' hS' hs' hl'.1
  subst hM'
  subst hv
  have hA3 := am_G_Ae hin hG (z0 := s.heap.size) hS'.1
  have hG0 : am_G Ω Ω' s.heap.size := am_G_mono hG hS'.1
  have hev3 : am_ev (am_sh Ω') (am_cr (am_sh Ω') (d + 1)) 107 (14, [some clk, some (am_I (nI Z)), some (am_I (nI Wy)), some (am_I x3), some (am_I x4), some (am_I x5), some outk, none], [am_I (nI (am_sh Ω).1), am_I 0, outk], tgX M (am_sh Ω).1 (nI Z) (nI Wy) x3 x4 x5, 0) (fun r => r = Sum.inr (am_up (tgX M (am_sh Ω).1 (nI Z) (nI Wy) x3 x4 x5) (30, 0, 0) 0 (nI (am_sh Ω).1), Sum.inl (some (am_I 0)))) := sg_107_14 rfl
  suffices hw : ∃ t, Steps p.tables e below (T2.setTop (F0 mid 14 ls' (([am_I (nI (am_sh Ω).1), am_I 0, outk] : List am_V).map (am_c (am_ad Ω'))))) t ∧ am_GQ Ω 135 820 M (fun Ω' M' v => am_sh Ω' = shg (am_sh Ω) Z Wy ∧ M' = am_up (tgX M (am_sh Ω).1 (nI Z) (nI Wy) x3 x4 x5) (30, 0, 0) 0 (nI (am_sh Ω).1) ∧ v = 0) below s t by
    obtain ⟨t, st, h⟩ := hw
    refine ⟨t, hgo t ?_, h⟩
    have e : ([am_I (nI (am_sh Ω).1), am_I 0, outk] : List am_V).map (am_c (am_ad Ω')) = Value.int (nI (am_sh Ω).1) :: (([am_I x5, am_I x4, am_I x3, am_I (nI Wy), am_I (nI Z), clk, am_I 0, outk] : List am_V).drop 6).map (am_c (am_ad Ω)) := by
      show [Value.int (nI (am_sh Ω).1), Value.int 0, am_c (am_ad Ω') outk] = [Value.int (nI (am_sh Ω).1), Value.int 0, am_c (am_ad Ω) outk]
      rw [am_c_G hG (k := (30, 0, 0)) rfl]
    rw [← e]
    exact st
  refine am_again (n0 := 0) X2 (am_Cx_G hC hG0 (Nat.le_refl _)) (by rw [b107]; omega) (by rw [b107]; omega) (am_lv_G hl' (fun i v hv => ?_)) (by rw [hG.1]; exact hP2) (by rw [hA3]; exact hS2) (am_sc_G hs' hin hG0 (Nat.le_refl _) hscr) hev3 (fun σ hσ => by cases hσ) ?_
  · have hv2 := List.mem_of_getElem? hv
    simp only [List.mem_cons, List.not_mem_nil, or_false, Option.some.injEq, reduceCtorEq] at hv2
    rcases hv2 with rfl | rfl | rfl | rfl | rfl | rfl | rfl
    · exact am_c_G hG (k := (0, 0, 0)) rfl
    · rfl
    · rfl
    · rfl
    · rfl
    · rfl
    · exact am_c_G hG (k := (30, 0, 0)) rfl
  · intro o ho t9 oc hrun hend hQ
    cases ho
    have hfin := am_fin_re (b' := 135) (ms' := 820) X2 (by rw [hA3]; exact hS2) hQ (by rw [b107]; omega) (by rw [b107]; omega)
    unfold am_En at hfin
    rw [hA3] at hfin
    obtain ⟨hQ1, -, -, -, -, -, hQ7⟩ := hQ
    have hoc : oc = .returned (some (.int 0)) := hQ7
    subst hoc
    refine ⟨Ω', _, _, hrun, hend, hG0, ⟨hsh', rfl, rfl⟩, by rw [← hG.1]; exact hQ1, hfin, fun k N hk => ?_⟩
    funext j
    rw [am_up_k (fun e => by rw [e] at hk; cases hk), hscr k N hk]
end YC
