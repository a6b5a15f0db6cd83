-- 25: CacheLadder.tier(IIIIZ)I
theorem dd_25_0 : decode (am_b 25) 0 = .ok (.iload_n 1, 1) := by decide +kernel
theorem dd_25_1 : decode (am_b 25) 1 = .ok (.invokestatic 25, 3) := by decide +kernel
theorem dd_25_4 : decode (am_b 25) 4 = .ok (.ifCond .eq 13, 3) := by decide +kernel
theorem dd_25_7 : decode (am_b 25) 7 = .ok (.iload_n 2, 1) := by decide +kernel
theorem dd_25_8 : decode (am_b 25) 8 = .ok (.iconst 1, 1) := by decide +kernel
theorem dd_25_9 : decode (am_b 25) 9 = .ok (.if_icmp .lt 8, 3) := by decide +kernel
theorem dd_25_12 : decode (am_b 25) 12 = .ok (.iload_n 2, 1) := by decide +kernel
theorem dd_25_13 : decode (am_b 25) 13 = .ok (.iconst 4, 1) := by decide +kernel
theorem dd_25_14 : decode (am_b 25) 14 = .ok (.if_icmp .le 13, 3) := by decide +kernel
theorem dd_25_17 : decode (am_b 25) 17 = .ok (.new 29, 3) := by decide +kernel
theorem dd_25_27 : decode (am_b 25) 27 = .ok (.iload_n 3, 1) := by decide +kernel
theorem dd_25_28 : decode (am_b 25) 28 = .ok (.ifCond .lt 19, 3) := by decide +kernel
theorem dd_25_31 : decode (am_b 25) 31 = .ok (.iload_n 3, 1) := by decide +kernel
theorem dd_25_32 : decode (am_b 25) 32 = .ok (.iconst 3, 1) := by decide +kernel
theorem dd_25_33 : decode (am_b 25) 33 = .ok (.if_icmp .gt 14, 3) := by decide +kernel
theorem dd_25_36 : decode (am_b 25) 36 = .ok (.iload 4, 2) := by decide +kernel
theorem dd_25_38 : decode (am_b 25) 38 = .ok (.ifCond .lt 9, 3) := by decide +kernel
theorem dd_25_41 : decode (am_b 25) 41 = .ok (.iload 4, 2) := by decide +kernel
theorem dd_25_43 : decode (am_b 25) 43 = .ok (.iconst 2, 1) := by decide +kernel
theorem dd_25_44 : decode (am_b 25) 44 = .ok (.if_icmp .le 13, 3) := by decide +kernel
theorem dd_25_47 : decode (am_b 25) 47 = .ok (.new 29, 3) := by decide +kernel
theorem dd_25_57 : decode (am_b 25) 57 = .ok (.aload_n 0, 1) := by decide +kernel
theorem dd_25_58 : decode (am_b 25) 58 = .ok (.getfield 38, 3) := by decide +kernel
theorem dd_25_61 : decode (am_b 25) 61 = .ok (.iconst 4, 1) := by decide +kernel
theorem dd_25_62 : decode (am_b 25) 62 = .ok (.if_icmp .lt 13, 3) := by decide +kernel
theorem dd_25_65 : decode (am_b 25) 65 = .ok (.new 42, 3) := by decide +kernel
theorem dd_25_75 : decode (am_b 25) 75 = .ok (.aload_n 0, 1) := by decide +kernel
theorem dd_25_76 : decode (am_b 25) 76 = .ok (.getfield 47, 3) := by decide +kernel
theorem dd_25_79 : decode (am_b 25) 79 = .ok (.ifCond .eq 13, 3) := by decide +kernel
theorem dd_25_82 : decode (am_b 25) 82 = .ok (.new 51, 3) := by decide +kernel
theorem sg_25_0 {sh : am_Sh} {C : Nat → am_M → List am_V → am_O → Prop} {P : am_S ⊕ am_O → Prop} {M : am_M} {x1 : Int32} {x2 : Int32} {x3 : Int32} {x4 : Int32} {x5 : Int32} {M1 : am_M} {r1 : Int32} (hc1 : C 26 M [am_I x1] (M1, Sum.inl (some (am_I r1)))) (k1 : r1 = 0 → am_ev sh C 25 (17, [some (am_R (some (0, 0, 0))), some (am_I x1), some (am_I x2), some (am_I x3), some (am_I x4), some (am_I x5)], [], M1, 0) P) (k2 : ¬ r1 = 0 → am_ev sh C 25 (7, [some (am_R (some (0, 0, 0))), some (am_I x1), some (am_I x2), some (am_I x3), some (am_I x4), some (am_I x5)], [], M1, 0) P) : am_ev sh C 25 (0, [some (am_R (some (0, 0, 0))), some (am_I x1), some (am_I x2), some (am_I x3), some (am_I x4), some (am_I x5)], [], M, 0) P := by
  refine am_e_iload_n dd_25_0 rfl rfl ?_
  refine am_e_callS (c := 26) (k := 1) (as := [am_I x1]) (S' := [am_I r1]) (v := some (am_I r1)) (M' := M1) (n' := 0) dd_25_1 (by decide +kernel) (by decide +kernel) ⟨Nat.le_of_ble_eq_true rfl, Nat.le_of_ble_eq_true rfl, by decide +kernel, (Or.inl rfl)⟩ rfl rfl (by decide +kernel) hc1 rfl ?_
  exact am_a_if_eq (tgt := 17) (pc' := 7) dd_25_4 rfl rfl k1 k2

theorem sg_25_7 {sh : am_Sh} {C : Nat → am_M → List am_V → am_O → Prop} {P : am_S ⊕ am_O → Prop} {M : am_M} {x1 : Int32} {x2 : Int32} {x3 : Int32} {x4 : Int32} {x5 : Int32}  (k1 : x2 < 1 → am_ev sh C 25 (17, [some (am_R (some (0, 0, 0))), some (am_I x1), some (am_I x2), some (am_I x3), some (am_I x4), some (am_I x5)], [], M, 0) P) (k2 : ¬ x2 < 1 → am_ev sh C 25 (12, [some (am_R (some (0, 0, 0))), some (am_I x1), some (am_I x2), some (am_I x3), some (am_I x4), some (am_I x5)], [], M, 0) P) : am_ev sh C 25 (7, [some (am_R (some (0, 0, 0))), some (am_I x1), some (am_I x2), some (am_I x3), some (am_I x4), some (am_I x5)], [], M, 0) P := by
  refine am_e_iload_n dd_25_7 rfl rfl ?_
  refine am_e_iconst (v := 1) dd_25_8 rfl rfl ?_
  exact am_a_icmp_lt (tgt := 17) (pc' := 12) dd_25_9 rfl rfl k1 k2

theorem sg_25_12 {sh : am_Sh} {C : Nat → am_M → List am_V → am_O → Prop} {P : am_S ⊕ am_O → Prop} {M : am_M} {x1 : Int32} {x2 : Int32} {x3 : Int32} {x4 : Int32} {x5 : Int32}  (k1 : x2 ≤ 4 → am_ev sh C 25 (27, [some (am_R (some (0, 0, 0))), some (am_I x1), some (am_I x2), some (am_I x3), some (am_I x4), some (am_I x5)], [], M, 0) P) (k2 : ¬ x2 ≤ 4 → am_ev sh C 25 (17, [some (am_R (some (0, 0, 0))), some (am_I x1), some (am_I x2), some (am_I x3), some (am_I x4), some (am_I x5)], [], M, 0) P) : am_ev sh C 25 (12, [some (am_R (some (0, 0, 0))), some (am_I x1), some (am_I x2), some (am_I x3), some (am_I x4), some (am_I x5)], [], M, 0) P := by
  refine am_e_iload_n dd_25_12 rfl rfl ?_
  refine am_e_iconst (v := 4) dd_25_13 rfl rfl ?_
  exact am_a_icmp_le (tgt := 27) (pc' := 17) dd_25_14 rfl rfl k1 k2

theorem sg_25_17 {sh : am_Sh} {C : Nat → am_M → List am_V → am_O → Prop} {P : am_S ⊕ am_O → Prop} {M : am_M} {x1 : Int32} {x2 : Int32} {x3 : Int32} {x4 : Int32} {x5 : Int32}  (k : P (Sum.inr (M, Sum.inr 0))) : am_ev sh C 25 (17, [some (am_R (some (0, 0, 0))), some (am_I x1), some (am_I x2), some (am_I x3), some (am_I x4), some (am_I x5)], [], M, 0) P := by
  exact am_e_throw (x := 0) dd_25_17 (by decide +kernel) (by decide +kernel) k

theorem sg_25_27 {sh : am_Sh} {C : Nat → am_M → List am_V → am_O → Prop} {P : am_S ⊕ am_O → Prop} {M : am_M} {x1 : Int32} {x2 : Int32} {x3 : Int32} {x4 : Int32} {x5 : Int32}  (k1 : x3 < 0 → am_ev sh C 25 (47, [some (am_R (some (0, 0, 0))), some (am_I x1), some (am_I x2), some (am_I x3), some (am_I x4), some (am_I x5)], [], M, 0) P) (k2 : ¬ x3 < 0 → am_ev sh C 25 (31, [some (am_R (some (0, 0, 0))), some (am_I x1), some (am_I x2), some (am_I x3), some (am_I x4), some (am_I x5)], [], M, 0) P) : am_ev sh C 25 (27, [some (am_R (some (0, 0, 0))), some (am_I x1), some (am_I x2), some (am_I x3), some (am_I x4), some (am_I x5)], [], M, 0) P := by
  refine am_e_iload_n dd_25_27 rfl rfl ?_
  exact am_a_if_lt (tgt := 47) (pc' := 31) dd_25_28 rfl rfl k1 k2

theorem sg_25_31 {sh : am_Sh} {C : Nat → am_M → List am_V → am_O → Prop} {P : am_S ⊕ am_O → Prop} {M : am_M} {x1 : Int32} {x2 : Int32} {x3 : Int32} {x4 : Int32} {x5 : Int32}  (k1 : 3 < x3 → am_ev sh C 25 (47, [some (am_R (some (0, 0, 0))), some (am_I x1), some (am_I x2), some (am_I x3), some (am_I x4), some (am_I x5)], [], M, 0) P) (k2 : ¬ 3 < x3 → am_ev sh C 25 (36, [some (am_R (some (0, 0, 0))), some (am_I x1), some (am_I x2), some (am_I x3), some (am_I x4), some (am_I x5)], [], M, 0) P) : am_ev sh C 25 (31, [some (am_R (some (0, 0, 0))), some (am_I x1), some (am_I x2), some (am_I x3), some (am_I x4), some (am_I x5)], [], M, 0) P := by
  refine am_e_iload_n dd_25_31 rfl rfl ?_
  refine am_e_iconst (v := 3) dd_25_32 rfl rfl ?_
  exact am_a_icmp_gt (tgt := 47) (pc' := 36) dd_25_33 rfl rfl k1 k2

theorem sg_25_36 {sh : am_Sh} {C : Nat → am_M → List am_V → am_O → Prop} {P : am_S ⊕ am_O → Prop} {M : am_M} {x1 : Int32} {x2 : Int32} {x3 : Int32} {x4 : Int32} {x5 : Int32}  (k1 : x4 < 0 → am_ev sh C 25 (47, [some (am_R (some (0, 0, 0))), some (am_I x1), some (am_I x2), some (am_I x3), some (am_I x4), some (am_I x5)], [], M, 0) P) (k2 : ¬ x4 < 0 → am_ev sh C 25 (41, [some (am_R (some (0, 0, 0))), some (am_I x1), some (am_I x2), some (am_I x3), some (am_I x4), some (am_I x5)], [], M, 0) P) : am_ev sh C 25 (36, [some (am_R (some (0, 0, 0))), some (am_I x1), some (am_I x2), some (am_I x3), some (am_I x4), some (am_I x5)], [], M, 0) P := by
  refine am_e_iload dd_25_36 rfl rfl ?_
  exact am_a_if_lt (tgt := 47) (pc' := 41) dd_25_38 rfl rfl k1 k2

theorem sg_25_41 {sh : am_Sh} {C : Nat → am_M → List am_V → am_O → Prop} {P : am_S ⊕ am_O → Prop} {M : am_M} {x1 : Int32} {x2 : Int32} {x3 : Int32} {x4 : Int32} {x5 : Int32}  (k1 : x4 ≤ 2 → am_ev sh C 25 (57, [some (am_R (some (0, 0, 0))), some (am_I x1), some (am_I x2), some (am_I x3), some (am_I x4), some (am_I x5)], [], M, 0) P) (k2 : ¬ x4 ≤ 2 → am_ev sh C 25 (47, [some (am_R (some (0, 0, 0))), some (am_I x1), some (am_I x2), some (am_I x3), some (am_I x4), some (am_I x5)], [], M, 0) P) : am_ev sh C 25 (41, [some (am_R (some (0, 0, 0))), some (am_I x1), some (am_I x2), some (am_I x3), some (am_I x4), some (am_I x5)], [], M, 0) P := by
  refine am_e_iload dd_25_41 rfl rfl ?_
  refine am_e_iconst (v := 2) dd_25_43 rfl rfl ?_
  exact am_a_icmp_le (tgt := 57) (pc' := 47) dd_25_44 rfl rfl k1 k2

theorem sg_25_47 {sh : am_Sh} {C : Nat → am_M → List am_V → am_O → Prop} {P : am_S ⊕ am_O → Prop} {M : am_M} {x1 : Int32} {x2 : Int32} {x3 : Int32} {x4 : Int32} {x5 : Int32}  (k : P (Sum.inr (M, Sum.inr 0))) : am_ev sh C 25 (47, [some (am_R (some (0, 0, 0))), some (am_I x1), some (am_I x2), some (am_I x3), some (am_I x4), some (am_I x5)], [], M, 0) P := by
  exact am_e_throw (x := 0) dd_25_47 (by decide +kernel) (by decide +kernel) k

theorem sg_25_57 {sh : am_Sh} {C : Nat → am_M → List am_V → am_O → Prop} {P : am_S ⊕ am_O → Prop} {M : am_M} {x1 : Int32} {x2 : Int32} {x3 : Int32} {x4 : Int32} {x5 : Int32}  (k1 : (M (0, 0, 0) 4) < 4 → am_ev sh C 25 (75, [some (am_R (some (0, 0, 0))), some (am_I x1), some (am_I x2), some (am_I x3), some (am_I x4), some (am_I x5)], [], M, 0) P) (k2 : ¬ (M (0, 0, 0) 4) < 4 → am_ev sh C 25 (65, [some (am_R (some (0, 0, 0))), some (am_I x1), some (am_I x2), some (am_I x3), some (am_I x4), some (am_I x5)], [], M, 0) P) : am_ev sh C 25 (57, [some (am_R (some (0, 0, 0))), some (am_I x1), some (am_I x2), some (am_I x3), some (am_I x4), some (am_I x5)], [], M, 0) P := by
  refine am_e_aload_n dd_25_57 rfl rfl ?_
  refine am_e_gf (ci := 2) (j := 4) (v := am_I (M (0, 0, 0) 4)) dd_25_58 (by decide +kernel) rfl rfl rfl ?_
  refine am_e_iconst (v := 4) dd_25_61 rfl rfl ?_
  exact am_a_icmp_lt (tgt := 75) (pc' := 65) dd_25_62 rfl rfl k1 k2

theorem sg_25_65 {sh : am_Sh} {C : Nat → am_M → List am_V → am_O → Prop} {P : am_S ⊕ am_O → Prop} {M : am_M} {x1 : Int32} {x2 : Int32} {x3 : Int32} {x4 : Int32} {x5 : Int32}  (k : P (Sum.inr (M, Sum.inr 1))) : am_ev sh C 25 (65, [some (am_R (some (0, 0, 0))), some (am_I x1), some (am_I x2), some (am_I x3), some (am_I x4), some (am_I x5)], [], M, 0) P := by
  exact am_e_throw (x := 1) dd_25_65 (by decide +kernel) (by decide +kernel) k

theorem sg_25_75 {sh : am_Sh} {C : Nat → am_M → List am_V → am_O → Prop} {P : am_S ⊕ am_O → Prop} {M : am_M} {x1 : Int32} {x2 : Int32} {x3 : Int32} {x4 : Int32} {x5 : Int32}  (k1 : (M (0, 0, 0) 7) = 0 → am_ev sh C 25 (92, [some (am_R (some (0, 0, 0))), some (am_I x1), some (am_I x2), some (am_I x3), some (am_I x4), some (am_I x5)], [], M, 0) P) (k2 : ¬ (M (0, 0, 0) 7) = 0 → am_ev sh C 25 (82, [some (am_R (some (0, 0, 0))), some (am_I x1), some (am_I x2), some (am_I x3), some (am_I x4), some (am_I x5)], [], M, 0) P) : am_ev sh C 25 (75, [some (am_R (some (0, 0, 0))), some (am_I x1), some (am_I x2), some (am_I x3), some (am_I x4), some (am_I x5)], [], M, 0) P := by
  refine am_e_aload_n dd_25_75 rfl rfl ?_
  refine am_e_gf (ci := 2) (j := 7) (v := am_I (M (0, 0, 0) 7)) dd_25_76 (by decide +kernel) rfl rfl rfl ?_
  exact am_a_if_eq (tgt := 92) (pc' := 82) dd_25_79 rfl rfl k1 k2

theorem sg_25_82 {sh : am_Sh} {C : Nat → am_M → List am_V → am_O → Prop} {P : am_S ⊕ am_O → Prop} {M : am_M} {x1 : Int32} {x2 : Int32} {x3 : Int32} {x4 : Int32} {x5 : Int32}  (k : P (Sum.inr (M, Sum.inr 2))) : am_ev sh C 25 (82, [some (am_R (some (0, 0, 0))), some (am_I x1), some (am_I x2), some (am_I x3), some (am_I x4), some (am_I x5)], [], M, 0) P := by
  exact am_e_throw (x := 2) dd_25_82 (by decide +kernel) (by decide +kernel) k

-- 26: CacheLadder.isSets(I)Z
theorem dd_26_0 : decode (am_b 26) 0 = .ok (.iload_n 0, 1) := by decide +kernel
theorem dd_26_1 : decode (am_b 26) 1 = .ok (.iconst 1, 1) := by decide +kernel
theorem dd_26_2 : decode (am_b 26) 2 = .ok (.if_icmp .lt 21, 3) := by decide +kernel
theorem dd_26_5 : decode (am_b 26) 5 = .ok (.iload_n 0, 1) := by decide +kernel
theorem dd_26_6 : decode (am_b 26) 6 = .ok (.bipush 16, 2) := by decide +kernel
theorem dd_26_8 : decode (am_b 26) 8 = .ok (.if_icmp .gt 15, 3) := by decide +kernel
theorem dd_26_11 : decode (am_b 26) 11 = .ok (.iload_n 0, 1) := by decide +kernel
theorem dd_26_12 : decode (am_b 26) 12 = .ok (.invokestatic 173, 3) := by decide +kernel
theorem dd_26_15 : decode (am_b 26) 15 = .ok (.iconst 1, 1) := by decide +kernel
theorem dd_26_16 : decode (am_b 26) 16 = .ok (.if_icmp .ne 7, 3) := by decide +kernel
theorem dd_26_19 : decode (am_b 26) 19 = .ok (.iconst 1, 1) := by decide +kernel
theorem dd_26_20 : decode (am_b 26) 20 = .ok (.goto 4, 3) := by decide +kernel
theorem dd_26_23 : decode (am_b 26) 23 = .ok (.iconst 0, 1) := by decide +kernel
theorem dd_26_24 : decode (am_b 26) 24 = .ok (.ireturn, 1) := by decide +kernel
theorem sg_26_0 {sh : am_Sh} {C : Nat → am_M → List am_V → am_O → Prop} {P : am_S ⊕ am_O → Prop} {M : am_M} {x0 : Int32}  (k1 : x0 < 1 → am_ev sh C 26 (23, [some (am_I x0)], [], M, 0) P) (k2 : ¬ x0 < 1 → am_ev sh C 26 (5, [some (am_I x0)], [], M, 0) P) : am_ev sh C 26 (0, [some (am_I x0)], [], M, 0) P := by
  refine am_e_iload_n dd_26_0 rfl rfl ?_
  refine am_e_iconst (v := 1) dd_26_1 rfl rfl ?_
  exact am_a_icmp_lt (tgt := 23) (pc' := 5) dd_26_2 rfl rfl k1 k2

theorem sg_26_5 {sh : am_Sh} {C : Nat → am_M → List am_V → am_O → Prop} {P : am_S ⊕ am_O → Prop} {M : am_M} {x0 : Int32}  (k1 : 16 < x0 → am_ev sh C 26 (23, [some (am_I x0)], [], M, 0) P) (k2 : ¬ 16 < x0 → am_ev sh C 26 (11, [some (am_I x0)], [], M, 0) P) : am_ev sh C 26 (5, [some (am_I x0)], [], M, 0) P := by
  refine am_e_iload_n dd_26_5 rfl rfl ?_
  refine am_e_bipush (v := 16) dd_26_6 (by decide) rfl ?_
  exact am_a_icmp_gt (tgt := 23) (pc' := 11) dd_26_8 rfl rfl k1 k2

theorem sg_26_11 {sh : am_Sh} {C : Nat → am_M → List am_V → am_O → Prop} {P : am_S ⊕ am_O → Prop} {M : am_M} {x0 : Int32} {M1 : am_M} {r1 : Int32} (hc1 : C 59 M [am_I x0] (M1, Sum.inl (some (am_I r1)))) (k1 : ¬ r1 = 1 → am_ev sh C 26 (23, [some (am_I x0)], [], M1, 0) P) (k2 : r1 = 1 → am_ev sh C 26 (19, [some (am_I x0)], [], M1, 0) P) : am_ev sh C 26 (11, [some (am_I x0)], [], M, 0) P := by
  refine am_e_iload_n dd_26_11 rfl rfl ?_
  refine am_e_callS (c := 59) (k := 1) (as := [am_I x0]) (S' := [am_I r1]) (v := some (am_I r1)) (M' := M1) (n' := 0) dd_26_12 (by decide +kernel) (by decide +kernel) ⟨Nat.le_of_ble_eq_true rfl, Nat.le_of_ble_eq_true rfl, by decide +kernel, (Or.inl rfl)⟩ rfl rfl (by decide +kernel) hc1 rfl ?_
  refine am_e_iconst (v := 1) dd_26_15 rfl rfl ?_
  exact am_a_icmp_ne (tgt := 23) (pc' := 19) dd_26_16 rfl rfl k1 k2

theorem sg_26_19 {sh : am_Sh} {C : Nat → am_M → List am_V → am_O → Prop} {P : am_S ⊕ am_O → Prop} {M : am_M} {x0 : Int32}  (k : am_ev sh C 26 (24, [some (am_I x0)], [am_I 1], M, 0) P) : am_ev sh C 26 (19, [some (am_I x0)], [], M, 0) P := by
  refine am_e_iconst (v := 1) dd_26_19 rfl rfl ?_
  refine am_e_goto (pc' := 24) dd_26_20 rfl ?_
  exact k

theorem sg_26_23 {sh : am_Sh} {C : Nat → am_M → List am_V → am_O → Prop} {P : am_S ⊕ am_O → Prop} {M : am_M} {x0 : Int32}  (k : am_ev sh C 26 (24, [some (am_I x0)], [am_I 0], M, 0) P) : am_ev sh C 26 (23, [some (am_I x0)], [], M, 0) P := by
  refine am_e_iconst (v := 0) dd_26_23 rfl rfl ?_
  exact k

theorem sg_26_24 {sh : am_Sh} {C : Nat → am_M → List am_V → am_O → Prop} {P : am_S ⊕ am_O → Prop} {M : am_M} {x0 : Int32} {xs0 : Int32} (hb1 : xs0 = 0 ∨ xs0 = 1) (k : P (Sum.inr (M, Sum.inl (some (am_I xs0))))) : am_ev sh C 26 (24, [some (am_I x0)], [am_I xs0], M, 0) P := by
  exact am_e_iret dd_26_24 (by decide +kernel) (Or.inr ⟨rfl, hb1⟩) k

-- 27: CacheLadder.read(I)I
theorem dd_27_0 : decode (am_b 27) 0 = .ok (.iload_n 1, 1) := by decide +kernel
theorem dd_27_1 : decode (am_b 27) 1 = .ok (.invokestatic 59, 3) := by decide +kernel
theorem dd_27_4 : decode (am_b 27) 4 = .ok (.aload_n 0, 1) := by decide +kernel
theorem dd_27_5 : decode (am_b 27) 5 = .ok (.iload_n 1, 1) := by decide +kernel
theorem dd_27_6 : decode (am_b 27) 6 = .ok (.invokevirtual 63, 3) := by decide +kernel
theorem dd_27_9 : decode (am_b 27) 9 = .ok (.ireturn, 1) := by decide +kernel
theorem sg_27_0 {sh : am_Sh} {C : Nat → am_M → List am_V → am_O → Prop} {P : am_S ⊕ am_O → Prop} {M : am_M} {x1 : Int32} {M1 : am_M} {M2 : am_M} {r1 : Int32} (hc1 : C 28 M [am_I x1] (M1, Sum.inl none)) (hc2 : C 29 M1 [am_R (some (0, 0, 0)), am_I x1] (M2, Sum.inl (some (am_I r1)))) (k : P (Sum.inr (M2, Sum.inl (some (am_I r1))))) : am_ev sh C 27 (0, [some (am_R (some (0, 0, 0))), some (am_I x1)], [], M, 0) P := by
  refine am_e_iload_n dd_27_0 rfl rfl ?_
  refine am_e_callS (c := 28) (k := 1) (as := [am_I x1]) (S' := []) (v := none) (M' := M1) (n' := 1) dd_27_1 (by decide +kernel) (by decide +kernel) ⟨Nat.le_of_ble_eq_true rfl, Nat.le_of_ble_eq_true rfl, by decide +kernel, (Or.inl rfl)⟩ rfl rfl (by decide +kernel) hc1 rfl ?_
  refine am_e_aload_n dd_27_4 rfl rfl ?_
  refine am_e_iload_n dd_27_5 rfl rfl ?_
  refine am_e_callV (c := 29) (k := 2) (as := [am_R (some (0, 0, 0)), am_I x1]) (S' := [am_I r1]) (v := some (am_I r1)) (M' := M2) (n' := 1) dd_27_6 (by decide +kernel) ⟨Nat.le_of_ble_eq_true rfl, Nat.le_of_ble_eq_true rfl, by decide +kernel, (Or.inr (am_rcv_of rfl))⟩ rfl rfl (by decide +kernel) hc2 rfl ?_
  exact am_e_iret dd_27_9 (by decide +kernel) (Or.inl rfl) k

theorem sgt_27_1 {sh : am_Sh} {C : Nat → am_M → List am_V → am_O → Prop} {P : am_S ⊕ am_O → Prop} {M : am_M} {x1 : Int32} {M1 : am_M} {x_thr : Nat} (hc : C 28 M [am_I x1] (M1, Sum.inr x_thr)) (k : P (Sum.inr (M1, Sum.inr x_thr))) : am_ev sh C 27 (0, [some (am_R (some (0, 0, 0))), some (am_I x1)], [], M, 0) P := by
  refine am_e_iload_n dd_27_0 rfl rfl ?_
  exact am_e_thrS (c := 28) (k := 1) dd_27_1 (by decide +kernel) (by decide +kernel) ⟨Nat.le_of_ble_eq_true rfl, Nat.le_of_ble_eq_true rfl, by decide +kernel, (Or.inl rfl)⟩ rfl hc (by rfl) k

-- 28: CacheLadder.needWord(I)V
theorem dd_28_0 : decode (am_b 28) 0 = .ok (.iload_n 0, 1) := by decide +kernel
theorem dd_28_1 : decode (am_b 28) 1 = .ok (.ifCond .lt 10, 3) := by decide +kernel
theorem dd_28_4 : decode (am_b 28) 4 = .ok (.iload_n 0, 1) := by decide +kernel
theorem dd_28_5 : decode (am_b 28) 5 = .ok (.sipush 1024, 3) := by decide +kernel
theorem dd_28_8 : decode (am_b 28) 8 = .ok (.if_icmp .lt 13, 3) := by decide +kernel
theorem dd_28_11 : decode (am_b 28) 11 = .ok (.new 73, 3) := by decide +kernel
theorem dd_28_21 : decode (am_b 28) 21 = .ok (.return_, 1) := by decide +kernel
theorem sg_28_0 {sh : am_Sh} {C : Nat → am_M → List am_V → am_O → Prop} {P : am_S ⊕ am_O → Prop} {M : am_M} {x0 : Int32}  (k1 : x0 < 0 → am_ev sh C 28 (11, [some (am_I x0)], [], M, 0) P) (k2 : ¬ x0 < 0 → am_ev sh C 28 (4, [some (am_I x0)], [], M, 0) P) : am_ev sh C 28 (0, [some (am_I x0)], [], M, 0) P := by
  refine am_e_iload_n dd_28_0 rfl rfl ?_
  exact am_a_if_lt (tgt := 11) (pc' := 4) dd_28_1 rfl rfl k1 k2

theorem sg_28_4 {sh : am_Sh} {C : Nat → am_M → List am_V → am_O → Prop} {P : am_S ⊕ am_O → Prop} {M : am_M} {x0 : Int32}  (k1 : x0 < 1024 → am_ev sh C 28 (21, [some (am_I x0)], [], M, 0) P) (k2 : ¬ x0 < 1024 → am_ev sh C 28 (11, [some (am_I x0)], [], M, 0) P) : am_ev sh C 28 (4, [some (am_I x0)], [], M, 0) P := by
  refine am_e_iload_n dd_28_4 rfl rfl ?_
  refine am_e_sipush (v := 1024) dd_28_5 (by decide) rfl ?_
  exact am_a_icmp_lt (tgt := 21) (pc' := 11) dd_28_8 rfl rfl k1 k2

theorem sg_28_11 {sh : am_Sh} {C : Nat → am_M → List am_V → am_O → Prop} {P : am_S ⊕ am_O → Prop} {M : am_M} {x0 : Int32}  (k : P (Sum.inr (M, Sum.inr 3))) : am_ev sh C 28 (11, [some (am_I x0)], [], M, 0) P := by
  exact am_e_throw (x := 3) dd_28_11 (by decide +kernel) (by decide +kernel) k

theorem sg_28_21 {sh : am_Sh} {C : Nat → am_M → List am_V → am_O → Prop} {P : am_S ⊕ am_O → Prop} {M : am_M} {x0 : Int32}  (k : P (Sum.inr (M, Sum.inl none))) : am_ev sh C 28 (21, [some (am_I x0)], [], M, 0) P := by
  exact am_e_vret dd_28_21 (by decide +kernel) rfl k

-- 29: CacheLadder.readWord(I)I
theorem dd_29_0 : decode (am_b 29) 0 = .ok (.aload_n 0, 1) := by decide +kernel
theorem dd_29_1 : decode (am_b 29) 1 = .ok (.iconst 1, 1) := by decide +kernel
theorem dd_29_2 : decode (am_b 29) 2 = .ok (.putfield 47, 3) := by decide +kernel
theorem dd_29_5 : decode (am_b 29) 5 = .ok (.aload_n 0, 1) := by decide +kernel
theorem dd_29_6 : decode (am_b 29) 6 = .ok (.iconst 0, 1) := by decide +kernel
theorem dd_29_7 : decode (am_b 29) 7 = .ok (.iload_n 1, 1) := by decide +kernel
theorem dd_29_8 : decode (am_b 29) 8 = .ok (.invokestatic 78, 3) := by decide +kernel
theorem dd_29_11 : decode (am_b 29) 11 = .ok (.aload_n 0, 1) := by decide +kernel
theorem dd_29_12 : decode (am_b 29) 12 = .ok (.getfield 19, 3) := by decide +kernel
theorem dd_29_15 : decode (am_b 29) 15 = .ok (.invokevirtual 189, 3) := by decide +kernel
theorem dd_29_18 : decode (am_b 29) 18 = .ok (.aload_n 0, 1) := by decide +kernel
theorem dd_29_19 : decode (am_b 29) 19 = .ok (.getfield 19, 3) := by decide +kernel
theorem dd_29_22 : decode (am_b 29) 22 = .ok (.iload_n 1, 1) := by decide +kernel
theorem dd_29_23 : decode (am_b 29) 23 = .ok (.iconst 4, 1) := by decide +kernel
theorem dd_29_24 : decode (am_b 29) 24 = .ok (.irem, 1) := by decide +kernel
theorem dd_29_25 : decode (am_b 29) 25 = .ok (.iaload, 1) := by decide +kernel
theorem dd_29_26 : decode (am_b 29) 26 = .ok (.ireturn, 1) := by decide +kernel
theorem sg_29_0 {sh : am_Sh} {C : Nat → am_M → List am_V → am_O → Prop} {P : am_S ⊕ am_O → Prop} {M : am_M} {x1 : Int32} {M1 : am_M} {r1 : Int32} {M2 : am_M} {j1 : Nat} (hc1 : C 30 (am_up M (0, 0, 0) 7 1) [am_I x1] (M1, Sum.inl (some (am_I r1)))) (hc2 : C 31 M1 [am_R (some (0, 0, 0)), am_I 0, am_I r1, am_R (some (3, 0, 0))] (M2, Sum.inl none)) (hx_j1 : x1 - x1 / 4 * 4 = nI j1) (hl_j1 : j1 < 4) (k : P (Sum.inr (M2, Sum.inl (some (am_I (M2 (3, 0, 0) j1)))))) : am_ev sh C 29 (0, [some (am_R (some (0, 0, 0))), some (am_I x1)], [], M, 0) P := by
  refine am_e_aload_n dd_29_0 rfl rfl ?_
  refine am_e_iconst (v := 1) dd_29_1 rfl rfl ?_
  refine am_e_pf (ci := 2) (j := 7) dd_29_2 (by decide +kernel) rfl rfl (Or.inr ⟨rfl, Or.inr rfl⟩) rfl ?_
  refine am_e_aload_n dd_29_5 rfl rfl ?_
  refine am_e_iconst (v := 0) dd_29_6 rfl rfl ?_
  refine am_e_iload_n dd_29_7 rfl rfl ?_
  refine am_e_callS (c := 30) (k := 1) (as := [am_I x1]) (S' := [am_I r1, am_I 0, am_R (some (0, 0, 0))]) (v := some (am_I r1)) (M' := M1) (n' := 0) dd_29_8 (by decide +kernel) (by decide +kernel) ⟨Nat.le_of_ble_eq_true rfl, Nat.le_of_ble_eq_true rfl, by decide +kernel, (Or.inl rfl)⟩ rfl rfl (by decide +kernel) hc1 rfl ?_
  refine am_e_aload_n dd_29_11 rfl rfl ?_
  refine am_e_gf (ci := 2) (j := 2) (v := am_R (some (3, 0, 0))) dd_29_12 (by decide +kernel) rfl rfl rfl ?_
  refine am_e_callV (c := 31) (k := 4) (as := [am_R (some (0, 0, 0)), am_I 0, am_I r1, am_R (some (3, 0, 0))]) (S' := []) (v := none) (M' := M2) (n' := 0) dd_29_15 (by decide +kernel) ⟨Nat.le_of_ble_eq_true rfl, Nat.le_of_ble_eq_true rfl, by decide +kernel, (Or.inr (am_rcv_of rfl))⟩ rfl rfl (by decide +kernel) hc2 rfl ?_
  refine am_e_aload_n dd_29_18 rfl rfl ?_
  refine am_e_gf (ci := 2) (j := 2) (v := am_R (some (3, 0, 0))) dd_29_19 (by decide +kernel) rfl rfl rfl ?_
  refine am_e_iload_n dd_29_22 rfl rfl ?_
  refine am_e_iconst (v := 4) dd_29_23 rfl rfl ?_
  refine am_e_irem dd_29_24 (by decide) rfl ?_
  refine am_a_iald dd_29_25 rfl hx_j1 hl_j1 (by decide) rfl ?_
  exact am_e_iret dd_29_26 (by decide +kernel) (Or.inl rfl) k

-- 30: CacheLadder.blockOf(I)I
theorem dd_30_0 : decode (am_b 30) 0 = .ok (.iload_n 0, 1) := by decide +kernel
theorem dd_30_1 : decode (am_b 30) 1 = .ok (.iconst 4, 1) := by decide +kernel
theorem dd_30_2 : decode (am_b 30) 2 = .ok (.idiv, 1) := by decide +kernel
theorem dd_30_3 : decode (am_b 30) 3 = .ok (.ireturn, 1) := by decide +kernel
theorem sg_30_0 {sh : am_Sh} {C : Nat → am_M → List am_V → am_O → Prop} {P : am_S ⊕ am_O → Prop} {M : am_M} {x0 : Int32}  (k : P (Sum.inr (M, Sum.inl (some (am_I (x0 / 4)))))) : am_ev sh C 30 (0, [some (am_I x0)], [], M, 0) P := by
  refine am_e_iload_n dd_30_0 rfl rfl ?_
  refine am_e_iconst (v := 4) dd_30_1 rfl rfl ?_
  refine am_e_idiv dd_30_2 (by decide) rfl ?_
  exact am_e_iret dd_30_3 (by decide +kernel) (Or.inl rfl) k

-- 31: CacheLadder.readAt(II[I)V
theorem dd_31_0 : decode (am_b 31) 0 = .ok (.iload_n 1, 1) := by decide +kernel
theorem dd_31_1 : decode (am_b 31) 1 = .ok (.aload_n 0, 1) := by decide +kernel
theorem dd_31_2 : decode (am_b 31) 2 = .ok (.getfield 38, 3) := by decide +kernel
theorem dd_31_5 : decode (am_b 31) 5 = .ok (.if_icmp .lt 27, 3) := by decide +kernel
theorem dd_31_8 : decode (am_b 31) 8 = .ok (.aload_n 0, 1) := by decide +kernel
theorem dd_31_9 : decode (am_b 31) 9 = .ok (.dup, 1) := by decide +kernel
theorem dd_31_10 : decode (am_b 31) 10 = .ok (.getfield 133, 3) := by decide +kernel
theorem dd_31_13 : decode (am_b 31) 13 = .ok (.iconst 1, 1) := by decide +kernel
theorem dd_31_14 : decode (am_b 31) 14 = .ok (.iadd, 1) := by decide +kernel
theorem dd_31_15 : decode (am_b 31) 15 = .ok (.putfield 133, 3) := by decide +kernel
theorem dd_31_18 : decode (am_b 31) 18 = .ok (.aload_n 0, 1) := by decide +kernel
theorem dd_31_19 : decode (am_b 31) 19 = .ok (.getfield 9, 3) := by decide +kernel
theorem dd_31_22 : decode (am_b 31) 22 = .ok (.iload_n 2, 1) := by decide +kernel
theorem dd_31_23 : decode (am_b 31) 23 = .ok (.iconst 4, 1) := by decide +kernel
theorem dd_31_24 : decode (am_b 31) 24 = .ok (.imul, 1) := by decide +kernel
theorem dd_31_25 : decode (am_b 31) 25 = .ok (.aload_n 3, 1) := by decide +kernel
theorem dd_31_26 : decode (am_b 31) 26 = .ok (.iconst 0, 1) := by decide +kernel
theorem dd_31_27 : decode (am_b 31) 27 = .ok (.iconst 4, 1) := by decide +kernel
theorem dd_31_28 : decode (am_b 31) 28 = .ok (.invokestatic 193, 3) := by decide +kernel
theorem dd_31_31 : decode (am_b 31) 31 = .ok (.return_, 1) := by decide +kernel
theorem dd_31_32 : decode (am_b 31) 32 = .ok (.aload_n 0, 1) := by decide +kernel
theorem dd_31_33 : decode (am_b 31) 33 = .ok (.getfield 15, 3) := by decide +kernel
theorem dd_31_36 : decode (am_b 31) 36 = .ok (.iload_n 1, 1) := by decide +kernel
theorem dd_31_37 : decode (am_b 31) 37 = .ok (.aaload, 1) := by decide +kernel
theorem dd_31_38 : decode (am_b 31) 38 = .ok (.astore 4, 2) := by decide +kernel
theorem dd_31_40 : decode (am_b 31) 40 = .ok (.aload 4, 2) := by decide +kernel
theorem dd_31_42 : decode (am_b 31) 42 = .ok (.iload_n 2, 1) := by decide +kernel
theorem dd_31_43 : decode (am_b 31) 43 = .ok (.invokevirtual 157, 3) := by decide +kernel
theorem dd_31_46 : decode (am_b 31) 46 = .ok (.astore 5, 2) := by decide +kernel
theorem dd_31_48 : decode (am_b 31) 48 = .ok (.aload 5, 2) := by decide +kernel
theorem dd_31_50 : decode (am_b 31) 50 = .ok (.ifnonnull 26, 3) := by decide +kernel
theorem dd_31_53 : decode (am_b 31) 53 = .ok (.aload 4, 2) := by decide +kernel
theorem dd_31_55 : decode (am_b 31) 55 = .ok (.getfield 127, 3) := by decide +kernel
theorem dd_31_58 : decode (am_b 31) 58 = .ok (.iconst 1, 1) := by decide +kernel
theorem dd_31_59 : decode (am_b 31) 59 = .ok (.dup2, 1) := by decide +kernel
theorem dd_31_60 : decode (am_b 31) 60 = .ok (.iaload, 1) := by decide +kernel
theorem dd_31_61 : decode (am_b 31) 61 = .ok (.iconst 1, 1) := by decide +kernel
theorem dd_31_62 : decode (am_b 31) 62 = .ok (.iadd, 1) := by decide +kernel
theorem dd_31_63 : decode (am_b 31) 63 = .ok (.iastore, 1) := by decide +kernel
theorem dd_31_64 : decode (am_b 31) 64 = .ok (.aload_n 0, 1) := by decide +kernel
theorem dd_31_65 : decode (am_b 31) 65 = .ok (.iload_n 1, 1) := by decide +kernel
theorem dd_31_66 : decode (am_b 31) 66 = .ok (.iload_n 2, 1) := by decide +kernel
theorem dd_31_67 : decode (am_b 31) 67 = .ok (.iconst 1, 1) := by decide +kernel
theorem dd_31_68 : decode (am_b 31) 68 = .ok (.invokevirtual 199, 3) := by decide +kernel
theorem dd_31_71 : decode (am_b 31) 71 = .ok (.astore 5, 2) := by decide +kernel
theorem dd_31_73 : decode (am_b 31) 73 = .ok (.goto 21, 3) := by decide +kernel
theorem dd_31_76 : decode (am_b 31) 76 = .ok (.aload 4, 2) := by decide +kernel
theorem dd_31_78 : decode (am_b 31) 78 = .ok (.getfield 127, 3) := by decide +kernel
theorem dd_31_81 : decode (am_b 31) 81 = .ok (.iconst 0, 1) := by decide +kernel
theorem dd_31_82 : decode (am_b 31) 82 = .ok (.dup2, 1) := by decide +kernel
theorem dd_31_83 : decode (am_b 31) 83 = .ok (.iaload, 1) := by decide +kernel
theorem dd_31_84 : decode (am_b 31) 84 = .ok (.iconst 1, 1) := by decide +kernel
theorem dd_31_85 : decode (am_b 31) 85 = .ok (.iadd, 1) := by decide +kernel
theorem dd_31_86 : decode (am_b 31) 86 = .ok (.iastore, 1) := by decide +kernel
theorem dd_31_87 : decode (am_b 31) 87 = .ok (.aload 4, 2) := by decide +kernel
theorem dd_31_89 : decode (am_b 31) 89 = .ok (.aload 5, 2) := by decide +kernel
theorem dd_31_91 : decode (am_b 31) 91 = .ok (.invokevirtual 203, 3) := by decide +kernel
theorem dd_31_94 : decode (am_b 31) 94 = .ok (.aload 5, 2) := by decide +kernel
theorem dd_31_96 : decode (am_b 31) 96 = .ok (.getfield 94, 3) := by decide +kernel
theorem dd_31_99 : decode (am_b 31) 99 = .ok (.iconst 0, 1) := by decide +kernel
theorem dd_31_100 : decode (am_b 31) 100 = .ok (.aload_n 3, 1) := by decide +kernel
theorem dd_31_101 : decode (am_b 31) 101 = .ok (.iconst 0, 1) := by decide +kernel
theorem dd_31_102 : decode (am_b 31) 102 = .ok (.iconst 4, 1) := by decide +kernel
theorem dd_31_103 : decode (am_b 31) 103 = .ok (.invokestatic 193, 3) := by decide +kernel
theorem dd_31_106 : decode (am_b 31) 106 = .ok (.return_, 1) := by decide +kernel
theorem sg_31_0 {sh : am_Sh} {C : Nat → am_M → List am_V → am_O → Prop} {P : am_S ⊕ am_O → Prop} {M : am_M} {x1 : Int32} {x2 : Int32} {o3 : Option am_K} {u4 : Option am_V} {u5 : Option am_V}  (k1 : x1 < (M (0, 0, 0) 4) → am_ev sh C 31 (32, [some (am_R (some (0, 0, 0))), some (am_I x1), some (am_I x2), some (am_R o3), u4, u5], [], M, 0) P) (k2 : ¬ x1 < (M (0, 0, 0) 4) → am_ev sh C 31 (8, [some (am_R (some (0, 0, 0))), some (am_I x1), some (am_I x2), some (am_R o3), u4, u5], [], M, 0) P) : am_ev sh C 31 (0, [some (am_R (some (0, 0, 0))), some (am_I x1), some (am_I x2), some (am_R o3), u4, u5], [], M, 0) P := by
  refine am_e_iload_n dd_31_0 rfl rfl ?_
  refine am_e_aload_n dd_31_1 rfl rfl ?_
  refine am_e_gf (ci := 2) (j := 4) (v := am_I (M (0, 0, 0) 4)) dd_31_2 (by decide +kernel) rfl rfl rfl ?_
  exact am_a_icmp_lt (tgt := 32) (pc' := 8) dd_31_5 rfl rfl k1 k2

theorem sg_31_8 {sh : am_Sh} {C : Nat → am_M → List am_V → am_O → Prop} {P : am_S ⊕ am_O → Prop} {M : am_M} {x1 : Int32} {x2 : Int32} {k3 : am_K} {N3 : Nat} {u4 : Option am_V} {u5 : Option am_V} {p1 : Nat} (hx_p1 : x2 * 4 = nI p1) (hz_k3 : N3 < 2147483648) (hk_k3 : am_ct sh k3 = some (Sum.inr (0, N3))) (hle1 : p1 + 4 ≤ 1024) (hle2 : 0 + 4 ≤ N3) (k : P (Sum.inr ((am_cp (am_up M (0, 0, 0) 5 ((M (0, 0, 0) 5) + 1)) (1, 0, 0) k3 p1 0 4), Sum.inl none))) : am_ev sh C 31 (8, [some (am_R (some (0, 0, 0))), some (am_I x1), some (am_I x2), some (am_R (some k3)), u4, u5], [], M, 0) P := by
  refine am_e_aload_n dd_31_8 rfl rfl ?_
  refine am_e_dup dd_31_9 rfl rfl ?_
  refine am_e_gf (ci := 2) (j := 5) (v := am_I (M (0, 0, 0) 5)) dd_31_10 (by decide +kernel) rfl rfl rfl ?_
  refine am_e_iconst (v := 1) dd_31_13 rfl rfl ?_
  refine am_e_iadd dd_31_14 rfl ?_
  refine am_e_pf (ci := 2) (j := 5) dd_31_15 (by decide +kernel) rfl rfl (Or.inl rfl) rfl ?_
  refine am_e_aload_n dd_31_18 rfl rfl ?_
  refine am_e_gf (ci := 2) (j := 0) (v := am_R (some (1, 0, 0))) dd_31_19 (by decide +kernel) rfl rfl rfl ?_
  refine am_e_iload_n dd_31_22 rfl rfl ?_
  refine am_e_iconst (v := 4) dd_31_23 rfl rfl ?_
  refine am_e_imul dd_31_24 rfl ?_
  refine am_e_aload_n dd_31_25 rfl rfl ?_
  refine am_e_iconst (v := 0) dd_31_26 rfl rfl ?_
  refine am_e_iconst (v := 4) dd_31_27 rfl rfl ?_
  refine am_a_copy dd_31_28 (by decide +kernel) rfl hk_k3 (Nat.le_of_ble_eq_true rfl) hx_p1 rfl rfl hle1 hle2 (by decide) hz_k3 rfl ?_
  exact am_e_vret dd_31_31 (by decide +kernel) rfl k

theorem sg_31_32 {sh : am_Sh} {C : Nat → am_M → List am_V → am_O → Prop} {P : am_S ⊕ am_O → Prop} {M : am_M} {x1 : Int32} {x2 : Int32} {o3 : Option am_K} {u4 : Option am_V} {u5 : Option am_V} {t91 : Nat} {M1 : am_M} {oq1 : Option am_K} (hx_t91 : x1 = nI t91) (ht91 : t91 < sh.1) (hh4 : sh.1 ≤ 4) (hc1 : C 2 M [am_R (some (5, t91, 0)), am_I x2] (M1, Sum.inl (some (am_R oq1)))) (k1 : ∀ k, oq1 = some k → am_ev sh C 31 (76, [some (am_R (some (0, 0, 0))), some (am_I x1), some (am_I x2), some (am_R o3), some (am_R (some (5, t91, 0))), some (am_R oq1)], [], M1, 0) P) (k2 : oq1 = none → am_ev sh C 31 (53, [some (am_R (some (0, 0, 0))), some (am_I x1), some (am_I x2), some (am_R o3), some (am_R (some (5, t91, 0))), some (am_R oq1)], [], M1, 0) P) : am_ev sh C 31 (32, [some (am_R (some (0, 0, 0))), some (am_I x1), some (am_I x2), some (am_R o3), u4, u5], [], M, 0) P := by
  refine am_e_aload_n dd_31_32 rfl rfl ?_
  refine am_e_gf (ci := 2) (j := 1) (v := am_R (some (2, 0, 0))) dd_31_33 (by decide +kernel) rfl rfl rfl ?_
  refine am_e_iload_n dd_31_36 rfl rfl ?_
  refine am_a_rald dd_31_37 rfl (Or.inl rfl) hx_t91 (Nat.lt_of_lt_of_le ht91 hh4) (by decide) (am_rf2 ht91) rfl ?_
  refine am_e_astore dd_31_38 (Nat.le_of_ble_eq_true rfl) rfl rfl ?_
  refine am_e_aload dd_31_40 rfl rfl ?_
  refine am_e_iload_n dd_31_42 rfl rfl ?_
  refine am_e_callV (c := 2) (k := 2) (as := [am_R (some (5, t91, 0)), am_I x2]) (S' := [am_R oq1]) (v := some (am_R oq1)) (M' := M1) (n' := 0) dd_31_43 (by decide +kernel) ⟨Nat.le_of_ble_eq_true rfl, Nat.le_of_ble_eq_true rfl, by decide +kernel, (Or.inr (am_rcv_of (am_ct5 ht91)))⟩ rfl rfl (by decide +kernel) hc1 rfl ?_
  refine am_e_astore dd_31_46 (Nat.le_of_ble_eq_true rfl) rfl rfl ?_
  refine am_e_aload dd_31_48 rfl rfl ?_
  exact am_e_ifnonnull (tgt := 76) (pc' := 53) dd_31_50 rfl rfl k1 k2

theorem sg_31_53 {sh : am_Sh} {C : Nat → am_M → List am_V → am_O → Prop} {P : am_S ⊕ am_O → Prop} {M : am_M} {x1 : Int32} {x2 : Int32} {o3 : Option am_K} {t4 : Nat} {o5 : Option am_K} {M1 : am_M} {oq1 : Option am_K} (ht4 : t4 < sh.1) (hc1 : C 32 (am_up M (8, t4, 0) 1 ((M (8, t4, 0) 1) + 1)) [am_R (some (0, 0, 0)), am_I x1, am_I x2, am_I 1] (M1, Sum.inl (some (am_R oq1)))) (k : am_ev sh C 31 (94, [some (am_R (some (0, 0, 0))), some (am_I x1), some (am_I x2), some (am_R o3), some (am_R (some (5, t4, 0))), some (am_R oq1)], [], M1, 0) P) : am_ev sh C 31 (53, [some (am_R (some (0, 0, 0))), some (am_I x1), some (am_I x2), some (am_R o3), some (am_R (some (5, t4, 0))), some (am_R o5)], [], M, 0) P := by
  refine am_e_aload dd_31_53 rfl rfl ?_
  refine am_e_gf (ci := 1) (j := 7) (v := am_R (some (8, t4, 0))) dd_31_55 (by decide +kernel) (am_ct5 ht4) rfl rfl ?_
  refine am_e_iconst (v := 1) dd_31_58 rfl rfl ?_
  refine am_e_dup2 dd_31_59 rfl rfl rfl ?_
  refine am_a_iald dd_31_60 (am_ct8 ht4) rfl (by decide) (by decide) rfl ?_
  refine am_e_iconst (v := 1) dd_31_61 rfl rfl ?_
  refine am_e_iadd dd_31_62 rfl ?_
  refine am_a_iast dd_31_63 (am_ct8 ht4) rfl (by decide) (by decide) rfl ?_
  refine am_e_aload_n dd_31_64 rfl rfl ?_
  refine am_e_iload_n dd_31_65 rfl rfl ?_
  refine am_e_iload_n dd_31_66 rfl rfl ?_
  refine am_e_iconst (v := 1) dd_31_67 rfl rfl ?_
  refine am_e_callV (c := 32) (k := 4) (as := [am_R (some (0, 0, 0)), am_I x1, am_I x2, am_I 1]) (S' := [am_R oq1]) (v := some (am_R oq1)) (M' := M1) (n' := 0) dd_31_68 (by decide +kernel) ⟨Nat.le_of_ble_eq_true rfl, Nat.le_of_ble_eq_true rfl, by decide +kernel, (Or.inr (am_rcv_of rfl))⟩ rfl rfl (by decide +kernel) hc1 rfl ?_
  refine am_e_astore dd_31_71 (Nat.le_of_ble_eq_true rfl) rfl rfl ?_
  refine am_e_goto (pc' := 94) dd_31_73 rfl ?_
  exact k

theorem sg_31_76 {sh : am_Sh} {C : Nat → am_M → List am_V → am_O → Prop} {P : am_S ⊕ am_O → Prop} {M : am_M} {x1 : Int32} {x2 : Int32} {o3 : Option am_K} {t4 : Nat} {o5 : Option am_K} {M1 : am_M} (ht4 : t4 < sh.1) (hc1 : C 13 (am_up M (8, t4, 0) 0 ((M (8, t4, 0) 0) + 1)) [am_R (some (5, t4, 0)), am_R o5] (M1, Sum.inl none)) (k : am_ev sh C 31 (94, [some (am_R (some (0, 0, 0))), some (am_I x1), some (am_I x2), some (am_R o3), some (am_R (some (5, t4, 0))), some (am_R o5)], [], M1, 0) P) : am_ev sh C 31 (76, [some (am_R (some (0, 0, 0))), some (am_I x1), some (am_I x2), some (am_R o3), some (am_R (some (5, t4, 0))), some (am_R o5)], [], M, 0) P := by
  refine am_e_aload dd_31_76 rfl rfl ?_
  refine am_e_gf (ci := 1) (j := 7) (v := am_R (some (8, t4, 0))) dd_31_78 (by decide +kernel) (am_ct5 ht4) rfl rfl ?_
  refine am_e_iconst (v := 0) dd_31_81 rfl rfl ?_
  refine am_e_dup2 dd_31_82 rfl rfl rfl ?_
  refine am_a_iald dd_31_83 (am_ct8 ht4) rfl (by decide) (by decide) rfl ?_
  refine am_e_iconst (v := 1) dd_31_84 rfl rfl ?_
  refine am_e_iadd dd_31_85 rfl ?_
  refine am_a_iast dd_31_86 (am_ct8 ht4) rfl (by decide) (by decide) rfl ?_
  refine am_e_aload dd_31_87 rfl rfl ?_
  refine am_e_aload dd_31_89 rfl rfl ?_
  refine am_e_callV (c := 13) (k := 2) (as := [am_R (some (5, t4, 0)), am_R o5]) (S' := []) (v := none) (M' := M1) (n' := 0) dd_31_91 (by decide +kernel) ⟨Nat.le_of_ble_eq_true rfl, Nat.le_of_ble_eq_true rfl, by decide +kernel, (Or.inr (am_rcv_of (am_ct5 ht4)))⟩ rfl rfl (by decide +kernel) hc1 rfl ?_
  exact k

theorem sg_31_94 {sh : am_Sh} {C : Nat → am_M → List am_V → am_O → Prop} {P : am_S ⊕ am_O → Prop} {M : am_M} {x1 : Int32} {x2 : Int32} {k3 : am_K} {N3 : Nat} {t4 : Nat} {t5 : Nat} {i5 : Nat} (ht5 : t5 < sh.1) (ht5_i5 : i5 < sh.2.1 t5) (hz_k3 : N3 < 2147483648) (hk_k3 : am_ct sh k3 = some (Sum.inr (0, N3))) (hle1 : 0 + 4 ≤ N3) (k : P (Sum.inr ((am_cp M (10, t5, i5) k3 0 0 4), Sum.inl none))) : am_ev sh C 31 (94, [some (am_R (some (0, 0, 0))), some (am_I x1), some (am_I x2), some (am_R (some k3)), some (am_R (some (5, t4, 0))), some (am_R (some (9, t5, i5)))], [], M, 0) P := by
  refine am_e_aload dd_31_94 rfl rfl ?_
  refine am_e_gf (ci := 0) (j := 0) (v := am_R (some (10, t5, i5))) dd_31_96 (by decide +kernel) (am_ct9 ht5 ht5_i5) rfl rfl ?_
  refine am_e_iconst (v := 0) dd_31_99 rfl rfl ?_
  refine am_e_aload_n dd_31_100 rfl rfl ?_
  refine am_e_iconst (v := 0) dd_31_101 rfl rfl ?_
  refine am_e_iconst (v := 4) dd_31_102 rfl rfl ?_
  refine am_a_copy dd_31_103 (by decide +kernel) (am_ct10 ht5 ht5_i5) hk_k3 (Nat.le_of_ble_eq_true rfl) rfl rfl rfl (by decide) hle1 (by decide) hz_k3 rfl ?_
  exact am_e_vret dd_31_106 (by decide +kernel) rfl k

-- 32: CacheLadder.fetch(IIZ)LCacheLadder$Line;
theorem dd_32_0 : decode (am_b 32) 0 = .ok (.aload_n 0, 1) := by decide +kernel
theorem dd_32_1 : decode (am_b 32) 1 = .ok (.iload_n 1, 1) := by decide +kernel
theorem dd_32_2 : decode (am_b 32) 2 = .ok (.iload_n 2, 1) := by decide +kernel
theorem dd_32_3 : decode (am_b 32) 3 = .ok (.invokevirtual 207, 3) := by decide +kernel
theorem dd_32_6 : decode (am_b 32) 6 = .ok (.astore 4, 2) := by decide +kernel
theorem dd_32_8 : decode (am_b 32) 8 = .ok (.iload_n 3, 1) := by decide +kernel
theorem dd_32_9 : decode (am_b 32) 9 = .ok (.ifCond .eq 16, 3) := by decide +kernel
theorem dd_32_12 : decode (am_b 32) 12 = .ok (.aload_n 0, 1) := by decide +kernel
theorem dd_32_13 : decode (am_b 32) 13 = .ok (.iload_n 1, 1) := by decide +kernel
theorem dd_32_14 : decode (am_b 32) 14 = .ok (.iconst 1, 1) := by decide +kernel
theorem dd_32_15 : decode (am_b 32) 15 = .ok (.iadd, 1) := by decide +kernel
theorem dd_32_16 : decode (am_b 32) 16 = .ok (.iload_n 2, 1) := by decide +kernel
theorem dd_32_17 : decode (am_b 32) 17 = .ok (.aload 4, 2) := by decide +kernel
theorem dd_32_19 : decode (am_b 32) 19 = .ok (.getfield 94, 3) := by decide +kernel
theorem dd_32_22 : decode (am_b 32) 22 = .ok (.invokevirtual 189, 3) := by decide +kernel
theorem dd_32_25 : decode (am_b 32) 25 = .ok (.aload_n 0, 1) := by decide +kernel
theorem dd_32_26 : decode (am_b 32) 26 = .ok (.getfield 15, 3) := by decide +kernel
theorem dd_32_29 : decode (am_b 32) 29 = .ok (.iload_n 1, 1) := by decide +kernel
theorem dd_32_30 : decode (am_b 32) 30 = .ok (.aaload, 1) := by decide +kernel
theorem dd_32_31 : decode (am_b 32) 31 = .ok (.aload 4, 2) := by decide +kernel
theorem dd_32_33 : decode (am_b 32) 33 = .ok (.iload_n 2, 1) := by decide +kernel
theorem dd_32_34 : decode (am_b 32) 34 = .ok (.invokevirtual 210, 3) := by decide +kernel
theorem dd_32_37 : decode (am_b 32) 37 = .ok (.aload 4, 2) := by decide +kernel
theorem dd_32_39 : decode (am_b 32) 39 = .ok (.areturn, 1) := by decide +kernel
theorem sg_32_0 {sh : am_Sh} {C : Nat → am_M → List am_V → am_O → Prop} {P : am_S ⊕ am_O → Prop} {M : am_M} {x1 : Int32} {x2 : Int32} {x3 : Int32} {u4 : Option am_V} {M1 : am_M} {oq1 : Option am_K} (hc1 : C 33 M [am_R (some (0, 0, 0)), am_I x1, am_I x2] (M1, Sum.inl (some (am_R oq1)))) (k1 : x3 = 0 → am_ev sh C 32 (25, [some (am_R (some (0, 0, 0))), some (am_I x1), some (am_I x2), some (am_I x3), some (am_R oq1)], [], M1, 0) P) (k2 : ¬ x3 = 0 → am_ev sh C 32 (12, [some (am_R (some (0, 0, 0))), some (am_I x1), some (am_I x2), some (am_I x3), some (am_R oq1)], [], M1, 0) P) : am_ev sh C 32 (0, [some (am_R (some (0, 0, 0))), some (am_I x1), some (am_I x2), some (am_I x3), u4], [], M, 0) P := by
  refine am_e_aload_n dd_32_0 rfl rfl ?_
  refine am_e_iload_n dd_32_1 rfl rfl ?_
  refine am_e_iload_n dd_32_2 rfl rfl ?_
  refine am_e_callV (c := 33) (k := 3) (as := [am_R (some (0, 0, 0)), am_I x1, am_I x2]) (S' := [am_R oq1]) (v := some (am_R oq1)) (M' := M1) (n' := 0) dd_32_3 (by decide +kernel) ⟨Nat.le_of_ble_eq_true rfl, Nat.le_of_ble_eq_true rfl, by decide +kernel, (Or.inr (am_rcv_of rfl))⟩ rfl rfl (by decide +kernel) hc1 rfl ?_
  refine am_e_astore dd_32_6 (Nat.le_of_ble_eq_true rfl) rfl rfl ?_
  refine am_e_iload_n dd_32_8 rfl rfl ?_
  exact am_a_if_eq (tgt := 25) (pc' := 12) dd_32_9 rfl rfl k1 k2

theorem sg_32_12 {sh : am_Sh} {C : Nat → am_M → List am_V → am_O → Prop} {P : am_S ⊕ am_O → Prop} {M : am_M} {x1 : Int32} {x2 : Int32} {x3 : Int32} {t4 : Nat} {i4 : Nat} {M1 : am_M} (ht4 : t4 < sh.1) (ht4_i4 : i4 < sh.2.1 t4) (hc1 : C 31 M [am_R (some (0, 0, 0)), am_I (x1 + 1), am_I x2, am_R (some (10, t4, i4))] (M1, Sum.inl none)) (k : am_ev sh C 32 (25, [some (am_R (some (0, 0, 0))), some (am_I x1), some (am_I x2), some (am_I x3), some (am_R (some (9, t4, i4)))], [], M1, 0) P) : am_ev sh C 32 (12, [some (am_R (some (0, 0, 0))), some (am_I x1), some (am_I x2), some (am_I x3), some (am_R (some (9, t4, i4)))], [], M, 0) P := by
  refine am_e_aload_n dd_32_12 rfl rfl ?_
  refine am_e_iload_n dd_32_13 rfl rfl ?_
  refine am_e_iconst (v := 1) dd_32_14 rfl rfl ?_
  refine am_e_iadd dd_32_15 rfl ?_
  refine am_e_iload_n dd_32_16 rfl rfl ?_
  refine am_e_aload dd_32_17 rfl rfl ?_
  refine am_e_gf (ci := 0) (j := 0) (v := am_R (some (10, t4, i4))) dd_32_19 (by decide +kernel) (am_ct9 ht4 ht4_i4) rfl rfl ?_
  refine am_e_callV (c := 31) (k := 4) (as := [am_R (some (0, 0, 0)), am_I (x1 + 1), am_I x2, am_R (some (10, t4, i4))]) (S' := []) (v := none) (M' := M1) (n' := 0) dd_32_22 (by decide +kernel) ⟨Nat.le_of_ble_eq_true rfl, Nat.le_of_ble_eq_true rfl, by decide +kernel, (Or.inr (am_rcv_of rfl))⟩ rfl rfl (by decide +kernel) hc1 rfl ?_
  exact k

theorem sg_32_25 {sh : am_Sh} {C : Nat → am_M → List am_V → am_O → Prop} {P : am_S ⊕ am_O → Prop} {M : am_M} {x1 : Int32} {x2 : Int32} {x3 : Int32} {o4 : Option am_K} {t91 : Nat} {M1 : am_M} (hx_t91 : x1 = nI t91) (ht91 : t91 < sh.1) (hh4 : sh.1 ≤ 4) (hc1 : C 14 M [am_R (some (5, t91, 0)), am_R o4, am_I x2] (M1, Sum.inl none)) (k : P (Sum.inr (M1, Sum.inl (some (am_R o4))))) : am_ev sh C 32 (25, [some (am_R (some (0, 0, 0))), some (am_I x1), some (am_I x2), some (am_I x3), some (am_R o4)], [], M, 0) P := by
  refine am_e_aload_n dd_32_25 rfl rfl ?_
  refine am_e_gf (ci := 2) (j := 1) (v := am_R (some (2, 0, 0))) dd_32_26 (by decide +kernel) rfl rfl rfl ?_
  refine am_e_iload_n dd_32_29 rfl rfl ?_
  refine am_a_rald dd_32_30 rfl (Or.inl rfl) hx_t91 (Nat.lt_of_lt_of_le ht91 hh4) (by decide) (am_rf2 ht91) rfl ?_
  refine am_e_aload dd_32_31 rfl rfl ?_
  refine am_e_iload_n dd_32_33 rfl rfl ?_
  refine am_e_callV (c := 14) (k := 3) (as := [am_R (some (5, t91, 0)), am_R o4, am_I x2]) (S' := []) (v := none) (M' := M1) (n' := 0) dd_32_34 (by decide +kernel) ⟨Nat.le_of_ble_eq_true rfl, Nat.le_of_ble_eq_true rfl, by decide +kernel, (Or.inr (am_rcv_of (am_ct5 ht91)))⟩ rfl rfl (by decide +kernel) hc1 rfl ?_
  refine am_e_aload dd_32_37 rfl rfl ?_
  exact am_e_aret dd_32_39 (by decide +kernel) rfl k

-- 33: CacheLadder.makeRoom(II)LCacheLadder$Line;
theorem dd_33_0 : decode (am_b 33) 0 = .ok (.aload_n 0, 1) := by decide +kernel
theorem dd_33_1 : decode (am_b 33) 1 = .ok (.getfield 15, 3) := by decide +kernel
theorem dd_33_4 : decode (am_b 33) 4 = .ok (.iload_n 1, 1) := by decide +kernel
theorem dd_33_5 : decode (am_b 33) 5 = .ok (.aaload, 1) := by decide +kernel
theorem dd_33_6 : decode (am_b 33) 6 = .ok (.astore_n 3, 1) := by decide +kernel
theorem dd_33_7 : decode (am_b 33) 7 = .ok (.aload_n 3, 1) := by decide +kernel
theorem dd_33_8 : decode (am_b 33) 8 = .ok (.iload_n 2, 1) := by decide +kernel
theorem dd_33_9 : decode (am_b 33) 9 = .ok (.invokevirtual 214, 3) := by decide +kernel
theorem dd_33_12 : decode (am_b 33) 12 = .ok (.istore 4, 2) := by decide +kernel
theorem dd_33_14 : decode (am_b 33) 14 = .ok (.aload_n 3, 1) := by decide +kernel
theorem dd_33_15 : decode (am_b 33) 15 = .ok (.iload 4, 2) := by decide +kernel
theorem dd_33_17 : decode (am_b 33) 17 = .ok (.invokevirtual 163, 3) := by decide +kernel
theorem dd_33_20 : decode (am_b 33) 20 = .ok (.astore 5, 2) := by decide +kernel
theorem dd_33_22 : decode (am_b 33) 22 = .ok (.aload 5, 2) := by decide +kernel
theorem dd_33_24 : decode (am_b 33) 24 = .ok (.ifnull 6, 3) := by decide +kernel
theorem dd_33_27 : decode (am_b 33) 27 = .ok (.aload 5, 2) := by decide +kernel
theorem dd_33_29 : decode (am_b 33) 29 = .ok (.areturn, 1) := by decide +kernel
theorem dd_33_30 : decode (am_b 33) 30 = .ok (.aload_n 3, 1) := by decide +kernel
theorem dd_33_31 : decode (am_b 33) 31 = .ok (.iload 4, 2) := by decide +kernel
theorem dd_33_33 : decode (am_b 33) 33 = .ok (.invokevirtual 217, 3) := by decide +kernel
theorem dd_33_36 : decode (am_b 33) 36 = .ok (.astore 6, 2) := by decide +kernel
theorem dd_33_38 : decode (am_b 33) 38 = .ok (.aload_n 3, 1) := by decide +kernel
theorem dd_33_39 : decode (am_b 33) 39 = .ok (.getfield 127, 3) := by decide +kernel
theorem dd_33_42 : decode (am_b 33) 42 = .ok (.iconst 4, 1) := by decide +kernel
theorem dd_33_43 : decode (am_b 33) 43 = .ok (.dup2, 1) := by decide +kernel
theorem dd_33_44 : decode (am_b 33) 44 = .ok (.iaload, 1) := by decide +kernel
theorem dd_33_45 : decode (am_b 33) 45 = .ok (.iconst 1, 1) := by decide +kernel
theorem dd_33_46 : decode (am_b 33) 46 = .ok (.iadd, 1) := by decide +kernel
theorem dd_33_47 : decode (am_b 33) 47 = .ok (.iastore, 1) := by decide +kernel
theorem dd_33_48 : decode (am_b 33) 48 = .ok (.aload_n 0, 1) := by decide +kernel
theorem dd_33_49 : decode (am_b 33) 49 = .ok (.iload_n 1, 1) := by decide +kernel
theorem dd_33_50 : decode (am_b 33) 50 = .ok (.aload 6, 2) := by decide +kernel
theorem dd_33_52 : decode (am_b 33) 52 = .ok (.invokevirtual 114, 3) := by decide +kernel
theorem dd_33_55 : decode (am_b 33) 55 = .ok (.aload 6, 2) := by decide +kernel
theorem dd_33_57 : decode (am_b 33) 57 = .ok (.areturn, 1) := by decide +kernel
theorem sg_33_0 {sh : am_Sh} {C : Nat → am_M → List am_V → am_O → Prop} {P : am_S ⊕ am_O → Prop} {M : am_M} {x1 : Int32} {x2 : Int32} {u3 : Option am_V} {u4 : Option am_V} {u5 : Option am_V} {u6 : Option am_V} {t91 : Nat} {M1 : am_M} {r1 : Int32} {M2 : am_M} {oq1 : Option am_K} (hx_t91 : x1 = nI t91) (ht91 : t91 < sh.1) (hh4 : sh.1 ≤ 4) (hc1 : C 4 M [am_R (some (5, t91, 0)), am_I x2] (M1, Sum.inl (some (am_I r1)))) (hc2 : C 7 M1 [am_R (some (5, t91, 0)), am_I r1] (M2, Sum.inl (some (am_R oq1)))) (k1 : (oq1 = none → am_ev sh C 33 (30, [some (am_R (some (0, 0, 0))), some (am_I x1), some (am_I x2), some (am_R (some (5, t91, 0))), some (am_I r1), some (am_R oq1), u6], [], M2, 0) P)) (k2 : ∀ k, oq1 = some k → am_ev sh C 33 (27, [some (am_R (some (0, 0, 0))), some (am_I x1), some (am_I x2), some (am_R (some (5, t91, 0))), some (am_I r1), some (am_R oq1), u6], [], M2, 0) P) : am_ev sh C 33 (0, [some (am_R (some (0, 0, 0))), some (am_I x1), some (am_I x2), u3, u4, u5, u6], [], M, 0) P := by
  refine am_e_aload_n dd_33_0 rfl rfl ?_
  refine am_e_gf (ci := 2) (j := 1) (v := am_R (some (2, 0, 0))) dd_33_1 (by decide +kernel) rfl rfl rfl ?_
  refine am_e_iload_n dd_33_4 rfl rfl ?_
  refine am_a_rald dd_33_5 rfl (Or.inl rfl) hx_t91 (Nat.lt_of_lt_of_le ht91 hh4) (by decide) (am_rf2 ht91) rfl ?_
  refine am_e_astore_n dd_33_6 (Nat.le_of_ble_eq_true rfl) rfl rfl ?_
  refine am_e_aload_n dd_33_7 rfl rfl ?_
  refine am_e_iload_n dd_33_8 rfl rfl ?_
  refine am_e_callV (c := 4) (k := 2) (as := [am_R (some (5, t91, 0)), am_I x2]) (S' := [am_I r1]) (v := some (am_I r1)) (M' := M1) (n' := 0) dd_33_9 (by decide +kernel) ⟨Nat.le_of_ble_eq_true rfl, Nat.le_of_ble_eq_true rfl, by decide +kernel, (Or.inr (am_rcv_of (am_ct5 ht91)))⟩ rfl rfl (by decide +kernel) hc1 rfl ?_
  refine am_e_istore dd_33_12 (Nat.le_of_ble_eq_true rfl) rfl rfl ?_
  refine am_e_aload_n dd_33_14 rfl rfl ?_
  refine am_e_iload dd_33_15 rfl rfl ?_
  refine am_e_callV (c := 7) (k := 2) (as := [am_R (some (5, t91, 0)), am_I r1]) (S' := [am_R oq1]) (v := some (am_R oq1)) (M' := M2) (n' := 0) dd_33_17 (by decide +kernel) ⟨Nat.le_of_ble_eq_true rfl, Nat.le_of_ble_eq_true rfl, by decide +kernel, (Or.inr (am_rcv_of (am_ct5 ht91)))⟩ rfl rfl (by decide +kernel) hc2 rfl ?_
  refine am_e_astore dd_33_20 (Nat.le_of_ble_eq_true rfl) rfl rfl ?_
  refine am_e_aload dd_33_22 rfl rfl ?_
  exact am_e_ifnull (tgt := 30) (pc' := 27) dd_33_24 rfl rfl k1 k2

theorem sg_33_27 {sh : am_Sh} {C : Nat → am_M → List am_V → am_O → Prop} {P : am_S ⊕ am_O → Prop} {M : am_M} {x1 : Int32} {x2 : Int32} {t3 : Nat} {x4 : Int32} {o5 : Option am_K} {u6 : Option am_V}  (k : P (Sum.inr (M, Sum.inl (some (am_R o5))))) : am_ev sh C 33 (27, [some (am_R (some (0, 0, 0))), some (am_I x1), some (am_I x2), some (am_R (some (5, t3, 0))), some (am_I x4), some (am_R o5), u6], [], M, 0) P := by
  refine am_e_aload dd_33_27 rfl rfl ?_
  exact am_e_aret dd_33_29 (by decide +kernel) rfl k

theorem sg_33_30 {sh : am_Sh} {C : Nat → am_M → List am_V → am_O → Prop} {P : am_S ⊕ am_O → Prop} {M : am_M} {x1 : Int32} {x2 : Int32} {t3 : Nat} {x4 : Int32} {o5 : Option am_K} {u6 : Option am_V} {M1 : am_M} {oq1 : Option am_K} {M2 : am_M} (ht3 : t3 < sh.1) (hc1 : C 8 M [am_R (some (5, t3, 0)), am_I x4] (M1, Sum.inl (some (am_R oq1)))) (hc2 : C 34 (am_up M1 (8, t3, 0) 4 ((M1 (8, t3, 0) 4) + 1)) [am_R (some (0, 0, 0)), am_I x1, am_R oq1] (M2, Sum.inl none)) (k : P (Sum.inr (M2, Sum.inl (some (am_R oq1))))) : am_ev sh C 33 (30, [some (am_R (some (0, 0, 0))), some (am_I x1), some (am_I x2), some (am_R (some (5, t3, 0))), some (am_I x4), some (am_R o5), u6], [], M, 0) P := by
  refine am_e_aload_n dd_33_30 rfl rfl ?_
  refine am_e_iload dd_33_31 rfl rfl ?_
  refine am_e_callV (c := 8) (k := 2) (as := [am_R (some (5, t3, 0)), am_I x4]) (S' := [am_R oq1]) (v := some (am_R oq1)) (M' := M1) (n' := 0) dd_33_33 (by decide +kernel) ⟨Nat.le_of_ble_eq_true rfl, Nat.le_of_ble_eq_true rfl, by decide +kernel, (Or.inr (am_rcv_of (am_ct5 ht3)))⟩ rfl rfl (by decide +kernel) hc1 rfl ?_
  refine am_e_astore dd_33_36 (Nat.le_of_ble_eq_true rfl) rfl rfl ?_
  refine am_e_aload_n dd_33_38 rfl rfl ?_
  refine am_e_gf (ci := 1) (j := 7) (v := am_R (some (8, t3, 0))) dd_33_39 (by decide +kernel) (am_ct5 ht3) rfl rfl ?_
  refine am_e_iconst (v := 4) dd_33_42 rfl rfl ?_
  refine am_e_dup2 dd_33_43 rfl rfl rfl ?_
  refine am_a_iald dd_33_44 (am_ct8 ht3) rfl (by decide) (by decide) rfl ?_
  refine am_e_iconst (v := 1) dd_33_45 rfl rfl ?_
  refine am_e_iadd dd_33_46 rfl ?_
  refine am_a_iast dd_33_47 (am_ct8 ht3) rfl (by decide) (by decide) rfl ?_
  refine am_e_aload_n dd_33_48 rfl rfl ?_
  refine am_e_iload_n dd_33_49 rfl rfl ?_
  refine am_e_aload dd_33_50 rfl rfl ?_
  refine am_e_callV (c := 34) (k := 3) (as := [am_R (some (0, 0, 0)), am_I x1, am_R oq1]) (S' := []) (v := none) (M' := M2) (n' := 0) dd_33_52 (by decide +kernel) ⟨Nat.le_of_ble_eq_true rfl, Nat.le_of_ble_eq_true rfl, by decide +kernel, (Or.inr (am_rcv_of rfl))⟩ rfl rfl (by decide +kernel) hc2 rfl ?_
  refine am_e_aload dd_33_55 rfl rfl ?_
  exact am_e_aret dd_33_57 (by decide +kernel) rfl k

-- 34: CacheLadder.leave(ILCacheLadder$Line;)V
theorem dd_34_0 : decode (am_b 34) 0 = .ok (.aload_n 0, 1) := by decide +kernel
theorem dd_34_1 : decode (am_b 34) 1 = .ok (.getfield 15, 3) := by decide +kernel
theorem dd_34_4 : decode (am_b 34) 4 = .ok (.iload_n 1, 1) := by decide +kernel
theorem dd_34_5 : decode (am_b 34) 5 = .ok (.aaload, 1) := by decide +kernel
theorem dd_34_6 : decode (am_b 34) 6 = .ok (.getfield 220, 3) := by decide +kernel
theorem dd_34_9 : decode (am_b 34) 9 = .ok (.ifCond .eq 9, 3) := by decide +kernel
theorem dd_34_12 : decode (am_b 34) 12 = .ok (.aload_n 0, 1) := by decide +kernel
theorem dd_34_13 : decode (am_b 34) 13 = .ok (.iload_n 1, 1) := by decide +kernel
theorem dd_34_14 : decode (am_b 34) 14 = .ok (.aload_n 2, 1) := by decide +kernel
theorem dd_34_15 : decode (am_b 34) 15 = .ok (.invokevirtual 223, 3) := by decide +kernel
theorem dd_34_18 : decode (am_b 34) 18 = .ok (.aload_n 0, 1) := by decide +kernel
theorem dd_34_19 : decode (am_b 34) 19 = .ok (.iload_n 1, 1) := by decide +kernel
theorem dd_34_20 : decode (am_b 34) 20 = .ok (.aload_n 2, 1) := by decide +kernel
theorem dd_34_21 : decode (am_b 34) 21 = .ok (.invokevirtual 110, 3) := by decide +kernel
theorem dd_34_24 : decode (am_b 34) 24 = .ok (.pop, 1) := by decide +kernel
theorem dd_34_25 : decode (am_b 34) 25 = .ok (.aload_n 2, 1) := by decide +kernel
theorem dd_34_26 : decode (am_b 34) 26 = .ok (.invokevirtual 226, 3) := by decide +kernel
theorem dd_34_29 : decode (am_b 34) 29 = .ok (.return_, 1) := by decide +kernel
theorem sg_34_0 {sh : am_Sh} {C : Nat → am_M → List am_V → am_O → Prop} {P : am_S ⊕ am_O → Prop} {M : am_M} {x1 : Int32} {o2 : Option am_K} {t91 : Nat} (hx_t91 : x1 = nI t91) (ht91 : t91 < sh.1) (hh4 : sh.1 ≤ 4) (k1 : (M (5, t91, 0) 4) = 0 → am_ev sh C 34 (18, [some (am_R (some (0, 0, 0))), some (am_I x1), some (am_R o2)], [], M, 0) P) (k2 : ¬ (M (5, t91, 0) 4) = 0 → am_ev sh C 34 (12, [some (am_R (some (0, 0, 0))), some (am_I x1), some (am_R o2)], [], M, 0) P) : am_ev sh C 34 (0, [some (am_R (some (0, 0, 0))), some (am_I x1), some (am_R o2)], [], M, 0) P := by
  refine am_e_aload_n dd_34_0 rfl rfl ?_
  refine am_e_gf (ci := 2) (j := 1) (v := am_R (some (2, 0, 0))) dd_34_1 (by decide +kernel) rfl rfl rfl ?_
  refine am_e_iload_n dd_34_4 rfl rfl ?_
  refine am_a_rald dd_34_5 rfl (Or.inl rfl) hx_t91 (Nat.lt_of_lt_of_le ht91 hh4) (by decide) (am_rf2 ht91) rfl ?_
  refine am_e_gf (ci := 1) (j := 4) (v := am_I (M (5, t91, 0) 4)) dd_34_6 (by decide +kernel) (am_ct5 ht91) rfl rfl ?_
  exact am_a_if_eq (tgt := 18) (pc' := 12) dd_34_9 rfl rfl k1 k2

theorem sg_34_12 {sh : am_Sh} {C : Nat → am_M → List am_V → am_O → Prop} {P : am_S ⊕ am_O → Prop} {M : am_M} {x1 : Int32} {o2 : Option am_K} {M1 : am_M} (hc1 : C 35 M [am_R (some (0, 0, 0)), am_I x1, am_R o2] (M1, Sum.inl none)) (k : am_ev sh C 34 (18, [some (am_R (some (0, 0, 0))), some (am_I x1), some (am_R o2)], [], M1, 0) P) : am_ev sh C 34 (12, [some (am_R (some (0, 0, 0))), some (am_I x1), some (am_R o2)], [], M, 0) P := by
  refine am_e_aload_n dd_34_12 rfl rfl ?_
  refine am_e_iload_n dd_34_13 rfl rfl ?_
  refine am_e_aload_n dd_34_14 rfl rfl ?_
  refine am_e_callV (c := 35) (k := 3) (as := [am_R (some (0, 0, 0)), am_I x1, am_R o2]) (S' := []) (v := none) (M' := M1) (n' := 0) dd_34_15 (by decide +kernel) ⟨Nat.le_of_ble_eq_true rfl, Nat.le_of_ble_eq_true rfl, by decide +kernel, (Or.inr (am_rcv_of rfl))⟩ rfl rfl (by decide +kernel) hc1 rfl ?_
  exact k

theorem sg_34_18 {sh : am_Sh} {C : Nat → am_M → List am_V → am_O → Prop} {P : am_S ⊕ am_O → Prop} {M : am_M} {x1 : Int32} {t2 : Nat} {i2 : Nat} {M1 : am_M} {r1 : Int32} {M2 : am_M} (hc1 : C 37 M [am_R (some (0, 0, 0)), am_I x1, am_R (some (9, t2, i2))] (M1, Sum.inl (some (am_I r1)))) (ht2 : t2 < sh.1) (ht2_i2 : i2 < sh.2.1 t2) (hc2 : C 0 M1 [am_R (some (9, t2, i2))] (M2, Sum.inl none)) (k : P (Sum.inr (M2, Sum.inl none))) : am_ev sh C 34 (18, [some (am_R (some (0, 0, 0))), some (am_I x1), some (am_R (some (9, t2, i2)))], [], M, 0) P := by
  refine am_e_aload_n dd_34_18 rfl rfl ?_
  refine am_e_iload_n dd_34_19 rfl rfl ?_
  refine am_e_aload_n dd_34_20 rfl rfl ?_
  refine am_e_callV (c := 37) (k := 3) (as := [am_R (some (0, 0, 0)), am_I x1, am_R (some (9, t2, i2))]) (S' := [am_I r1]) (v := some (am_I r1)) (M' := M1) (n' := 0) dd_34_21 (by decide +kernel) ⟨Nat.le_of_ble_eq_true rfl, Nat.le_of_ble_eq_true rfl, by decide +kernel, (Or.inr (am_rcv_of rfl))⟩ rfl rfl (by decide +kernel) hc1 rfl ?_
  refine am_e_pop dd_34_24 rfl rfl ?_
  refine am_e_aload_n dd_34_25 rfl rfl ?_
  refine am_e_callV (c := 0) (k := 1) (as := [am_R (some (9, t2, i2))]) (S' := []) (v := none) (M' := M2) (n' := 0) dd_34_26 (by decide +kernel) ⟨Nat.le_of_ble_eq_true rfl, Nat.le_of_ble_eq_true rfl, by decide +kernel, (Or.inr (am_rcv_of (am_ct9 ht2 ht2_i2)))⟩ rfl rfl (by decide +kernel) hc2 rfl ?_
  exact am_e_vret dd_34_29 (by decide +kernel) rfl k

-- 35: CacheLadder.gatherFromAbove(ILCacheLadder$Line;)V
theorem dd_35_0 : decode (am_b 35) 0 = .ok (.iload_n 1, 1) := by decide +kernel
theorem dd_35_1 : decode (am_b 35) 1 = .ok (.iconst 1, 1) := by decide +kernel
theorem dd_35_2 : decode (am_b 35) 2 = .ok (.isub, 1) := by decide +kernel
theorem dd_35_3 : decode (am_b 35) 3 = .ok (.istore_n 3, 1) := by decide +kernel
theorem dd_35_4 : decode (am_b 35) 4 = .ok (.iload_n 3, 1) := by decide +kernel
theorem dd_35_5 : decode (am_b 35) 5 = .ok (.ifCond .lt 66, 3) := by decide +kernel
theorem dd_35_8 : decode (am_b 35) 8 = .ok (.aload_n 0, 1) := by decide +kernel
theorem dd_35_9 : decode (am_b 35) 9 = .ok (.getfield 15, 3) := by decide +kernel
theorem dd_35_12 : decode (am_b 35) 12 = .ok (.iload_n 3, 1) := by decide +kernel
theorem dd_35_13 : decode (am_b 35) 13 = .ok (.aaload, 1) := by decide +kernel
theorem dd_35_14 : decode (am_b 35) 14 = .ok (.aload_n 2, 1) := by decide +kernel
theorem dd_35_15 : decode (am_b 35) 15 = .ok (.getfield 148, 3) := by decide +kernel
theorem dd_35_18 : decode (am_b 35) 18 = .ok (.invokevirtual 157, 3) := by decide +kernel
theorem dd_35_21 : decode (am_b 35) 21 = .ok (.astore 4, 2) := by decide +kernel
theorem dd_35_23 : decode (am_b 35) 23 = .ok (.aload 4, 2) := by decide +kernel
theorem dd_35_25 : decode (am_b 35) 25 = .ok (.ifnull 40, 3) := by decide +kernel
theorem dd_35_28 : decode (am_b 35) 28 = .ok (.aload 4, 2) := by decide +kernel
theorem dd_35_30 : decode (am_b 35) 30 = .ok (.getfield 160, 3) := by decide +kernel
theorem dd_35_33 : decode (am_b 35) 33 = .ok (.aload 4, 2) := by decide +kernel
theorem dd_35_35 : decode (am_b 35) 35 = .ok (.getfield 94, 3) := by decide +kernel
theorem dd_35_38 : decode (am_b 35) 38 = .ok (.aload_n 2, 1) := by decide +kernel
theorem dd_35_39 : decode (am_b 35) 39 = .ok (.getfield 94, 3) := by decide +kernel
theorem dd_35_42 : decode (am_b 35) 42 = .ok (.iconst 0, 1) := by decide +kernel
theorem dd_35_43 : decode (am_b 35) 43 = .ok (.invokestatic 229, 3) := by decide +kernel
theorem dd_35_46 : decode (am_b 35) 46 = .ok (.aload_n 2, 1) := by decide +kernel
theorem dd_35_47 : decode (am_b 35) 47 = .ok (.dup, 1) := by decide +kernel
theorem dd_35_48 : decode (am_b 35) 48 = .ok (.getfield 160, 3) := by decide +kernel
theorem dd_35_51 : decode (am_b 35) 51 = .ok (.aload 4, 2) := by decide +kernel
theorem dd_35_53 : decode (am_b 35) 53 = .ok (.getfield 160, 3) := by decide +kernel
theorem dd_35_56 : decode (am_b 35) 56 = .ok (.ior, 1) := by decide +kernel
theorem dd_35_57 : decode (am_b 35) 57 = .ok (.putfield 160, 3) := by decide +kernel
theorem dd_35_60 : decode (am_b 35) 60 = .ok (.aload 4, 2) := by decide +kernel
theorem dd_35_62 : decode (am_b 35) 62 = .ok (.invokevirtual 226, 3) := by decide +kernel
theorem dd_35_65 : decode (am_b 35) 65 = .ok (.iinc 3 (-1), 3) := by decide +kernel
theorem dd_35_68 : decode (am_b 35) 68 = .ok (.goto (-64), 3) := by decide +kernel
theorem dd_35_71 : decode (am_b 35) 71 = .ok (.return_, 1) := by decide +kernel
theorem sg_35_0 {sh : am_Sh} {C : Nat → am_M → List am_V → am_O → Prop} {P : am_S ⊕ am_O → Prop} {M : am_M} {x1 : Int32} {o2 : Option am_K} {u3 : Option am_V} {u4 : Option am_V}  (k : am_ev sh C 35 (4, [some (am_R (some (0, 0, 0))), some (am_I x1), some (am_R o2), some (am_I (x1 - 1)), u4], [], M, 0) P) : am_ev sh C 35 (0, [some (am_R (some (0, 0, 0))), some (am_I x1), some (am_R o2), u3, u4], [], M, 0) P := by
  refine am_e_iload_n dd_35_0 rfl rfl ?_
  refine am_e_iconst (v := 1) dd_35_1 rfl rfl ?_
  refine am_e_isub dd_35_2 rfl ?_
  refine am_e_istore_n dd_35_3 (Nat.le_of_ble_eq_true rfl) rfl rfl ?_
  exact k

theorem sg_35_4 {sh : am_Sh} {C : Nat → am_M → List am_V → am_O → Prop} {P : am_S ⊕ am_O → Prop} {M : am_M} {x1 : Int32} {o2 : Option am_K} {x3 : Int32} {u4 : Option am_V}  (k1 : x3 < 0 → am_ev sh C 35 (71, [some (am_R (some (0, 0, 0))), some (am_I x1), some (am_R o2), some (am_I x3), u4], [], M, 0) P) (k2 : ¬ x3 < 0 → am_ev sh C 35 (8, [some (am_R (some (0, 0, 0))), some (am_I x1), some (am_R o2), some (am_I x3), u4], [], M, 0) P) : am_ev sh C 35 (4, [some (am_R (some (0, 0, 0))), some (am_I x1), some (am_R o2), some (am_I x3), u4], [], M, 0) P := by
  refine am_e_iload_n dd_35_4 rfl rfl ?_
  exact am_a_if_lt (tgt := 71) (pc' := 8) dd_35_5 rfl rfl k1 k2

theorem sg_35_8 {sh : am_Sh} {C : Nat → am_M → List am_V → am_O → Prop} {P : am_S ⊕ am_O → Prop} {M : am_M} {x1 : Int32} {t2 : Nat} {i2 : Nat} {x3 : Int32} {u4 : Option am_V} {t91 : Nat} {M1 : am_M} {oq1 : Option am_K} (hx_t91 : x3 = nI t91) (ht91 : t91 < sh.1) (hh4 : sh.1 ≤ 4) (ht2 : t2 < sh.1) (ht2_i2 : i2 < sh.2.1 t2) (hc1 : C 2 M [am_R (some (5, t91, 0)), am_I (M (9, t2, i2) 1)] (M1, Sum.inl (some (am_R oq1)))) (k1 : (oq1 = none → am_ev sh C 35 (65, [some (am_R (some (0, 0, 0))), some (am_I x1), some (am_R (some (9, t2, i2))), some (am_I x3), some (am_R oq1)], [], M1, 0) P)) (k2 : ∀ k, oq1 = some k → am_ev sh C 35 (28, [some (am_R (some (0, 0, 0))), some (am_I x1), some (am_R (some (9, t2, i2))), some (am_I x3), some (am_R oq1)], [], M1, 0) P) : am_ev sh C 35 (8, [some (am_R (some (0, 0, 0))), some (am_I x1), some (am_R (some (9, t2, i2))), some (am_I x3), u4], [], M, 0) P := by
  refine am_e_aload_n dd_35_8 rfl rfl ?_
  refine am_e_gf (ci := 2) (j := 1) (v := am_R (some (2, 0, 0))) dd_35_9 (by decide +kernel) rfl rfl rfl ?_
  refine am_e_iload_n dd_35_12 rfl rfl ?_
  refine am_a_rald dd_35_13 rfl (Or.inl rfl) hx_t91 (Nat.lt_of_lt_of_le ht91 hh4) (by decide) (am_rf2 ht91) rfl ?_
  refine am_e_aload_n dd_35_14 rfl rfl ?_
  refine am_e_gf (ci := 0) (j := 1) (v := am_I (M (9, t2, i2) 1)) dd_35_15 (by decide +kernel) (am_ct9 ht2 ht2_i2) rfl rfl ?_
  refine am_e_callV (c := 2) (k := 2) (as := [am_R (some (5, t91, 0)), am_I (M (9, t2, i2) 1)]) (S' := [am_R oq1]) (v := some (am_R oq1)) (M' := M1) (n' := 0) dd_35_18 (by decide +kernel) ⟨Nat.le_of_ble_eq_true rfl, Nat.le_of_ble_eq_true rfl, by decide +kernel, (Or.inr (am_rcv_of (am_ct5 ht91)))⟩ rfl rfl (by decide +kernel) hc1 rfl ?_
  refine am_e_astore dd_35_21 (Nat.le_of_ble_eq_true rfl) rfl rfl ?_
  refine am_e_aload dd_35_23 rfl rfl ?_
  exact am_e_ifnull (tgt := 65) (pc' := 28) dd_35_25 rfl rfl k1 k2

theorem sg_35_28 {sh : am_Sh} {C : Nat → am_M → List am_V → am_O → Prop} {P : am_S ⊕ am_O → Prop} {M : am_M} {x1 : Int32} {t2 : Nat} {i2 : Nat} {x3 : Int32} {t4 : Nat} {i4 : Nat} {M1 : am_M} {M2 : am_M} (ht4 : t4 < sh.1) (ht4_i4 : i4 < sh.2.1 t4) (ht2 : t2 < sh.1) (ht2_i2 : i2 < sh.2.1 t2) (hc1 : C 36 M [am_I (M (9, t4, i4) 2), am_R (some (10, t4, i4)), am_R (some (10, t2, i2)), am_I 0] (M1, Sum.inl none)) (hc2 : C 0 (am_up M1 (9, t2, i2) 2 ((M1 (9, t2, i2) 2) ||| (M1 (9, t4, i4) 2))) [am_R (some (9, t4, i4))] (M2, Sum.inl none)) (k : am_ev sh C 35 (65, [some (am_R (some (0, 0, 0))), some (am_I x1), some (am_R (some (9, t2, i2))), some (am_I x3), some (am_R (some (9, t4, i4)))], [], M2, 0) P) : am_ev sh C 35 (28, [some (am_R (some (0, 0, 0))), some (am_I x1), some (am_R (some (9, t2, i2))), some (am_I x3), some (am_R (some (9, t4, i4)))], [], M, 0) P := by
  refine am_e_aload dd_35_28 rfl rfl ?_
  refine am_e_gf (ci := 0) (j := 2) (v := am_I (M (9, t4, i4) 2)) dd_35_30 (by decide +kernel) (am_ct9 ht4 ht4_i4) rfl rfl ?_
  refine am_e_aload dd_35_33 rfl rfl ?_
  refine am_e_gf (ci := 0) (j := 0) (v := am_R (some (10, t4, i4))) dd_35_35 (by decide +kernel) (am_ct9 ht4 ht4_i4) rfl rfl ?_
  refine am_e_aload_n dd_35_38 rfl rfl ?_
  refine am_e_gf (ci := 0) (j := 0) (v := am_R (some (10, t2, i2))) dd_35_39 (by decide +kernel) (am_ct9 ht2 ht2_i2) rfl rfl ?_
  refine am_e_iconst (v := 0) dd_35_42 rfl rfl ?_
  refine am_e_callS (c := 36) (k := 4) (as := [am_I (M (9, t4, i4) 2), am_R (some (10, t4, i4)), am_R (some (10, t2, i2)), am_I 0]) (S' := []) (v := none) (M' := M1) (n' := 0) dd_35_43 (by decide +kernel) (by decide +kernel) ⟨Nat.le_of_ble_eq_true rfl, Nat.le_of_ble_eq_true rfl, by decide +kernel, (Or.inl rfl)⟩ rfl rfl (by decide +kernel) hc1 rfl ?_
  refine am_e_aload_n dd_35_46 rfl rfl ?_
  refine am_e_dup dd_35_47 rfl rfl ?_
  refine am_e_gf (ci := 0) (j := 2) (v := am_I (M1 (9, t2, i2) 2)) dd_35_48 (by decide +kernel) (am_ct9 ht2 ht2_i2) rfl rfl ?_
  refine am_e_aload dd_35_51 rfl rfl ?_
  refine am_e_gf (ci := 0) (j := 2) (v := am_I (M1 (9, t4, i4) 2)) dd_35_53 (by decide +kernel) (am_ct9 ht4 ht4_i4) rfl rfl ?_
  refine am_e_ior dd_35_56 rfl ?_
  refine am_e_pf (ci := 0) (j := 2) dd_35_57 (by decide +kernel) (am_ct9 ht2 ht2_i2) rfl (Or.inl rfl) rfl ?_
  refine am_e_aload dd_35_60 rfl rfl ?_
  refine am_e_callV (c := 0) (k := 1) (as := [am_R (some (9, t4, i4))]) (S' := []) (v := none) (M' := M2) (n' := 0) dd_35_62 (by decide +kernel) ⟨Nat.le_of_ble_eq_true rfl, Nat.le_of_ble_eq_true rfl, by decide +kernel, (Or.inr (am_rcv_of (am_ct9 ht4 ht4_i4)))⟩ rfl rfl (by decide +kernel) hc2 rfl ?_
  exact k

theorem sg_35_65 {sh : am_Sh} {C : Nat → am_M → List am_V → am_O → Prop} {P : am_S ⊕ am_O → Prop} {M : am_M} {x1 : Int32} {o2 : Option am_K} {x3 : Int32} {o4 : Option am_K}  (k : am_ev sh C 35 (4, [some (am_R (some (0, 0, 0))), some (am_I x1), some (am_R o2), some (am_I (x3 + (-1))), some (am_R o4)], [], M, 0) P) : am_ev sh C 35 (65, [some (am_R (some (0, 0, 0))), some (am_I x1), some (am_R o2), some (am_I x3), some (am_R o4)], [], M, 0) P := by
  refine am_e_iinc (v := x3 + (-1)) dd_35_65 rfl rfl rfl rfl ?_
  refine am_e_goto (pc' := 4) dd_35_68 rfl ?_
  exact k

theorem sg_35_71 {sh : am_Sh} {C : Nat → am_M → List am_V → am_O → Prop} {P : am_S ⊕ am_O → Prop} {M : am_M} {x1 : Int32} {o2 : Option am_K} {x3 : Int32} {u4 : Option am_V}  (k : P (Sum.inr (M, Sum.inl none))) : am_ev sh C 35 (71, [some (am_R (some (0, 0, 0))), some (am_I x1), some (am_R o2), some (am_I x3), u4], [], M, 0) P := by
  exact am_e_vret dd_35_71 (by decide +kernel) rfl k

