-- 100: CacheLadderModel.traffic(Z)I
theorem dd_100_0 : decode (am_b 100) 0 = .ok (.aload_n 0, 1) := by decide +kernel
theorem dd_100_1 : decode (am_b 100) 1 = .ok (.iconst 0, 1) := by decide +kernel
theorem dd_100_2 : decode (am_b 100) 2 = .ok (.putfield 83, 3) := by decide +kernel
theorem dd_100_5 : decode (am_b 100) 5 = .ok (.iload_n 1, 1) := by decide +kernel
theorem dd_100_6 : decode (am_b 100) 6 = .ok (.ifCond .eq 10, 3) := by decide +kernel
theorem dd_100_9 : decode (am_b 100) 9 = .ok (.aload_n 0, 1) := by decide +kernel
theorem dd_100_10 : decode (am_b 100) 10 = .ok (.getfield 154, 3) := by decide +kernel
theorem dd_100_13 : decode (am_b 100) 13 = .ok (.goto 7, 3) := by decide +kernel
theorem dd_100_16 : decode (am_b 100) 16 = .ok (.aload_n 0, 1) := by decide +kernel
theorem dd_100_17 : decode (am_b 100) 17 = .ok (.getfield 134, 3) := by decide +kernel
theorem dd_100_20 : decode (am_b 100) 20 = .ok (.ireturn, 1) := by decide +kernel
theorem sg_100_0 {sh : am_Sh} {C : Nat → am_M → List am_V → am_O → Prop} {P : am_S ⊕ am_O → Prop} {M : am_M} {x1 : Int32}  (k1 : x1 = 0 → am_ev sh C 100 (16, [some (am_R (some (20, 0, 0))), some (am_I x1)], [], (am_up M (20, 0, 0) 0 0), 0) P) (k2 : ¬ x1 = 0 → am_ev sh C 100 (9, [some (am_R (some (20, 0, 0))), some (am_I x1)], [], (am_up M (20, 0, 0) 0 0), 0) P) : am_ev sh C 100 (0, [some (am_R (some (20, 0, 0))), some (am_I x1)], [], M, 0) P := by
  refine am_e_aload_n dd_100_0 rfl rfl ?_
  refine am_e_iconst (v := 0) dd_100_1 rfl rfl ?_
  refine am_e_pf (ci := 3) (j := 0) dd_100_2 (by decide +kernel) rfl rfl (Or.inl rfl) rfl ?_
  refine am_e_iload_n dd_100_5 rfl rfl ?_
  exact am_a_if_eq (tgt := 16) (pc' := 9) dd_100_6 rfl rfl k1 k2

theorem sg_100_9 {sh : am_Sh} {C : Nat → am_M → List am_V → am_O → Prop} {P : am_S ⊕ am_O → Prop} {M : am_M} {x1 : Int32}  (k : am_ev sh C 100 (20, [some (am_R (some (20, 0, 0))), some (am_I x1)], [am_I (M (20, 0, 0) 20)], M, 0) P) : am_ev sh C 100 (9, [some (am_R (some (20, 0, 0))), some (am_I x1)], [], M, 0) P := by
  refine am_e_aload_n dd_100_9 rfl rfl ?_
  refine am_e_gf (ci := 3) (j := 20) (v := am_I (M (20, 0, 0) 20)) dd_100_10 (by decide +kernel) rfl rfl rfl ?_
  refine am_e_goto (pc' := 20) dd_100_13 rfl ?_
  exact k

theorem sg_100_16 {sh : am_Sh} {C : Nat → am_M → List am_V → am_O → Prop} {P : am_S ⊕ am_O → Prop} {M : am_M} {x1 : Int32}  (k : am_ev sh C 100 (20, [some (am_R (some (20, 0, 0))), some (am_I x1)], [am_I (M (20, 0, 0) 19)], M, 0) P) : am_ev sh C 100 (16, [some (am_R (some (20, 0, 0))), some (am_I x1)], [], M, 0) P := by
  refine am_e_aload_n dd_100_16 rfl rfl ?_
  refine am_e_gf (ci := 3) (j := 19) (v := am_I (M (20, 0, 0) 19)) dd_100_17 (by decide +kernel) rfl rfl rfl ?_
  exact k

theorem sg_100_20 {sh : am_Sh} {C : Nat → am_M → List am_V → am_O → Prop} {P : am_S ⊕ am_O → Prop} {M : am_M} {x1 : Int32} {xs0 : Int32}  (k : P (Sum.inr (M, Sum.inl (some (am_I xs0))))) : am_ev sh C 100 (20, [some (am_R (some (20, 0, 0))), some (am_I x1)], [am_I xs0], M, 0) P := by
  exact am_e_iret dd_100_20 (by decide +kernel) (Or.inl rfl) k

-- 101: CacheLadderModel.line(III)I
theorem dd_101_0 : decode (am_b 101) 0 = .ok (.aload_n 0, 1) := by decide +kernel
theorem dd_101_1 : decode (am_b 101) 1 = .ok (.aload_n 0, 1) := by decide +kernel
theorem dd_101_2 : decode (am_b 101) 2 = .ok (.iload_n 1, 1) := by decide +kernel
theorem dd_101_3 : decode (am_b 101) 3 = .ok (.invokevirtual 194, 3) := by decide +kernel
theorem dd_101_6 : decode (am_b 101) 6 = .ok (.ifCond .eq 39, 3) := by decide +kernel
theorem dd_101_9 : decode (am_b 101) 9 = .ok (.iload_n 2, 1) := by decide +kernel
theorem dd_101_10 : decode (am_b 101) 10 = .ok (.iconst 0, 1) := by decide +kernel
theorem dd_101_11 : decode (am_b 101) 11 = .ok (.aload_n 0, 1) := by decide +kernel
theorem dd_101_12 : decode (am_b 101) 12 = .ok (.getfield 7, 3) := by decide +kernel
theorem dd_101_15 : decode (am_b 101) 15 = .ok (.iload_n 1, 1) := by decide +kernel
theorem dd_101_16 : decode (am_b 101) 16 = .ok (.iaload, 1) := by decide +kernel
theorem dd_101_17 : decode (am_b 101) 17 = .ok (.iconst 1, 1) := by decide +kernel
theorem dd_101_18 : decode (am_b 101) 18 = .ok (.isub, 1) := by decide +kernel
theorem dd_101_19 : decode (am_b 101) 19 = .ok (.invokestatic 174, 3) := by decide +kernel
theorem dd_101_22 : decode (am_b 101) 22 = .ok (.ifCond .eq 23, 3) := by decide +kernel
theorem dd_101_25 : decode (am_b 101) 25 = .ok (.iload_n 3, 1) := by decide +kernel
theorem dd_101_26 : decode (am_b 101) 26 = .ok (.iconst 0, 1) := by decide +kernel
theorem dd_101_27 : decode (am_b 101) 27 = .ok (.aload_n 0, 1) := by decide +kernel
theorem dd_101_28 : decode (am_b 101) 28 = .ok (.getfield 13, 3) := by decide +kernel
theorem dd_101_31 : decode (am_b 101) 31 = .ok (.iload_n 1, 1) := by decide +kernel
theorem dd_101_32 : decode (am_b 101) 32 = .ok (.iaload, 1) := by decide +kernel
theorem dd_101_33 : decode (am_b 101) 33 = .ok (.iconst 1, 1) := by decide +kernel
theorem dd_101_34 : decode (am_b 101) 34 = .ok (.isub, 1) := by decide +kernel
theorem dd_101_35 : decode (am_b 101) 35 = .ok (.invokestatic 174, 3) := by decide +kernel
theorem dd_101_38 : decode (am_b 101) 38 = .ok (.ifCond .eq 7, 3) := by decide +kernel
theorem dd_101_41 : decode (am_b 101) 41 = .ok (.iconst 0, 1) := by decide +kernel
theorem dd_101_42 : decode (am_b 101) 42 = .ok (.goto 4, 3) := by decide +kernel
theorem dd_101_45 : decode (am_b 101) 45 = .ok (.iconst 1, 1) := by decide +kernel
theorem dd_101_46 : decode (am_b 101) 46 = .ok (.putfield 83, 3) := by decide +kernel
theorem dd_101_49 : decode (am_b 101) 49 = .ok (.aload_n 0, 1) := by decide +kernel
theorem dd_101_50 : decode (am_b 101) 50 = .ok (.getfield 83, 3) := by decide +kernel
theorem dd_101_53 : decode (am_b 101) 53 = .ok (.ifCond .le 7, 3) := by decide +kernel
theorem dd_101_56 : decode (am_b 101) 56 = .ok (.iconst 0, 1) := by decide +kernel
theorem dd_101_57 : decode (am_b 101) 57 = .ok (.goto 16, 3) := by decide +kernel
theorem dd_101_60 : decode (am_b 101) 60 = .ok (.aload_n 0, 1) := by decide +kernel
theorem dd_101_61 : decode (am_b 101) 61 = .ok (.getfield 32, 3) := by decide +kernel
theorem dd_101_64 : decode (am_b 101) 64 = .ok (.aload_n 0, 1) := by decide +kernel
theorem dd_101_65 : decode (am_b 101) 65 = .ok (.iload_n 1, 1) := by decide +kernel
theorem dd_101_66 : decode (am_b 101) 66 = .ok (.iload_n 2, 1) := by decide +kernel
theorem dd_101_67 : decode (am_b 101) 67 = .ok (.invokevirtual 87, 3) := by decide +kernel
theorem dd_101_70 : decode (am_b 101) 70 = .ok (.iload_n 3, 1) := by decide +kernel
theorem dd_101_71 : decode (am_b 101) 71 = .ok (.iadd, 1) := by decide +kernel
theorem dd_101_72 : decode (am_b 101) 72 = .ok (.iaload, 1) := by decide +kernel
theorem dd_101_73 : decode (am_b 101) 73 = .ok (.ireturn, 1) := by decide +kernel
theorem sg_101_0 {sh : am_Sh} {C : Nat → am_M → List am_V → am_O → Prop} {P : am_S ⊕ am_O → Prop} {M : am_M} {x1 : Int32} {x2 : Int32} {x3 : Int32} {M1 : am_M} {r1 : Int32} (hc1 : C 95 M [am_R (some (20, 0, 0)), am_I x1] (M1, Sum.inl (some (am_I r1)))) (k1 : r1 = 0 → am_ev sh C 101 (45, [some (am_R (some (20, 0, 0))), some (am_I x1), some (am_I x2), some (am_I x3)], [am_R (some (20, 0, 0))], M1, 0) P) (k2 : ¬ r1 = 0 → am_ev sh C 101 (9, [some (am_R (some (20, 0, 0))), some (am_I x1), some (am_I x2), some (am_I x3)], [am_R (some (20, 0, 0))], M1, 0) P) : am_ev sh C 101 (0, [some (am_R (some (20, 0, 0))), some (am_I x1), some (am_I x2), some (am_I x3)], [], M, 0) P := by
  refine am_e_aload_n dd_101_0 rfl rfl ?_
  refine am_e_aload_n dd_101_1 rfl rfl ?_
  refine am_e_iload_n dd_101_2 rfl rfl ?_
  refine am_e_callV (c := 95) (k := 2) (as := [am_R (some (20, 0, 0)), am_I x1]) (S' := [am_I r1, am_R (some (20, 0, 0))]) (v := some (am_I r1)) (M' := M1) (n' := 0) dd_101_3 (by decide +kernel) ⟨Nat.le_of_ble_eq_true rfl, Nat.le_of_ble_eq_true rfl, by decide +kernel, (Or.inr (am_rcv_of rfl))⟩ rfl rfl (by decide +kernel) hc1 rfl ?_
  exact am_a_if_eq (tgt := 45) (pc' := 9) dd_101_6 rfl rfl k1 k2

theorem sg_101_9 {sh : am_Sh} {C : Nat → am_M → List am_V → am_O → Prop} {P : am_S ⊕ am_O → Prop} {M : am_M} {x1 : Int32} {x2 : Int32} {x3 : Int32} {j1 : Nat} {M1 : am_M} {r1 : Int32} (hx_j1 : x1 = nI j1) (hl_j1 : j1 < 4) (hc1 : C 62 M [am_I x2, am_I 0, am_I ((M (21, 3, 0) j1) - 1)] (M1, Sum.inl (some (am_I r1)))) (k1 : r1 = 0 → am_ev sh C 101 (45, [some (am_R (some (20, 0, 0))), some (am_I x1), some (am_I x2), some (am_I x3)], [am_R (some (20, 0, 0))], M1, 0) P) (k2 : ¬ r1 = 0 → am_ev sh C 101 (25, [some (am_R (some (20, 0, 0))), some (am_I x1), some (am_I x2), some (am_I x3)], [am_R (some (20, 0, 0))], M1, 0) P) : am_ev sh C 101 (9, [some (am_R (some (20, 0, 0))), some (am_I x1), some (am_I x2), some (am_I x3)], [am_R (some (20, 0, 0))], M, 0) P := by
  refine am_e_iload_n dd_101_9 rfl rfl ?_
  refine am_e_iconst (v := 0) dd_101_10 rfl rfl ?_
  refine am_e_aload_n dd_101_11 rfl rfl ?_
  refine am_e_gf (ci := 3) (j := 3) (v := am_R (some (21, 3, 0))) dd_101_12 (by decide +kernel) rfl rfl rfl ?_
  refine am_e_iload_n dd_101_15 rfl rfl ?_
  refine am_a_iald dd_101_16 rfl hx_j1 hl_j1 (by decide) rfl ?_
  refine am_e_iconst (v := 1) dd_101_17 rfl rfl ?_
  refine am_e_isub dd_101_18 rfl ?_
  refine am_e_callS (c := 62) (k := 3) (as := [am_I x2, am_I 0, am_I ((M (21, 3, 0) j1) - 1)]) (S' := [am_I r1, am_R (some (20, 0, 0))]) (v := some (am_I r1)) (M' := M1) (n' := 0) dd_101_19 (by decide +kernel) (by decide +kernel) ⟨Nat.le_of_ble_eq_true rfl, Nat.le_of_ble_eq_true rfl, by decide +kernel, (Or.inl rfl)⟩ rfl rfl (by decide +kernel) hc1 rfl ?_
  exact am_a_if_eq (tgt := 45) (pc' := 25) dd_101_22 rfl rfl k1 k2

theorem sg_101_25 {sh : am_Sh} {C : Nat → am_M → List am_V → am_O → Prop} {P : am_S ⊕ am_O → Prop} {M : am_M} {x1 : Int32} {x2 : Int32} {x3 : Int32} {j1 : Nat} {M1 : am_M} {r1 : Int32} (hx_j1 : x1 = nI j1) (hl_j1 : j1 < 4) (hc1 : C 62 M [am_I x3, am_I 0, am_I ((M (21, 4, 0) j1) - 1)] (M1, Sum.inl (some (am_I r1)))) (k1 : r1 = 0 → am_ev sh C 101 (45, [some (am_R (some (20, 0, 0))), some (am_I x1), some (am_I x2), some (am_I x3)], [am_R (some (20, 0, 0))], M1, 0) P) (k2 : ¬ r1 = 0 → am_ev sh C 101 (41, [some (am_R (some (20, 0, 0))), some (am_I x1), some (am_I x2), some (am_I x3)], [am_R (some (20, 0, 0))], M1, 0) P) : am_ev sh C 101 (25, [some (am_R (some (20, 0, 0))), some (am_I x1), some (am_I x2), some (am_I x3)], [am_R (some (20, 0, 0))], M, 0) P := by
  refine am_e_iload_n dd_101_25 rfl rfl ?_
  refine am_e_iconst (v := 0) dd_101_26 rfl rfl ?_
  refine am_e_aload_n dd_101_27 rfl rfl ?_
  refine am_e_gf (ci := 3) (j := 4) (v := am_R (some (21, 4, 0))) dd_101_28 (by decide +kernel) rfl rfl rfl ?_
  refine am_e_iload_n dd_101_31 rfl rfl ?_
  refine am_a_iald dd_101_32 rfl hx_j1 hl_j1 (by decide) rfl ?_
  refine am_e_iconst (v := 1) dd_101_33 rfl rfl ?_
  refine am_e_isub dd_101_34 rfl ?_
  refine am_e_callS (c := 62) (k := 3) (as := [am_I x3, am_I 0, am_I ((M (21, 4, 0) j1) - 1)]) (S' := [am_I r1, am_R (some (20, 0, 0))]) (v := some (am_I r1)) (M' := M1) (n' := 0) dd_101_35 (by decide +kernel) (by decide +kernel) ⟨Nat.le_of_ble_eq_true rfl, Nat.le_of_ble_eq_true rfl, by decide +kernel, (Or.inl rfl)⟩ rfl rfl (by decide +kernel) hc1 rfl ?_
  exact am_a_if_eq (tgt := 45) (pc' := 41) dd_101_38 rfl rfl k1 k2

theorem sg_101_41 {sh : am_Sh} {C : Nat → am_M → List am_V → am_O → Prop} {P : am_S ⊕ am_O → Prop} {M : am_M} {x1 : Int32} {x2 : Int32} {x3 : Int32}  (k : am_ev sh C 101 (46, [some (am_R (some (20, 0, 0))), some (am_I x1), some (am_I x2), some (am_I x3)], [am_I 0, am_R (some (20, 0, 0))], M, 0) P) : am_ev sh C 101 (41, [some (am_R (some (20, 0, 0))), some (am_I x1), some (am_I x2), some (am_I x3)], [am_R (some (20, 0, 0))], M, 0) P := by
  refine am_e_iconst (v := 0) dd_101_41 rfl rfl ?_
  refine am_e_goto (pc' := 46) dd_101_42 rfl ?_
  exact k

theorem sg_101_45 {sh : am_Sh} {C : Nat → am_M → List am_V → am_O → Prop} {P : am_S ⊕ am_O → Prop} {M : am_M} {x1 : Int32} {x2 : Int32} {x3 : Int32}  (k : am_ev sh C 101 (46, [some (am_R (some (20, 0, 0))), some (am_I x1), some (am_I x2), some (am_I x3)], [am_I 1, am_R (some (20, 0, 0))], M, 0) P) : am_ev sh C 101 (45, [some (am_R (some (20, 0, 0))), some (am_I x1), some (am_I x2), some (am_I x3)], [am_R (some (20, 0, 0))], M, 0) P := by
  refine am_e_iconst (v := 1) dd_101_45 rfl rfl ?_
  exact k

theorem sg_101_46 {sh : am_Sh} {C : Nat → am_M → List am_V → am_O → Prop} {P : am_S ⊕ am_O → Prop} {M : am_M} {x1 : Int32} {x2 : Int32} {x3 : Int32} {xs1 : Int32}  (k1 : ((am_up M (20, 0, 0) 0 xs1) (20, 0, 0) 0) ≤ 0 → am_ev sh C 101 (60, [some (am_R (some (20, 0, 0))), some (am_I x1), some (am_I x2), some (am_I x3)], [], (am_up M (20, 0, 0) 0 xs1), 0) P) (k2 : ¬ ((am_up M (20, 0, 0) 0 xs1) (20, 0, 0) 0) ≤ 0 → am_ev sh C 101 (56, [some (am_R (some (20, 0, 0))), some (am_I x1), some (am_I x2), some (am_I x3)], [], (am_up M (20, 0, 0) 0 xs1), 0) P) : am_ev sh C 101 (46, [some (am_R (some (20, 0, 0))), some (am_I x1), some (am_I x2), some (am_I x3)], [am_I xs1, am_R (some (20, 0, 0))], M, 0) P := by
  refine am_e_pf (ci := 3) (j := 0) dd_101_46 (by decide +kernel) rfl rfl (Or.inl rfl) rfl ?_
  refine am_e_aload_n dd_101_49 rfl rfl ?_
  refine am_e_gf (ci := 3) (j := 0) (v := am_I ((am_up M (20, 0, 0) 0 xs1) (20, 0, 0) 0)) dd_101_50 (by decide +kernel) rfl rfl rfl ?_
  exact am_a_if_le (tgt := 60) (pc' := 56) dd_101_53 rfl rfl k1 k2

theorem sg_101_56 {sh : am_Sh} {C : Nat → am_M → List am_V → am_O → Prop} {P : am_S ⊕ am_O → Prop} {M : am_M} {x1 : Int32} {x2 : Int32} {x3 : Int32}  (k : am_ev sh C 101 (73, [some (am_R (some (20, 0, 0))), some (am_I x1), some (am_I x2), some (am_I x3)], [am_I 0], M, 0) P) : am_ev sh C 101 (56, [some (am_R (some (20, 0, 0))), some (am_I x1), some (am_I x2), some (am_I x3)], [], M, 0) P := by
  refine am_e_iconst (v := 0) dd_101_56 rfl rfl ?_
  refine am_e_goto (pc' := 73) dd_101_57 rfl ?_
  exact k

theorem sg_101_60 {sh : am_Sh} {C : Nat → am_M → List am_V → am_O → Prop} {P : am_S ⊕ am_O → Prop} {M : am_M} {x1 : Int32} {x2 : Int32} {x3 : Int32} {M1 : am_M} {r1 : Int32} {j1 : Nat} (hc1 : C 69 M [am_R (some (20, 0, 0)), am_I x1, am_I x2] (M1, Sum.inl (some (am_I r1)))) (hx_j1 : r1 + x3 = nI j1) (hl_j1 : j1 < 256) (k : am_ev sh C 101 (73, [some (am_R (some (20, 0, 0))), some (am_I x1), some (am_I x2), some (am_I x3)], [am_I (M1 (21, 10, 0) j1)], M1, 0) P) : am_ev sh C 101 (60, [some (am_R (some (20, 0, 0))), some (am_I x1), some (am_I x2), some (am_I x3)], [], M, 0) P := by
  refine am_e_aload_n dd_101_60 rfl rfl ?_
  refine am_e_gf (ci := 3) (j := 10) (v := am_R (some (21, 10, 0))) dd_101_61 (by decide +kernel) rfl rfl rfl ?_
  refine am_e_aload_n dd_101_64 rfl rfl ?_
  refine am_e_iload_n dd_101_65 rfl rfl ?_
  refine am_e_iload_n dd_101_66 rfl rfl ?_
  refine am_e_callV (c := 69) (k := 3) (as := [am_R (some (20, 0, 0)), am_I x1, am_I x2]) (S' := [am_I r1, am_R (some (21, 10, 0))]) (v := some (am_I r1)) (M' := M1) (n' := 0) dd_101_67 (by decide +kernel) ⟨Nat.le_of_ble_eq_true rfl, Nat.le_of_ble_eq_true rfl, by decide +kernel, (Or.inr (am_rcv_of rfl))⟩ rfl rfl (by decide +kernel) hc1 rfl ?_
  refine am_e_iload_n dd_101_70 rfl rfl ?_
  refine am_e_iadd dd_101_71 rfl ?_
  refine am_a_iald dd_101_72 rfl hx_j1 hl_j1 (by decide) rfl ?_
  exact k

theorem sg_101_73 {sh : am_Sh} {C : Nat → am_M → List am_V → am_O → Prop} {P : am_S ⊕ am_O → Prop} {M : am_M} {x1 : Int32} {x2 : Int32} {x3 : Int32} {xs0 : Int32}  (k : P (Sum.inr (M, Sum.inl (some (am_I xs0))))) : am_ev sh C 101 (73, [some (am_R (some (20, 0, 0))), some (am_I x1), some (am_I x2), some (am_I x3)], [am_I xs0], M, 0) P := by
  exact am_e_iret dd_101_73 (by decide +kernel) (Or.inl rfl) k

-- 102: CacheLadderModel.way(II)I
theorem dd_102_0 : decode (am_b 102) 0 = .ok (.aload_n 0, 1) := by decide +kernel
theorem dd_102_1 : decode (am_b 102) 1 = .ok (.aload_n 0, 1) := by decide +kernel
theorem dd_102_2 : decode (am_b 102) 2 = .ok (.iload_n 1, 1) := by decide +kernel
theorem dd_102_3 : decode (am_b 102) 3 = .ok (.invokevirtual 194, 3) := by decide +kernel
theorem dd_102_6 : decode (am_b 102) 6 = .ok (.ifCond .eq 18, 3) := by decide +kernel
theorem dd_102_9 : decode (am_b 102) 9 = .ok (.iload_n 2, 1) := by decide +kernel
theorem dd_102_10 : decode (am_b 102) 10 = .ok (.iconst 0, 1) := by decide +kernel
theorem dd_102_11 : decode (am_b 102) 11 = .ok (.sipush 255, 3) := by decide +kernel
theorem dd_102_14 : decode (am_b 102) 14 = .ok (.invokestatic 174, 3) := by decide +kernel
theorem dd_102_17 : decode (am_b 102) 17 = .ok (.ifCond .eq 7, 3) := by decide +kernel
theorem dd_102_20 : decode (am_b 102) 20 = .ok (.iconst 0, 1) := by decide +kernel
theorem dd_102_21 : decode (am_b 102) 21 = .ok (.goto 4, 3) := by decide +kernel
theorem dd_102_24 : decode (am_b 102) 24 = .ok (.iconst 1, 1) := by decide +kernel
theorem dd_102_25 : decode (am_b 102) 25 = .ok (.putfield 83, 3) := by decide +kernel
theorem dd_102_28 : decode (am_b 102) 28 = .ok (.aload_n 0, 1) := by decide +kernel
theorem dd_102_29 : decode (am_b 102) 29 = .ok (.getfield 83, 3) := by decide +kernel
theorem dd_102_32 : decode (am_b 102) 32 = .ok (.ifCond .le 5, 3) := by decide +kernel
theorem dd_102_35 : decode (am_b 102) 35 = .ok (.iconst 0, 1) := by decide +kernel
theorem dd_102_36 : decode (am_b 102) 36 = .ok (.ireturn, 1) := by decide +kernel
theorem dd_102_37 : decode (am_b 102) 37 = .ok (.aload_n 0, 1) := by decide +kernel
theorem dd_102_38 : decode (am_b 102) 38 = .ok (.iload_n 1, 1) := by decide +kernel
theorem dd_102_39 : decode (am_b 102) 39 = .ok (.iload_n 2, 1) := by decide +kernel
theorem dd_102_40 : decode (am_b 102) 40 = .ok (.invokevirtual 137, 3) := by decide +kernel
theorem dd_102_43 : decode (am_b 102) 43 = .ok (.istore_n 3, 1) := by decide +kernel
theorem dd_102_44 : decode (am_b 102) 44 = .ok (.iload_n 3, 1) := by decide +kernel
theorem dd_102_45 : decode (am_b 102) 45 = .ok (.ifCond .ge 7, 3) := by decide +kernel
theorem dd_102_48 : decode (am_b 102) 48 = .ok (.iconst (-1), 1) := by decide +kernel
theorem dd_102_49 : decode (am_b 102) 49 = .ok (.goto 6, 3) := by decide +kernel
theorem dd_102_52 : decode (am_b 102) 52 = .ok (.iload_n 3, 1) := by decide +kernel
theorem dd_102_53 : decode (am_b 102) 53 = .ok (.iconst 4, 1) := by decide +kernel
theorem dd_102_54 : decode (am_b 102) 54 = .ok (.irem, 1) := by decide +kernel
theorem dd_102_55 : decode (am_b 102) 55 = .ok (.ireturn, 1) := by decide +kernel
theorem sg_102_0 {sh : am_Sh} {C : Nat → am_M → List am_V → am_O → Prop} {P : am_S ⊕ am_O → Prop} {M : am_M} {x1 : Int32} {x2 : Int32} {u3 : Option am_V} {M1 : am_M} {r1 : Int32} (hc1 : C 95 M [am_R (some (20, 0, 0)), am_I x1] (M1, Sum.inl (some (am_I r1)))) (k1 : r1 = 0 → am_ev sh C 102 (24, [some (am_R (some (20, 0, 0))), some (am_I x1), some (am_I x2), u3], [am_R (some (20, 0, 0))], M1, 0) P) (k2 : ¬ r1 = 0 → am_ev sh C 102 (9, [some (am_R (some (20, 0, 0))), some (am_I x1), some (am_I x2), u3], [am_R (some (20, 0, 0))], M1, 0) P) : am_ev sh C 102 (0, [some (am_R (some (20, 0, 0))), some (am_I x1), some (am_I x2), u3], [], M, 0) P := by
  refine am_e_aload_n dd_102_0 rfl rfl ?_
  refine am_e_aload_n dd_102_1 rfl rfl ?_
  refine am_e_iload_n dd_102_2 rfl rfl ?_
  refine am_e_callV (c := 95) (k := 2) (as := [am_R (some (20, 0, 0)), am_I x1]) (S' := [am_I r1, am_R (some (20, 0, 0))]) (v := some (am_I r1)) (M' := M1) (n' := 0) dd_102_3 (by decide +kernel) ⟨Nat.le_of_ble_eq_true rfl, Nat.le_of_ble_eq_true rfl, by decide +kernel, (Or.inr (am_rcv_of rfl))⟩ rfl rfl (by decide +kernel) hc1 rfl ?_
  exact am_a_if_eq (tgt := 24) (pc' := 9) dd_102_6 rfl rfl k1 k2

theorem sg_102_9 {sh : am_Sh} {C : Nat → am_M → List am_V → am_O → Prop} {P : am_S ⊕ am_O → Prop} {M : am_M} {x1 : Int32} {x2 : Int32} {u3 : Option am_V} {M1 : am_M} {r1 : Int32} (hc1 : C 62 M [am_I x2, am_I 0, am_I 255] (M1, Sum.inl (some (am_I r1)))) (k1 : r1 = 0 → am_ev sh C 102 (24, [some (am_R (some (20, 0, 0))), some (am_I x1), some (am_I x2), u3], [am_R (some (20, 0, 0))], M1, 0) P) (k2 : ¬ r1 = 0 → am_ev sh C 102 (20, [some (am_R (some (20, 0, 0))), some (am_I x1), some (am_I x2), u3], [am_R (some (20, 0, 0))], M1, 0) P) : am_ev sh C 102 (9, [some (am_R (some (20, 0, 0))), some (am_I x1), some (am_I x2), u3], [am_R (some (20, 0, 0))], M, 0) P := by
  refine am_e_iload_n dd_102_9 rfl rfl ?_
  refine am_e_iconst (v := 0) dd_102_10 rfl rfl ?_
  refine am_e_sipush (v := 255) dd_102_11 (by decide) rfl ?_
  refine am_e_callS (c := 62) (k := 3) (as := [am_I x2, am_I 0, am_I 255]) (S' := [am_I r1, am_R (some (20, 0, 0))]) (v := some (am_I r1)) (M' := M1) (n' := 0) dd_102_14 (by decide +kernel) (by decide +kernel) ⟨Nat.le_of_ble_eq_true rfl, Nat.le_of_ble_eq_true rfl, by decide +kernel, (Or.inl rfl)⟩ rfl rfl (by decide +kernel) hc1 rfl ?_
  exact am_a_if_eq (tgt := 24) (pc' := 20) dd_102_17 rfl rfl k1 k2

theorem sg_102_20 {sh : am_Sh} {C : Nat → am_M → List am_V → am_O → Prop} {P : am_S ⊕ am_O → Prop} {M : am_M} {x1 : Int32} {x2 : Int32} {u3 : Option am_V}  (k : am_ev sh C 102 (25, [some (am_R (some (20, 0, 0))), some (am_I x1), some (am_I x2), u3], [am_I 0, am_R (some (20, 0, 0))], M, 0) P) : am_ev sh C 102 (20, [some (am_R (some (20, 0, 0))), some (am_I x1), some (am_I x2), u3], [am_R (some (20, 0, 0))], M, 0) P := by
  refine am_e_iconst (v := 0) dd_102_20 rfl rfl ?_
  refine am_e_goto (pc' := 25) dd_102_21 rfl ?_
  exact k

theorem sg_102_24 {sh : am_Sh} {C : Nat → am_M → List am_V → am_O → Prop} {P : am_S ⊕ am_O → Prop} {M : am_M} {x1 : Int32} {x2 : Int32} {u3 : Option am_V}  (k : am_ev sh C 102 (25, [some (am_R (some (20, 0, 0))), some (am_I x1), some (am_I x2), u3], [am_I 1, am_R (some (20, 0, 0))], M, 0) P) : am_ev sh C 102 (24, [some (am_R (some (20, 0, 0))), some (am_I x1), some (am_I x2), u3], [am_R (some (20, 0, 0))], M, 0) P := by
  refine am_e_iconst (v := 1) dd_102_24 rfl rfl ?_
  exact k

theorem sg_102_25 {sh : am_Sh} {C : Nat → am_M → List am_V → am_O → Prop} {P : am_S ⊕ am_O → Prop} {M : am_M} {x1 : Int32} {x2 : Int32} {u3 : Option am_V} {xs1 : Int32}  (k1 : ((am_up M (20, 0, 0) 0 xs1) (20, 0, 0) 0) ≤ 0 → am_ev sh C 102 (37, [some (am_R (some (20, 0, 0))), some (am_I x1), some (am_I x2), u3], [], (am_up M (20, 0, 0) 0 xs1), 0) P) (k2 : ¬ ((am_up M (20, 0, 0) 0 xs1) (20, 0, 0) 0) ≤ 0 → am_ev sh C 102 (35, [some (am_R (some (20, 0, 0))), some (am_I x1), some (am_I x2), u3], [], (am_up M (20, 0, 0) 0 xs1), 0) P) : am_ev sh C 102 (25, [some (am_R (some (20, 0, 0))), some (am_I x1), some (am_I x2), u3], [am_I xs1, am_R (some (20, 0, 0))], M, 0) P := by
  refine am_e_pf (ci := 3) (j := 0) dd_102_25 (by decide +kernel) rfl rfl (Or.inl rfl) rfl ?_
  refine am_e_aload_n dd_102_28 rfl rfl ?_
  refine am_e_gf (ci := 3) (j := 0) (v := am_I ((am_up M (20, 0, 0) 0 xs1) (20, 0, 0) 0)) dd_102_29 (by decide +kernel) rfl rfl rfl ?_
  exact am_a_if_le (tgt := 37) (pc' := 35) dd_102_32 rfl rfl k1 k2

theorem sg_102_35 {sh : am_Sh} {C : Nat → am_M → List am_V → am_O → Prop} {P : am_S ⊕ am_O → Prop} {M : am_M} {x1 : Int32} {x2 : Int32} {u3 : Option am_V}  (k : P (Sum.inr (M, Sum.inl (some (am_I 0))))) : am_ev sh C 102 (35, [some (am_R (some (20, 0, 0))), some (am_I x1), some (am_I x2), u3], [], M, 0) P := by
  refine am_e_iconst (v := 0) dd_102_35 rfl rfl ?_
  exact am_e_iret dd_102_36 (by decide +kernel) (Or.inl rfl) k

theorem sg_102_37 {sh : am_Sh} {C : Nat → am_M → List am_V → am_O → Prop} {P : am_S ⊕ am_O → Prop} {M : am_M} {x1 : Int32} {x2 : Int32} {u3 : Option am_V} {M1 : am_M} {r1 : Int32} (hc1 : C 68 M [am_R (some (20, 0, 0)), am_I x1, am_I x2] (M1, Sum.inl (some (am_I r1)))) (k1 : 0 ≤ r1 → am_ev sh C 102 (52, [some (am_R (some (20, 0, 0))), some (am_I x1), some (am_I x2), some (am_I r1)], [], M1, 0) P) (k2 : ¬ 0 ≤ r1 → am_ev sh C 102 (48, [some (am_R (some (20, 0, 0))), some (am_I x1), some (am_I x2), some (am_I r1)], [], M1, 0) P) : am_ev sh C 102 (37, [some (am_R (some (20, 0, 0))), some (am_I x1), some (am_I x2), u3], [], M, 0) P := by
  refine am_e_aload_n dd_102_37 rfl rfl ?_
  refine am_e_iload_n dd_102_38 rfl rfl ?_
  refine am_e_iload_n dd_102_39 rfl rfl ?_
  refine am_e_callV (c := 68) (k := 3) (as := [am_R (some (20, 0, 0)), am_I x1, am_I x2]) (S' := [am_I r1]) (v := some (am_I r1)) (M' := M1) (n' := 0) dd_102_40 (by decide +kernel) ⟨Nat.le_of_ble_eq_true rfl, Nat.le_of_ble_eq_true rfl, by decide +kernel, (Or.inr (am_rcv_of rfl))⟩ rfl rfl (by decide +kernel) hc1 rfl ?_
  refine am_e_istore_n dd_102_43 (Nat.le_of_ble_eq_true rfl) rfl rfl ?_
  refine am_e_iload_n dd_102_44 rfl rfl ?_
  exact am_a_if_ge (tgt := 52) (pc' := 48) dd_102_45 rfl rfl k1 k2

theorem sg_102_48 {sh : am_Sh} {C : Nat → am_M → List am_V → am_O → Prop} {P : am_S ⊕ am_O → Prop} {M : am_M} {x1 : Int32} {x2 : Int32} {x3 : Int32}  (k : am_ev sh C 102 (55, [some (am_R (some (20, 0, 0))), some (am_I x1), some (am_I x2), some (am_I x3)], [am_I (-1)], M, 0) P) : am_ev sh C 102 (48, [some (am_R (some (20, 0, 0))), some (am_I x1), some (am_I x2), some (am_I x3)], [], M, 0) P := by
  refine am_e_iconst (v := (-1)) dd_102_48 rfl rfl ?_
  refine am_e_goto (pc' := 55) dd_102_49 rfl ?_
  exact k

theorem sg_102_52 {sh : am_Sh} {C : Nat → am_M → List am_V → am_O → Prop} {P : am_S ⊕ am_O → Prop} {M : am_M} {x1 : Int32} {x2 : Int32} {x3 : Int32}  (k : am_ev sh C 102 (55, [some (am_R (some (20, 0, 0))), some (am_I x1), some (am_I x2), some (am_I x3)], [am_I (x3 - x3 / 4 * 4)], M, 0) P) : am_ev sh C 102 (52, [some (am_R (some (20, 0, 0))), some (am_I x1), some (am_I x2), some (am_I x3)], [], M, 0) P := by
  refine am_e_iload_n dd_102_52 rfl rfl ?_
  refine am_e_iconst (v := 4) dd_102_53 rfl rfl ?_
  refine am_e_irem dd_102_54 (by decide) rfl ?_
  exact k

theorem sg_102_55 {sh : am_Sh} {C : Nat → am_M → List am_V → am_O → Prop} {P : am_S ⊕ am_O → Prop} {M : am_M} {x1 : Int32} {x2 : Int32} {x3 : Int32} {xs0 : Int32}  (k : P (Sum.inr (M, Sum.inl (some (am_I xs0))))) : am_ev sh C 102 (55, [some (am_R (some (20, 0, 0))), some (am_I x1), some (am_I x2), some (am_I x3)], [am_I xs0], M, 0) P := by
  exact am_e_iret dd_102_55 (by decide +kernel) (Or.inl rfl) k

-- 103: CacheLadderModel.dirty(II)I
theorem dd_103_0 : decode (am_b 103) 0 = .ok (.aload_n 0, 1) := by decide +kernel
theorem dd_103_1 : decode (am_b 103) 1 = .ok (.aload_n 0, 1) := by decide +kernel
theorem dd_103_2 : decode (am_b 103) 2 = .ok (.iload_n 1, 1) := by decide +kernel
theorem dd_103_3 : decode (am_b 103) 3 = .ok (.invokevirtual 194, 3) := by decide +kernel
theorem dd_103_6 : decode (am_b 103) 6 = .ok (.ifCond .eq 18, 3) := by decide +kernel
theorem dd_103_9 : decode (am_b 103) 9 = .ok (.iload_n 2, 1) := by decide +kernel
theorem dd_103_10 : decode (am_b 103) 10 = .ok (.iconst 0, 1) := by decide +kernel
theorem dd_103_11 : decode (am_b 103) 11 = .ok (.sipush 255, 3) := by decide +kernel
theorem dd_103_14 : decode (am_b 103) 14 = .ok (.invokestatic 174, 3) := by decide +kernel
theorem dd_103_17 : decode (am_b 103) 17 = .ok (.ifCond .eq 7, 3) := by decide +kernel
theorem dd_103_20 : decode (am_b 103) 20 = .ok (.iconst 0, 1) := by decide +kernel
theorem dd_103_21 : decode (am_b 103) 21 = .ok (.goto 4, 3) := by decide +kernel
theorem dd_103_24 : decode (am_b 103) 24 = .ok (.iconst 1, 1) := by decide +kernel
theorem dd_103_25 : decode (am_b 103) 25 = .ok (.putfield 83, 3) := by decide +kernel
theorem dd_103_28 : decode (am_b 103) 28 = .ok (.aload_n 0, 1) := by decide +kernel
theorem dd_103_29 : decode (am_b 103) 29 = .ok (.getfield 83, 3) := by decide +kernel
theorem dd_103_32 : decode (am_b 103) 32 = .ok (.ifCond .le 5, 3) := by decide +kernel
theorem dd_103_35 : decode (am_b 103) 35 = .ok (.iconst 0, 1) := by decide +kernel
theorem dd_103_36 : decode (am_b 103) 36 = .ok (.ireturn, 1) := by decide +kernel
theorem dd_103_37 : decode (am_b 103) 37 = .ok (.aload_n 0, 1) := by decide +kernel
theorem dd_103_38 : decode (am_b 103) 38 = .ok (.iload_n 1, 1) := by decide +kernel
theorem dd_103_39 : decode (am_b 103) 39 = .ok (.iload_n 2, 1) := by decide +kernel
theorem dd_103_40 : decode (am_b 103) 40 = .ok (.invokevirtual 137, 3) := by decide +kernel
theorem dd_103_43 : decode (am_b 103) 43 = .ok (.istore_n 3, 1) := by decide +kernel
theorem dd_103_44 : decode (am_b 103) 44 = .ok (.iload_n 3, 1) := by decide +kernel
theorem dd_103_45 : decode (am_b 103) 45 = .ok (.ifCond .ge 7, 3) := by decide +kernel
theorem dd_103_48 : decode (am_b 103) 48 = .ok (.iconst (-1), 1) := by decide +kernel
theorem dd_103_49 : decode (am_b 103) 49 = .ok (.goto 9, 3) := by decide +kernel
theorem dd_103_52 : decode (am_b 103) 52 = .ok (.aload_n 0, 1) := by decide +kernel
theorem dd_103_53 : decode (am_b 103) 53 = .ok (.getfield 35, 3) := by decide +kernel
theorem dd_103_56 : decode (am_b 103) 56 = .ok (.iload_n 3, 1) := by decide +kernel
theorem dd_103_57 : decode (am_b 103) 57 = .ok (.iaload, 1) := by decide +kernel
theorem dd_103_58 : decode (am_b 103) 58 = .ok (.ireturn, 1) := by decide +kernel
theorem sg_103_0 {sh : am_Sh} {C : Nat → am_M → List am_V → am_O → Prop} {P : am_S ⊕ am_O → Prop} {M : am_M} {x1 : Int32} {x2 : Int32} {u3 : Option am_V} {M1 : am_M} {r1 : Int32} (hc1 : C 95 M [am_R (some (20, 0, 0)), am_I x1] (M1, Sum.inl (some (am_I r1)))) (k1 : r1 = 0 → am_ev sh C 103 (24, [some (am_R (some (20, 0, 0))), some (am_I x1), some (am_I x2), u3], [am_R (some (20, 0, 0))], M1, 0) P) (k2 : ¬ r1 = 0 → am_ev sh C 103 (9, [some (am_R (some (20, 0, 0))), some (am_I x1), some (am_I x2), u3], [am_R (some (20, 0, 0))], M1, 0) P) : am_ev sh C 103 (0, [some (am_R (some (20, 0, 0))), some (am_I x1), some (am_I x2), u3], [], M, 0) P := by
  refine am_e_aload_n dd_103_0 rfl rfl ?_
  refine am_e_aload_n dd_103_1 rfl rfl ?_
  refine am_e_iload_n dd_103_2 rfl rfl ?_
  refine am_e_callV (c := 95) (k := 2) (as := [am_R (some (20, 0, 0)), am_I x1]) (S' := [am_I r1, am_R (some (20, 0, 0))]) (v := some (am_I r1)) (M' := M1) (n' := 0) dd_103_3 (by decide +kernel) ⟨Nat.le_of_ble_eq_true rfl, Nat.le_of_ble_eq_true rfl, by decide +kernel, (Or.inr (am_rcv_of rfl))⟩ rfl rfl (by decide +kernel) hc1 rfl ?_
  exact am_a_if_eq (tgt := 24) (pc' := 9) dd_103_6 rfl rfl k1 k2

theorem sg_103_9 {sh : am_Sh} {C : Nat → am_M → List am_V → am_O → Prop} {P : am_S ⊕ am_O → Prop} {M : am_M} {x1 : Int32} {x2 : Int32} {u3 : Option am_V} {M1 : am_M} {r1 : Int32} (hc1 : C 62 M [am_I x2, am_I 0, am_I 255] (M1, Sum.inl (some (am_I r1)))) (k1 : r1 = 0 → am_ev sh C 103 (24, [some (am_R (some (20, 0, 0))), some (am_I x1), some (am_I x2), u3], [am_R (some (20, 0, 0))], M1, 0) P) (k2 : ¬ r1 = 0 → am_ev sh C 103 (20, [some (am_R (some (20, 0, 0))), some (am_I x1), some (am_I x2), u3], [am_R (some (20, 0, 0))], M1, 0) P) : am_ev sh C 103 (9, [some (am_R (some (20, 0, 0))), some (am_I x1), some (am_I x2), u3], [am_R (some (20, 0, 0))], M, 0) P := by
  refine am_e_iload_n dd_103_9 rfl rfl ?_
  refine am_e_iconst (v := 0) dd_103_10 rfl rfl ?_
  refine am_e_sipush (v := 255) dd_103_11 (by decide) rfl ?_
  refine am_e_callS (c := 62) (k := 3) (as := [am_I x2, am_I 0, am_I 255]) (S' := [am_I r1, am_R (some (20, 0, 0))]) (v := some (am_I r1)) (M' := M1) (n' := 0) dd_103_14 (by decide +kernel) (by decide +kernel) ⟨Nat.le_of_ble_eq_true rfl, Nat.le_of_ble_eq_true rfl, by decide +kernel, (Or.inl rfl)⟩ rfl rfl (by decide +kernel) hc1 rfl ?_
  exact am_a_if_eq (tgt := 24) (pc' := 20) dd_103_17 rfl rfl k1 k2

theorem sg_103_20 {sh : am_Sh} {C : Nat → am_M → List am_V → am_O → Prop} {P : am_S ⊕ am_O → Prop} {M : am_M} {x1 : Int32} {x2 : Int32} {u3 : Option am_V}  (k : am_ev sh C 103 (25, [some (am_R (some (20, 0, 0))), some (am_I x1), some (am_I x2), u3], [am_I 0, am_R (some (20, 0, 0))], M, 0) P) : am_ev sh C 103 (20, [some (am_R (some (20, 0, 0))), some (am_I x1), some (am_I x2), u3], [am_R (some (20, 0, 0))], M, 0) P := by
  refine am_e_iconst (v := 0) dd_103_20 rfl rfl ?_
  refine am_e_goto (pc' := 25) dd_103_21 rfl ?_
  exact k

theorem sg_103_24 {sh : am_Sh} {C : Nat → am_M → List am_V → am_O → Prop} {P : am_S ⊕ am_O → Prop} {M : am_M} {x1 : Int32} {x2 : Int32} {u3 : Option am_V}  (k : am_ev sh C 103 (25, [some (am_R (some (20, 0, 0))), some (am_I x1), some (am_I x2), u3], [am_I 1, am_R (some (20, 0, 0))], M, 0) P) : am_ev sh C 103 (24, [some (am_R (some (20, 0, 0))), some (am_I x1), some (am_I x2), u3], [am_R (some (20, 0, 0))], M, 0) P := by
  refine am_e_iconst (v := 1) dd_103_24 rfl rfl ?_
  exact k

theorem sg_103_25 {sh : am_Sh} {C : Nat → am_M → List am_V → am_O → Prop} {P : am_S ⊕ am_O → Prop} {M : am_M} {x1 : Int32} {x2 : Int32} {u3 : Option am_V} {xs1 : Int32}  (k1 : ((am_up M (20, 0, 0) 0 xs1) (20, 0, 0) 0) ≤ 0 → am_ev sh C 103 (37, [some (am_R (some (20, 0, 0))), some (am_I x1), some (am_I x2), u3], [], (am_up M (20, 0, 0) 0 xs1), 0) P) (k2 : ¬ ((am_up M (20, 0, 0) 0 xs1) (20, 0, 0) 0) ≤ 0 → am_ev sh C 103 (35, [some (am_R (some (20, 0, 0))), some (am_I x1), some (am_I x2), u3], [], (am_up M (20, 0, 0) 0 xs1), 0) P) : am_ev sh C 103 (25, [some (am_R (some (20, 0, 0))), some (am_I x1), some (am_I x2), u3], [am_I xs1, am_R (some (20, 0, 0))], M, 0) P := by
  refine am_e_pf (ci := 3) (j := 0) dd_103_25 (by decide +kernel) rfl rfl (Or.inl rfl) rfl ?_
  refine am_e_aload_n dd_103_28 rfl rfl ?_
  refine am_e_gf (ci := 3) (j := 0) (v := am_I ((am_up M (20, 0, 0) 0 xs1) (20, 0, 0) 0)) dd_103_29 (by decide +kernel) rfl rfl rfl ?_
  exact am_a_if_le (tgt := 37) (pc' := 35) dd_103_32 rfl rfl k1 k2

theorem sg_103_35 {sh : am_Sh} {C : Nat → am_M → List am_V → am_O → Prop} {P : am_S ⊕ am_O → Prop} {M : am_M} {x1 : Int32} {x2 : Int32} {u3 : Option am_V}  (k : P (Sum.inr (M, Sum.inl (some (am_I 0))))) : am_ev sh C 103 (35, [some (am_R (some (20, 0, 0))), some (am_I x1), some (am_I x2), u3], [], M, 0) P := by
  refine am_e_iconst (v := 0) dd_103_35 rfl rfl ?_
  exact am_e_iret dd_103_36 (by decide +kernel) (Or.inl rfl) k

theorem sg_103_37 {sh : am_Sh} {C : Nat → am_M → List am_V → am_O → Prop} {P : am_S ⊕ am_O → Prop} {M : am_M} {x1 : Int32} {x2 : Int32} {u3 : Option am_V} {M1 : am_M} {r1 : Int32} (hc1 : C 68 M [am_R (some (20, 0, 0)), am_I x1, am_I x2] (M1, Sum.inl (some (am_I r1)))) (k1 : 0 ≤ r1 → am_ev sh C 103 (52, [some (am_R (some (20, 0, 0))), some (am_I x1), some (am_I x2), some (am_I r1)], [], M1, 0) P) (k2 : ¬ 0 ≤ r1 → am_ev sh C 103 (48, [some (am_R (some (20, 0, 0))), some (am_I x1), some (am_I x2), some (am_I r1)], [], M1, 0) P) : am_ev sh C 103 (37, [some (am_R (some (20, 0, 0))), some (am_I x1), some (am_I x2), u3], [], M, 0) P := by
  refine am_e_aload_n dd_103_37 rfl rfl ?_
  refine am_e_iload_n dd_103_38 rfl rfl ?_
  refine am_e_iload_n dd_103_39 rfl rfl ?_
  refine am_e_callV (c := 68) (k := 3) (as := [am_R (some (20, 0, 0)), am_I x1, am_I x2]) (S' := [am_I r1]) (v := some (am_I r1)) (M' := M1) (n' := 0) dd_103_40 (by decide +kernel) ⟨Nat.le_of_ble_eq_true rfl, Nat.le_of_ble_eq_true rfl, by decide +kernel, (Or.inr (am_rcv_of rfl))⟩ rfl rfl (by decide +kernel) hc1 rfl ?_
  refine am_e_istore_n dd_103_43 (Nat.le_of_ble_eq_true rfl) rfl rfl ?_
  refine am_e_iload_n dd_103_44 rfl rfl ?_
  exact am_a_if_ge (tgt := 52) (pc' := 48) dd_103_45 rfl rfl k1 k2

theorem sg_103_48 {sh : am_Sh} {C : Nat → am_M → List am_V → am_O → Prop} {P : am_S ⊕ am_O → Prop} {M : am_M} {x1 : Int32} {x2 : Int32} {x3 : Int32}  (k : am_ev sh C 103 (58, [some (am_R (some (20, 0, 0))), some (am_I x1), some (am_I x2), some (am_I x3)], [am_I (-1)], M, 0) P) : am_ev sh C 103 (48, [some (am_R (some (20, 0, 0))), some (am_I x1), some (am_I x2), some (am_I x3)], [], M, 0) P := by
  refine am_e_iconst (v := (-1)) dd_103_48 rfl rfl ?_
  refine am_e_goto (pc' := 58) dd_103_49 rfl ?_
  exact k

theorem sg_103_52 {sh : am_Sh} {C : Nat → am_M → List am_V → am_O → Prop} {P : am_S ⊕ am_O → Prop} {M : am_M} {x1 : Int32} {x2 : Int32} {x3 : Int32} {j1 : Nat} (hx_j1 : x3 = nI j1) (hl_j1 : j1 < 256) (k : am_ev sh C 103 (58, [some (am_R (some (20, 0, 0))), some (am_I x1), some (am_I x2), some (am_I x3)], [am_I (M (21, 11, 0) j1)], M, 0) P) : am_ev sh C 103 (52, [some (am_R (some (20, 0, 0))), some (am_I x1), some (am_I x2), some (am_I x3)], [], M, 0) P := by
  refine am_e_aload_n dd_103_52 rfl rfl ?_
  refine am_e_gf (ci := 3) (j := 11) (v := am_R (some (21, 11, 0))) dd_103_53 (by decide +kernel) rfl rfl rfl ?_
  refine am_e_iload_n dd_103_56 rfl rfl ?_
  refine am_a_iald dd_103_57 rfl hx_j1 hl_j1 (by decide) rfl ?_
  exact k

theorem sg_103_58 {sh : am_Sh} {C : Nat → am_M → List am_V → am_O → Prop} {P : am_S ⊕ am_O → Prop} {M : am_M} {x1 : Int32} {x2 : Int32} {x3 : Int32} {xs0 : Int32}  (k : P (Sum.inr (M, Sum.inl (some (am_I xs0))))) : am_ev sh C 103 (58, [some (am_R (some (20, 0, 0))), some (am_I x1), some (am_I x2), some (am_I x3)], [am_I xs0], M, 0) P := by
  exact am_e_iret dd_103_58 (by decide +kernel) (Or.inl rfl) k

-- 104: CacheLadderModel.next(II)I
theorem dd_104_0 : decode (am_b 104) 0 = .ok (.aload_n 0, 1) := by decide +kernel
theorem dd_104_1 : decode (am_b 104) 1 = .ok (.aload_n 0, 1) := by decide +kernel
theorem dd_104_2 : decode (am_b 104) 2 = .ok (.iload_n 1, 1) := by decide +kernel
theorem dd_104_3 : decode (am_b 104) 3 = .ok (.invokevirtual 194, 3) := by decide +kernel
theorem dd_104_6 : decode (am_b 104) 6 = .ok (.ifCond .eq 23, 3) := by decide +kernel
theorem dd_104_9 : decode (am_b 104) 9 = .ok (.iload_n 2, 1) := by decide +kernel
theorem dd_104_10 : decode (am_b 104) 10 = .ok (.iconst 0, 1) := by decide +kernel
theorem dd_104_11 : decode (am_b 104) 11 = .ok (.aload_n 0, 1) := by decide +kernel
theorem dd_104_12 : decode (am_b 104) 12 = .ok (.getfield 7, 3) := by decide +kernel
theorem dd_104_15 : decode (am_b 104) 15 = .ok (.iload_n 1, 1) := by decide +kernel
theorem dd_104_16 : decode (am_b 104) 16 = .ok (.iaload, 1) := by decide +kernel
theorem dd_104_17 : decode (am_b 104) 17 = .ok (.iconst 1, 1) := by decide +kernel
theorem dd_104_18 : decode (am_b 104) 18 = .ok (.isub, 1) := by decide +kernel
theorem dd_104_19 : decode (am_b 104) 19 = .ok (.invokestatic 174, 3) := by decide +kernel
theorem dd_104_22 : decode (am_b 104) 22 = .ok (.ifCond .eq 7, 3) := by decide +kernel
theorem dd_104_25 : decode (am_b 104) 25 = .ok (.iconst 0, 1) := by decide +kernel
theorem dd_104_26 : decode (am_b 104) 26 = .ok (.goto 4, 3) := by decide +kernel
theorem dd_104_29 : decode (am_b 104) 29 = .ok (.iconst 1, 1) := by decide +kernel
theorem dd_104_30 : decode (am_b 104) 30 = .ok (.putfield 83, 3) := by decide +kernel
theorem dd_104_33 : decode (am_b 104) 33 = .ok (.aload_n 0, 1) := by decide +kernel
theorem dd_104_34 : decode (am_b 104) 34 = .ok (.getfield 83, 3) := by decide +kernel
theorem dd_104_37 : decode (am_b 104) 37 = .ok (.ifCond .le 5, 3) := by decide +kernel
theorem dd_104_40 : decode (am_b 104) 40 = .ok (.iconst 0, 1) := by decide +kernel
theorem dd_104_41 : decode (am_b 104) 41 = .ok (.ireturn, 1) := by decide +kernel
theorem dd_104_42 : decode (am_b 104) 42 = .ok (.aload_n 0, 1) := by decide +kernel
theorem dd_104_43 : decode (am_b 104) 43 = .ok (.iload_n 1, 1) := by decide +kernel
theorem dd_104_44 : decode (am_b 104) 44 = .ok (.iload_n 2, 1) := by decide +kernel
theorem dd_104_45 : decode (am_b 104) 45 = .ok (.invokevirtual 114, 3) := by decide +kernel
theorem dd_104_48 : decode (am_b 104) 48 = .ok (.ifCond .lt 7, 3) := by decide +kernel
theorem dd_104_51 : decode (am_b 104) 51 = .ok (.iconst (-1), 1) := by decide +kernel
theorem dd_104_52 : decode (am_b 104) 52 = .ok (.goto 14, 3) := by decide +kernel
theorem dd_104_55 : decode (am_b 104) 55 = .ok (.aload_n 0, 1) := by decide +kernel
theorem dd_104_56 : decode (am_b 104) 56 = .ok (.getfield 32, 3) := by decide +kernel
theorem dd_104_59 : decode (am_b 104) 59 = .ok (.aload_n 0, 1) := by decide +kernel
theorem dd_104_60 : decode (am_b 104) 60 = .ok (.iload_n 1, 1) := by decide +kernel
theorem dd_104_61 : decode (am_b 104) 61 = .ok (.iload_n 2, 1) := by decide +kernel
theorem dd_104_62 : decode (am_b 104) 62 = .ok (.invokevirtual 117, 3) := by decide +kernel
theorem dd_104_65 : decode (am_b 104) 65 = .ok (.iaload, 1) := by decide +kernel
theorem dd_104_66 : decode (am_b 104) 66 = .ok (.ireturn, 1) := by decide +kernel
theorem sg_104_0 {sh : am_Sh} {C : Nat → am_M → List am_V → am_O → Prop} {P : am_S ⊕ am_O → Prop} {M : am_M} {x1 : Int32} {x2 : Int32} {M1 : am_M} {r1 : Int32} (hc1 : C 95 M [am_R (some (20, 0, 0)), am_I x1] (M1, Sum.inl (some (am_I r1)))) (k1 : r1 = 0 → am_ev sh C 104 (29, [some (am_R (some (20, 0, 0))), some (am_I x1), some (am_I x2)], [am_R (some (20, 0, 0))], M1, 0) P) (k2 : ¬ r1 = 0 → am_ev sh C 104 (9, [some (am_R (some (20, 0, 0))), some (am_I x1), some (am_I x2)], [am_R (some (20, 0, 0))], M1, 0) P) : am_ev sh C 104 (0, [some (am_R (some (20, 0, 0))), some (am_I x1), some (am_I x2)], [], M, 0) P := by
  refine am_e_aload_n dd_104_0 rfl rfl ?_
  refine am_e_aload_n dd_104_1 rfl rfl ?_
  refine am_e_iload_n dd_104_2 rfl rfl ?_
  refine am_e_callV (c := 95) (k := 2) (as := [am_R (some (20, 0, 0)), am_I x1]) (S' := [am_I r1, am_R (some (20, 0, 0))]) (v := some (am_I r1)) (M' := M1) (n' := 0) dd_104_3 (by decide +kernel) ⟨Nat.le_of_ble_eq_true rfl, Nat.le_of_ble_eq_true rfl, by decide +kernel, (Or.inr (am_rcv_of rfl))⟩ rfl rfl (by decide +kernel) hc1 rfl ?_
  exact am_a_if_eq (tgt := 29) (pc' := 9) dd_104_6 rfl rfl k1 k2

theorem sg_104_9 {sh : am_Sh} {C : Nat → am_M → List am_V → am_O → Prop} {P : am_S ⊕ am_O → Prop} {M : am_M} {x1 : Int32} {x2 : Int32} {j1 : Nat} {M1 : am_M} {r1 : Int32} (hx_j1 : x1 = nI j1) (hl_j1 : j1 < 4) (hc1 : C 62 M [am_I x2, am_I 0, am_I ((M (21, 3, 0) j1) - 1)] (M1, Sum.inl (some (am_I r1)))) (k1 : r1 = 0 → am_ev sh C 104 (29, [some (am_R (some (20, 0, 0))), some (am_I x1), some (am_I x2)], [am_R (some (20, 0, 0))], M1, 0) P) (k2 : ¬ r1 = 0 → am_ev sh C 104 (25, [some (am_R (some (20, 0, 0))), some (am_I x1), some (am_I x2)], [am_R (some (20, 0, 0))], M1, 0) P) : am_ev sh C 104 (9, [some (am_R (some (20, 0, 0))), some (am_I x1), some (am_I x2)], [am_R (some (20, 0, 0))], M, 0) P := by
  refine am_e_iload_n dd_104_9 rfl rfl ?_
  refine am_e_iconst (v := 0) dd_104_10 rfl rfl ?_
  refine am_e_aload_n dd_104_11 rfl rfl ?_
  refine am_e_gf (ci := 3) (j := 3) (v := am_R (some (21, 3, 0))) dd_104_12 (by decide +kernel) rfl rfl rfl ?_
  refine am_e_iload_n dd_104_15 rfl rfl ?_
  refine am_a_iald dd_104_16 rfl hx_j1 hl_j1 (by decide) rfl ?_
  refine am_e_iconst (v := 1) dd_104_17 rfl rfl ?_
  refine am_e_isub dd_104_18 rfl ?_
  refine am_e_callS (c := 62) (k := 3) (as := [am_I x2, am_I 0, am_I ((M (21, 3, 0) j1) - 1)]) (S' := [am_I r1, am_R (some (20, 0, 0))]) (v := some (am_I r1)) (M' := M1) (n' := 0) dd_104_19 (by decide +kernel) (by decide +kernel) ⟨Nat.le_of_ble_eq_true rfl, Nat.le_of_ble_eq_true rfl, by decide +kernel, (Or.inl rfl)⟩ rfl rfl (by decide +kernel) hc1 rfl ?_
  exact am_a_if_eq (tgt := 29) (pc' := 25) dd_104_22 rfl rfl k1 k2

theorem sg_104_25 {sh : am_Sh} {C : Nat → am_M → List am_V → am_O → Prop} {P : am_S ⊕ am_O → Prop} {M : am_M} {x1 : Int32} {x2 : Int32}  (k : am_ev sh C 104 (30, [some (am_R (some (20, 0, 0))), some (am_I x1), some (am_I x2)], [am_I 0, am_R (some (20, 0, 0))], M, 0) P) : am_ev sh C 104 (25, [some (am_R (some (20, 0, 0))), some (am_I x1), some (am_I x2)], [am_R (some (20, 0, 0))], M, 0) P := by
  refine am_e_iconst (v := 0) dd_104_25 rfl rfl ?_
  refine am_e_goto (pc' := 30) dd_104_26 rfl ?_
  exact k

theorem sg_104_29 {sh : am_Sh} {C : Nat → am_M → List am_V → am_O → Prop} {P : am_S ⊕ am_O → Prop} {M : am_M} {x1 : Int32} {x2 : Int32}  (k : am_ev sh C 104 (30, [some (am_R (some (20, 0, 0))), some (am_I x1), some (am_I x2)], [am_I 1, am_R (some (20, 0, 0))], M, 0) P) : am_ev sh C 104 (29, [some (am_R (some (20, 0, 0))), some (am_I x1), some (am_I x2)], [am_R (some (20, 0, 0))], M, 0) P := by
  refine am_e_iconst (v := 1) dd_104_29 rfl rfl ?_
  exact k

theorem sg_104_30 {sh : am_Sh} {C : Nat → am_M → List am_V → am_O → Prop} {P : am_S ⊕ am_O → Prop} {M : am_M} {x1 : Int32} {x2 : Int32} {xs1 : Int32}  (k1 : ((am_up M (20, 0, 0) 0 xs1) (20, 0, 0) 0) ≤ 0 → am_ev sh C 104 (42, [some (am_R (some (20, 0, 0))), some (am_I x1), some (am_I x2)], [], (am_up M (20, 0, 0) 0 xs1), 0) P) (k2 : ¬ ((am_up M (20, 0, 0) 0 xs1) (20, 0, 0) 0) ≤ 0 → am_ev sh C 104 (40, [some (am_R (some (20, 0, 0))), some (am_I x1), some (am_I x2)], [], (am_up M (20, 0, 0) 0 xs1), 0) P) : am_ev sh C 104 (30, [some (am_R (some (20, 0, 0))), some (am_I x1), some (am_I x2)], [am_I xs1, am_R (some (20, 0, 0))], M, 0) P := by
  refine am_e_pf (ci := 3) (j := 0) dd_104_30 (by decide +kernel) rfl rfl (Or.inl rfl) rfl ?_
  refine am_e_aload_n dd_104_33 rfl rfl ?_
  refine am_e_gf (ci := 3) (j := 0) (v := am_I ((am_up M (20, 0, 0) 0 xs1) (20, 0, 0) 0)) dd_104_34 (by decide +kernel) rfl rfl rfl ?_
  exact am_a_if_le (tgt := 42) (pc' := 40) dd_104_37 rfl rfl k1 k2

theorem sg_104_40 {sh : am_Sh} {C : Nat → am_M → List am_V → am_O → Prop} {P : am_S ⊕ am_O → Prop} {M : am_M} {x1 : Int32} {x2 : Int32}  (k : P (Sum.inr (M, Sum.inl (some (am_I 0))))) : am_ev sh C 104 (40, [some (am_R (some (20, 0, 0))), some (am_I x1), some (am_I x2)], [], M, 0) P := by
  refine am_e_iconst (v := 0) dd_104_40 rfl rfl ?_
  exact am_e_iret dd_104_41 (by decide +kernel) (Or.inl rfl) k

theorem sg_104_42 {sh : am_Sh} {C : Nat → am_M → List am_V → am_O → Prop} {P : am_S ⊕ am_O → Prop} {M : am_M} {x1 : Int32} {x2 : Int32} {M1 : am_M} {r1 : Int32} (hc1 : C 71 M [am_R (some (20, 0, 0)), am_I x1, am_I x2] (M1, Sum.inl (some (am_I r1)))) (k1 : r1 < 0 → am_ev sh C 104 (55, [some (am_R (some (20, 0, 0))), some (am_I x1), some (am_I x2)], [], M1, 0) P) (k2 : ¬ r1 < 0 → am_ev sh C 104 (51, [some (am_R (some (20, 0, 0))), some (am_I x1), some (am_I x2)], [], M1, 0) P) : am_ev sh C 104 (42, [some (am_R (some (20, 0, 0))), some (am_I x1), some (am_I x2)], [], M, 0) P := by
  refine am_e_aload_n dd_104_42 rfl rfl ?_
  refine am_e_iload_n dd_104_43 rfl rfl ?_
  refine am_e_iload_n dd_104_44 rfl rfl ?_
  refine am_e_callV (c := 71) (k := 3) (as := [am_R (some (20, 0, 0)), am_I x1, am_I x2]) (S' := [am_I r1]) (v := some (am_I r1)) (M' := M1) (n' := 0) dd_104_45 (by decide +kernel) ⟨Nat.le_of_ble_eq_true rfl, Nat.le_of_ble_eq_true rfl, by decide +kernel, (Or.inr (am_rcv_of rfl))⟩ rfl rfl (by decide +kernel) hc1 rfl ?_
  exact am_a_if_lt (tgt := 55) (pc' := 51) dd_104_48 rfl rfl k1 k2

theorem sg_104_51 {sh : am_Sh} {C : Nat → am_M → List am_V → am_O → Prop} {P : am_S ⊕ am_O → Prop} {M : am_M} {x1 : Int32} {x2 : Int32}  (k : am_ev sh C 104 (66, [some (am_R (some (20, 0, 0))), some (am_I x1), some (am_I x2)], [am_I (-1)], M, 0) P) : am_ev sh C 104 (51, [some (am_R (some (20, 0, 0))), some (am_I x1), some (am_I x2)], [], M, 0) P := by
  refine am_e_iconst (v := (-1)) dd_104_51 rfl rfl ?_
  refine am_e_goto (pc' := 66) dd_104_52 rfl ?_
  exact k

theorem sg_104_55 {sh : am_Sh} {C : Nat → am_M → List am_V → am_O → Prop} {P : am_S ⊕ am_O → Prop} {M : am_M} {x1 : Int32} {x2 : Int32} {M1 : am_M} {r1 : Int32} {j1 : Nat} (hc1 : C 72 M [am_R (some (20, 0, 0)), am_I x1, am_I x2] (M1, Sum.inl (some (am_I r1)))) (hx_j1 : r1 = nI j1) (hl_j1 : j1 < 256) (k : am_ev sh C 104 (66, [some (am_R (some (20, 0, 0))), some (am_I x1), some (am_I x2)], [am_I (M1 (21, 10, 0) j1)], M1, 0) P) : am_ev sh C 104 (55, [some (am_R (some (20, 0, 0))), some (am_I x1), some (am_I x2)], [], M, 0) P := by
  refine am_e_aload_n dd_104_55 rfl rfl ?_
  refine am_e_gf (ci := 3) (j := 10) (v := am_R (some (21, 10, 0))) dd_104_56 (by decide +kernel) rfl rfl rfl ?_
  refine am_e_aload_n dd_104_59 rfl rfl ?_
  refine am_e_iload_n dd_104_60 rfl rfl ?_
  refine am_e_iload_n dd_104_61 rfl rfl ?_
  refine am_e_callV (c := 72) (k := 3) (as := [am_R (some (20, 0, 0)), am_I x1, am_I x2]) (S' := [am_I r1, am_R (some (21, 10, 0))]) (v := some (am_I r1)) (M' := M1) (n' := 0) dd_104_62 (by decide +kernel) ⟨Nat.le_of_ble_eq_true rfl, Nat.le_of_ble_eq_true rfl, by decide +kernel, (Or.inr (am_rcv_of rfl))⟩ rfl rfl (by decide +kernel) hc1 rfl ?_
  refine am_a_iald dd_104_65 rfl hx_j1 hl_j1 (by decide) rfl ?_
  exact k

theorem sg_104_66 {sh : am_Sh} {C : Nat → am_M → List am_V → am_O → Prop} {P : am_S ⊕ am_O → Prop} {M : am_M} {x1 : Int32} {x2 : Int32} {xs0 : Int32}  (k : P (Sum.inr (M, Sum.inl (some (am_I xs0))))) : am_ev sh C 104 (66, [some (am_R (some (20, 0, 0))), some (am_I x1), some (am_I x2)], [am_I xs0], M, 0) P := by
  exact am_e_iret dd_104_66 (by decide +kernel) (Or.inl rfl) k

-- 105: CacheLadderModel.tiers()I
theorem dd_105_0 : decode (am_b 105) 0 = .ok (.aload_n 0, 1) := by decide +kernel
theorem dd_105_1 : decode (am_b 105) 1 = .ok (.iconst 0, 1) := by decide +kernel
theorem dd_105_2 : decode (am_b 105) 2 = .ok (.putfield 83, 3) := by decide +kernel
theorem dd_105_5 : decode (am_b 105) 5 = .ok (.aload_n 0, 1) := by decide +kernel
theorem dd_105_6 : decode (am_b 105) 6 = .ok (.getfield 131, 3) := by decide +kernel
theorem dd_105_9 : decode (am_b 105) 9 = .ok (.ireturn, 1) := by decide +kernel
theorem sg_105_0 {sh : am_Sh} {C : Nat → am_M → List am_V → am_O → Prop} {P : am_S ⊕ am_O → Prop} {M : am_M}   (k : P (Sum.inr ((am_up M (20, 0, 0) 0 0), Sum.inl (some (am_I ((am_up M (20, 0, 0) 0 0) (20, 0, 0) 1)))))) : am_ev sh C 105 (0, [some (am_R (some (20, 0, 0)))], [], M, 0) P := by
  refine am_e_aload_n dd_105_0 rfl rfl ?_
  refine am_e_iconst (v := 0) dd_105_1 rfl rfl ?_
  refine am_e_pf (ci := 3) (j := 0) dd_105_2 (by decide +kernel) rfl rfl (Or.inl rfl) rfl ?_
  refine am_e_aload_n dd_105_5 rfl rfl ?_
  refine am_e_gf (ci := 3) (j := 1) (v := am_I ((am_up M (20, 0, 0) 0 0) (20, 0, 0) 1)) dd_105_6 (by decide +kernel) rfl rfl rfl ?_
  exact am_e_iret dd_105_9 (by decide +kernel) (Or.inl rfl) k

-- 106: CacheLadderModel.astray()I
theorem dd_106_0 : decode (am_b 106) 0 = .ok (.aload_n 0, 1) := by decide +kernel
theorem dd_106_1 : decode (am_b 106) 1 = .ok (.iconst 0, 1) := by decide +kernel
theorem dd_106_2 : decode (am_b 106) 2 = .ok (.putfield 83, 3) := by decide +kernel
theorem dd_106_5 : decode (am_b 106) 5 = .ok (.iconst 0, 1) := by decide +kernel
theorem dd_106_6 : decode (am_b 106) 6 = .ok (.ireturn, 1) := by decide +kernel
theorem sg_106_0 {sh : am_Sh} {C : Nat → am_M → List am_V → am_O → Prop} {P : am_S ⊕ am_O → Prop} {M : am_M}   (k : P (Sum.inr ((am_up M (20, 0, 0) 0 0), Sum.inl (some (am_I 0))))) : am_ev sh C 106 (0, [some (am_R (some (20, 0, 0)))], [], M, 0) P := by
  refine am_e_aload_n dd_106_0 rfl rfl ?_
  refine am_e_iconst (v := 0) dd_106_1 rfl rfl ?_
  refine am_e_pf (ci := 3) (j := 0) dd_106_2 (by decide +kernel) rfl rfl (Or.inl rfl) rfl ?_
  refine am_e_iconst (v := 0) dd_106_5 rfl rfl ?_
  exact am_e_iret dd_106_6 (by decide +kernel) (Or.inl rfl) k

-- 107: CacheLadderLaw.tier(LCacheLadder;IIIIZ[J)I
theorem dd_107_0 : decode (am_b 107) 0 = .ok (.aload 6, 2) := by decide +kernel
theorem dd_107_2 : decode (am_b 107) 2 = .ok (.iconst 0, 1) := by decide +kernel
theorem dd_107_3 : decode (am_b 107) 3 = .ok (.aload_n 0, 1) := by decide +kernel
theorem dd_107_4 : decode (am_b 107) 4 = .ok (.iload_n 1, 1) := by decide +kernel
theorem dd_107_5 : decode (am_b 107) 5 = .ok (.iload_n 2, 1) := by decide +kernel
theorem dd_107_6 : decode (am_b 107) 6 = .ok (.iload_n 3, 1) := by decide +kernel
theorem dd_107_7 : decode (am_b 107) 7 = .ok (.iload 4, 2) := by decide +kernel
theorem dd_107_9 : decode (am_b 107) 9 = .ok (.iload 5, 2) := by decide +kernel
theorem dd_107_11 : decode (am_b 107) 11 = .ok (.invokevirtual 7, 3) := by decide +kernel
theorem dd_107_14 : decode (am_b 107) 14 = .ok (.i2l, 1) := by decide +kernel
theorem dd_107_15 : decode (am_b 107) 15 = .ok (.lastore, 1) := by decide +kernel
theorem dd_107_16 : decode (am_b 107) 16 = .ok (.goto 15, 3) := by decide +kernel
theorem dd_107_19 : decode (am_b 107) 19 = .ok (.astore 7, 2) := by decide +kernel
theorem dd_107_21 : decode (am_b 107) 21 = .ok (.iconst 1, 1) := by decide +kernel
theorem dd_107_22 : decode (am_b 107) 22 = .ok (.ireturn, 1) := by decide +kernel
theorem dd_107_23 : decode (am_b 107) 23 = .ok (.astore 7, 2) := by decide +kernel
theorem dd_107_25 : decode (am_b 107) 25 = .ok (.iconst 2, 1) := by decide +kernel
theorem dd_107_26 : decode (am_b 107) 26 = .ok (.ireturn, 1) := by decide +kernel
theorem dd_107_27 : decode (am_b 107) 27 = .ok (.astore 7, 2) := by decide +kernel
theorem dd_107_29 : decode (am_b 107) 29 = .ok (.iconst 3, 1) := by decide +kernel
theorem dd_107_30 : decode (am_b 107) 30 = .ok (.ireturn, 1) := by decide +kernel
theorem dd_107_31 : decode (am_b 107) 31 = .ok (.iconst 0, 1) := by decide +kernel
theorem dd_107_32 : decode (am_b 107) 32 = .ok (.ireturn, 1) := by decide +kernel
theorem sg_107_0 {sh : am_Sh} {C : Nat → am_M → List am_V → am_O → Prop} {P : am_S ⊕ am_O → Prop} {M : am_M} {x1 : Int32} {x2 : Int32} {x3 : Int32} {x4 : Int32} {x5 : Int32} {u7 : Option am_V} {M1 : am_M} {r1 : Int32} (hc1 : C 25 M [am_R (some (0, 0, 0)), am_I x1, am_I x2, am_I x3, am_I x4, am_I x5] (M1, Sum.inl (some (am_I r1)))) (k : P (Sum.inr ((am_up M1 (30, 0, 0) 0 r1), Sum.inl (some (am_I 0))))) : am_ev sh C 107 (0, [some (am_R (some (0, 0, 0))), some (am_I x1), some (am_I x2), some (am_I x3), some (am_I x4), some (am_I x5), some (am_R (some (30, 0, 0))), u7], [], M, 0) P := by
  refine am_e_aload dd_107_0 rfl rfl ?_
  refine am_e_iconst (v := 0) dd_107_2 rfl rfl ?_
  refine am_e_aload_n dd_107_3 rfl rfl ?_
  refine am_e_iload_n dd_107_4 rfl rfl ?_
  refine am_e_iload_n dd_107_5 rfl rfl ?_
  refine am_e_iload_n dd_107_6 rfl rfl ?_
  refine am_e_iload dd_107_7 rfl rfl ?_
  refine am_e_iload dd_107_9 rfl rfl ?_
  refine am_e_callV (c := 25) (k := 6) (as := [am_R (some (0, 0, 0)), am_I x1, am_I x2, am_I x3, am_I x4, am_I x5]) (S' := [am_I r1, am_I 0, am_R (some (30, 0, 0))]) (v := some (am_I r1)) (M' := M1) (n' := 1) dd_107_11 (by decide +kernel) ⟨Nat.le_of_ble_eq_true rfl, Nat.le_of_ble_eq_true rfl, by decide +kernel, (Or.inr (am_rcv_of rfl))⟩ rfl rfl (by decide +kernel) hc1 rfl ?_
  refine am_e_i2l dd_107_14 rfl ?_
  refine am_a_last dd_107_15 rfl rfl (by decide) (by decide) rfl ?_
  refine am_e_goto (pc' := 31) dd_107_16 rfl ?_
  refine am_e_iconst (v := 0) dd_107_31 rfl rfl ?_
  exact am_e_iret dd_107_32 (by decide +kernel) (Or.inl rfl) k

theorem sg_107_19 {sh : am_Sh} {C : Nat → am_M → List am_V → am_O → Prop} {P : am_S ⊕ am_O → Prop} {M : am_M} {x1 : Int32} {x2 : Int32} {x3 : Int32} {x4 : Int32} {x5 : Int32} {u7 : Option am_V} {as0 : Nat}  (k : P (Sum.inr (M, Sum.inl (some (am_I 1))))) : am_ev sh C 107 (19, [some (am_R (some (0, 0, 0))), some (am_I x1), some (am_I x2), some (am_I x3), some (am_I x4), some (am_I x5), some (am_R (some (30, 0, 0))), u7], [am_X as0], M, 1) P := by
  refine am_e_astore dd_107_19 (Nat.le_of_ble_eq_true rfl) rfl rfl ?_
  refine am_e_iconst (v := 1) dd_107_21 rfl rfl ?_
  exact am_e_iret dd_107_22 (by decide +kernel) (Or.inl rfl) k

theorem sg_107_23 {sh : am_Sh} {C : Nat → am_M → List am_V → am_O → Prop} {P : am_S ⊕ am_O → Prop} {M : am_M} {x1 : Int32} {x2 : Int32} {x3 : Int32} {x4 : Int32} {x5 : Int32} {u7 : Option am_V} {as0 : Nat}  (k : P (Sum.inr (M, Sum.inl (some (am_I 2))))) : am_ev sh C 107 (23, [some (am_R (some (0, 0, 0))), some (am_I x1), some (am_I x2), some (am_I x3), some (am_I x4), some (am_I x5), some (am_R (some (30, 0, 0))), u7], [am_X as0], M, 1) P := by
  refine am_e_astore dd_107_23 (Nat.le_of_ble_eq_true rfl) rfl rfl ?_
  refine am_e_iconst (v := 2) dd_107_25 rfl rfl ?_
  exact am_e_iret dd_107_26 (by decide +kernel) (Or.inl rfl) k

theorem sg_107_27 {sh : am_Sh} {C : Nat → am_M → List am_V → am_O → Prop} {P : am_S ⊕ am_O → Prop} {M : am_M} {x1 : Int32} {x2 : Int32} {x3 : Int32} {x4 : Int32} {x5 : Int32} {u7 : Option am_V} {as0 : Nat}  (k : P (Sum.inr (M, Sum.inl (some (am_I 3))))) : am_ev sh C 107 (27, [some (am_R (some (0, 0, 0))), some (am_I x1), some (am_I x2), some (am_I x3), some (am_I x4), some (am_I x5), some (am_R (some (30, 0, 0))), u7], [am_X as0], M, 1) P := by
  refine am_e_astore dd_107_27 (Nat.le_of_ble_eq_true rfl) rfl rfl ?_
  refine am_e_iconst (v := 3) dd_107_29 rfl rfl ?_
  exact am_e_iret dd_107_30 (by decide +kernel) (Or.inl rfl) k

-- 108: CacheLadderLaw.read(LCacheLadder;I[J)I
theorem dd_108_0 : decode (am_b 108) 0 = .ok (.aload_n 2, 1) := by decide +kernel
theorem dd_108_1 : decode (am_b 108) 1 = .ok (.iconst 0, 1) := by decide +kernel
theorem dd_108_2 : decode (am_b 108) 2 = .ok (.aload_n 0, 1) := by decide +kernel
theorem dd_108_3 : decode (am_b 108) 3 = .ok (.iload_n 1, 1) := by decide +kernel
theorem dd_108_4 : decode (am_b 108) 4 = .ok (.invokevirtual 19, 3) := by decide +kernel
theorem dd_108_7 : decode (am_b 108) 7 = .ok (.i2l, 1) := by decide +kernel
theorem dd_108_8 : decode (am_b 108) 8 = .ok (.lastore, 1) := by decide +kernel
theorem dd_108_9 : decode (am_b 108) 9 = .ok (.goto 6, 3) := by decide +kernel
theorem dd_108_12 : decode (am_b 108) 12 = .ok (.astore_n 3, 1) := by decide +kernel
theorem dd_108_13 : decode (am_b 108) 13 = .ok (.iconst 1, 1) := by decide +kernel
theorem dd_108_14 : decode (am_b 108) 14 = .ok (.ireturn, 1) := by decide +kernel
theorem dd_108_15 : decode (am_b 108) 15 = .ok (.iconst 0, 1) := by decide +kernel
theorem dd_108_16 : decode (am_b 108) 16 = .ok (.ireturn, 1) := by decide +kernel
theorem sg_108_0 {sh : am_Sh} {C : Nat → am_M → List am_V → am_O → Prop} {P : am_S ⊕ am_O → Prop} {M : am_M} {x1 : Int32} {u3 : Option am_V} {M1 : am_M} {r1 : Int32} (hc1 : C 27 M [am_R (some (0, 0, 0)), am_I x1] (M1, Sum.inl (some (am_I r1)))) (k : P (Sum.inr ((am_up M1 (30, 0, 0) 0 r1), Sum.inl (some (am_I 0))))) : am_ev sh C 108 (0, [some (am_R (some (0, 0, 0))), some (am_I x1), some (am_R (some (30, 0, 0))), u3], [], M, 0) P := by
  refine am_e_aload_n dd_108_0 rfl rfl ?_
  refine am_e_iconst (v := 0) dd_108_1 rfl rfl ?_
  refine am_e_aload_n dd_108_2 rfl rfl ?_
  refine am_e_iload_n dd_108_3 rfl rfl ?_
  refine am_e_callV (c := 27) (k := 2) (as := [am_R (some (0, 0, 0)), am_I x1]) (S' := [am_I r1, am_I 0, am_R (some (30, 0, 0))]) (v := some (am_I r1)) (M' := M1) (n' := 1) dd_108_4 (by decide +kernel) ⟨Nat.le_of_ble_eq_true rfl, Nat.le_of_ble_eq_true rfl, by decide +kernel, (Or.inr (am_rcv_of rfl))⟩ rfl rfl (by decide +kernel) hc1 rfl ?_
  refine am_e_i2l dd_108_7 rfl ?_
  refine am_a_last dd_108_8 rfl rfl (by decide) (by decide) rfl ?_
  refine am_e_goto (pc' := 15) dd_108_9 rfl ?_
  refine am_e_iconst (v := 0) dd_108_15 rfl rfl ?_
  exact am_e_iret dd_108_16 (by decide +kernel) (Or.inl rfl) k

theorem sg_108_12 {sh : am_Sh} {C : Nat → am_M → List am_V → am_O → Prop} {P : am_S ⊕ am_O → Prop} {M : am_M} {x1 : Int32} {u3 : Option am_V} {as0 : Nat}  (k : P (Sum.inr (M, Sum.inl (some (am_I 1))))) : am_ev sh C 108 (12, [some (am_R (some (0, 0, 0))), some (am_I x1), some (am_R (some (30, 0, 0))), u3], [am_X as0], M, 1) P := by
  refine am_e_astore_n dd_108_12 (Nat.le_of_ble_eq_true rfl) rfl rfl ?_
  refine am_e_iconst (v := 1) dd_108_13 rfl rfl ?_
  exact am_e_iret dd_108_14 (by decide +kernel) (Or.inl rfl) k

-- 109: CacheLadderLaw.write(LCacheLadder;II)I
theorem dd_109_0 : decode (am_b 109) 0 = .ok (.aload_n 0, 1) := by decide +kernel
theorem dd_109_1 : decode (am_b 109) 1 = .ok (.iload_n 1, 1) := by decide +kernel
theorem dd_109_2 : decode (am_b 109) 2 = .ok (.iload_n 2, 1) := by decide +kernel
theorem dd_109_3 : decode (am_b 109) 3 = .ok (.invokevirtual 25, 3) := by decide +kernel
theorem dd_109_6 : decode (am_b 109) 6 = .ok (.goto 6, 3) := by decide +kernel
theorem dd_109_9 : decode (am_b 109) 9 = .ok (.astore_n 3, 1) := by decide +kernel
theorem dd_109_10 : decode (am_b 109) 10 = .ok (.iconst 1, 1) := by decide +kernel
theorem dd_109_11 : decode (am_b 109) 11 = .ok (.ireturn, 1) := by decide +kernel
theorem dd_109_12 : decode (am_b 109) 12 = .ok (.iconst 0, 1) := by decide +kernel
theorem dd_109_13 : decode (am_b 109) 13 = .ok (.ireturn, 1) := by decide +kernel
theorem sg_109_0 {sh : am_Sh} {C : Nat → am_M → List am_V → am_O → Prop} {P : am_S ⊕ am_O → Prop} {M : am_M} {x1 : Int32} {x2 : Int32} {u3 : Option am_V} {M1 : am_M} (hc1 : C 43 M [am_R (some (0, 0, 0)), am_I x1, am_I x2] (M1, Sum.inl none)) (k : P (Sum.inr (M1, Sum.inl (some (am_I 0))))) : am_ev sh C 109 (0, [some (am_R (some (0, 0, 0))), some (am_I x1), some (am_I x2), u3], [], M, 0) P := by
  refine am_e_aload_n dd_109_0 rfl rfl ?_
  refine am_e_iload_n dd_109_1 rfl rfl ?_
  refine am_e_iload_n dd_109_2 rfl rfl ?_
  refine am_e_callV (c := 43) (k := 3) (as := [am_R (some (0, 0, 0)), am_I x1, am_I x2]) (S' := []) (v := none) (M' := M1) (n' := 1) dd_109_3 (by decide +kernel) ⟨Nat.le_of_ble_eq_true rfl, Nat.le_of_ble_eq_true rfl, by decide +kernel, (Or.inr (am_rcv_of rfl))⟩ rfl rfl (by decide +kernel) hc1 rfl ?_
  refine am_e_goto (pc' := 12) dd_109_6 rfl ?_
  refine am_e_iconst (v := 0) dd_109_12 rfl rfl ?_
  exact am_e_iret dd_109_13 (by decide +kernel) (Or.inl rfl) k

theorem sg_109_9 {sh : am_Sh} {C : Nat → am_M → List am_V → am_O → Prop} {P : am_S ⊕ am_O → Prop} {M : am_M} {x1 : Int32} {x2 : Int32} {u3 : Option am_V} {as0 : Nat}  (k : P (Sum.inr (M, Sum.inl (some (am_I 1))))) : am_ev sh C 109 (9, [some (am_R (some (0, 0, 0))), some (am_I x1), some (am_I x2), u3], [am_X as0], M, 1) P := by
  refine am_e_astore_n dd_109_9 (Nat.le_of_ble_eq_true rfl) rfl rfl ?_
  refine am_e_iconst (v := 1) dd_109_10 rfl rfl ?_
  exact am_e_iret dd_109_11 (by decide +kernel) (Or.inl rfl) k

-- 110: CacheLadderLaw.fill(LCacheLadder;IIII)I
theorem dd_110_0 : decode (am_b 110) 0 = .ok (.aload_n 0, 1) := by decide +kernel
theorem dd_110_1 : decode (am_b 110) 1 = .ok (.iload_n 1, 1) := by decide +kernel
theorem dd_110_2 : decode (am_b 110) 2 = .ok (.iload_n 2, 1) := by decide +kernel
theorem dd_110_3 : decode (am_b 110) 3 = .ok (.iload_n 3, 1) := by decide +kernel
theorem dd_110_4 : decode (am_b 110) 4 = .ok (.iload 4, 2) := by decide +kernel
theorem dd_110_6 : decode (am_b 110) 6 = .ok (.invokevirtual 29, 3) := by decide +kernel
theorem dd_110_9 : decode (am_b 110) 9 = .ok (.goto 11, 3) := by decide +kernel
theorem dd_110_12 : decode (am_b 110) 12 = .ok (.astore 5, 2) := by decide +kernel
theorem dd_110_14 : decode (am_b 110) 14 = .ok (.iconst 1, 1) := by decide +kernel
theorem dd_110_15 : decode (am_b 110) 15 = .ok (.ireturn, 1) := by decide +kernel
theorem dd_110_16 : decode (am_b 110) 16 = .ok (.astore 5, 2) := by decide +kernel
theorem dd_110_18 : decode (am_b 110) 18 = .ok (.iconst 2, 1) := by decide +kernel
theorem dd_110_19 : decode (am_b 110) 19 = .ok (.ireturn, 1) := by decide +kernel
theorem dd_110_20 : decode (am_b 110) 20 = .ok (.iconst 0, 1) := by decide +kernel
theorem dd_110_21 : decode (am_b 110) 21 = .ok (.ireturn, 1) := by decide +kernel
theorem sg_110_0 {sh : am_Sh} {C : Nat → am_M → List am_V → am_O → Prop} {P : am_S ⊕ am_O → Prop} {M : am_M} {x1 : Int32} {x2 : Int32} {x3 : Int32} {x4 : Int32} {u5 : Option am_V} {M1 : am_M} (hc1 : C 45 M [am_R (some (0, 0, 0)), am_I x1, am_I x2, am_I x3, am_I x4] (M1, Sum.inl none)) (k : P (Sum.inr (M1, Sum.inl (some (am_I 0))))) : am_ev sh C 110 (0, [some (am_R (some (0, 0, 0))), some (am_I x1), some (am_I x2), some (am_I x3), some (am_I x4), u5], [], M, 0) P := by
  refine am_e_aload_n dd_110_0 rfl rfl ?_
  refine am_e_iload_n dd_110_1 rfl rfl ?_
  refine am_e_iload_n dd_110_2 rfl rfl ?_
  refine am_e_iload_n dd_110_3 rfl rfl ?_
  refine am_e_iload dd_110_4 rfl rfl ?_
  refine am_e_callV (c := 45) (k := 5) (as := [am_R (some (0, 0, 0)), am_I x1, am_I x2, am_I x3, am_I x4]) (S' := []) (v := none) (M' := M1) (n' := 2) dd_110_6 (by decide +kernel) ⟨Nat.le_of_ble_eq_true rfl, Nat.le_of_ble_eq_true rfl, by decide +kernel, (Or.inr (am_rcv_of rfl))⟩ rfl rfl (by decide +kernel) hc1 rfl ?_
  refine am_e_goto (pc' := 20) dd_110_9 rfl ?_
  refine am_e_iconst (v := 0) dd_110_20 rfl rfl ?_
  exact am_e_iret dd_110_21 (by decide +kernel) (Or.inl rfl) k

theorem sg_110_12 {sh : am_Sh} {C : Nat → am_M → List am_V → am_O → Prop} {P : am_S ⊕ am_O → Prop} {M : am_M} {x1 : Int32} {x2 : Int32} {x3 : Int32} {x4 : Int32} {u5 : Option am_V} {as0 : Nat}  (k : P (Sum.inr (M, Sum.inl (some (am_I 1))))) : am_ev sh C 110 (12, [some (am_R (some (0, 0, 0))), some (am_I x1), some (am_I x2), some (am_I x3), some (am_I x4), u5], [am_X as0], M, 2) P := by
  refine am_e_astore dd_110_12 (Nat.le_of_ble_eq_true rfl) rfl rfl ?_
  refine am_e_iconst (v := 1) dd_110_14 rfl rfl ?_
  exact am_e_iret dd_110_15 (by decide +kernel) (Or.inl rfl) k

theorem sg_110_16 {sh : am_Sh} {C : Nat → am_M → List am_V → am_O → Prop} {P : am_S ⊕ am_O → Prop} {M : am_M} {x1 : Int32} {x2 : Int32} {x3 : Int32} {x4 : Int32} {u5 : Option am_V} {as0 : Nat}  (k : P (Sum.inr (M, Sum.inl (some (am_I 2))))) : am_ev sh C 110 (16, [some (am_R (some (0, 0, 0))), some (am_I x1), some (am_I x2), some (am_I x3), some (am_I x4), u5], [am_X as0], M, 2) P := by
  refine am_e_astore dd_110_16 (Nat.le_of_ble_eq_true rfl) rfl rfl ?_
  refine am_e_iconst (v := 2) dd_110_18 rfl rfl ?_
  exact am_e_iret dd_110_19 (by decide +kernel) (Or.inl rfl) k

-- 111: CacheLadderLaw.run(LCacheLadder;III[J)I
theorem dd_111_0 : decode (am_b 111) 0 = .ok (.aload 4, 2) := by decide +kernel
theorem dd_111_2 : decode (am_b 111) 2 = .ok (.iconst 0, 1) := by decide +kernel
theorem dd_111_3 : decode (am_b 111) 3 = .ok (.aload_n 0, 1) := by decide +kernel
theorem dd_111_4 : decode (am_b 111) 4 = .ok (.iload_n 1, 1) := by decide +kernel
theorem dd_111_5 : decode (am_b 111) 5 = .ok (.iload_n 2, 1) := by decide +kernel
theorem dd_111_6 : decode (am_b 111) 6 = .ok (.iload_n 3, 1) := by decide +kernel
theorem dd_111_7 : decode (am_b 111) 7 = .ok (.invokevirtual 33, 3) := by decide +kernel
theorem dd_111_10 : decode (am_b 111) 10 = .ok (.i2l, 1) := by decide +kernel
theorem dd_111_11 : decode (am_b 111) 11 = .ok (.lastore, 1) := by decide +kernel
theorem dd_111_12 : decode (am_b 111) 12 = .ok (.goto 7, 3) := by decide +kernel
theorem dd_111_15 : decode (am_b 111) 15 = .ok (.astore 5, 2) := by decide +kernel
theorem dd_111_17 : decode (am_b 111) 17 = .ok (.iconst 1, 1) := by decide +kernel
theorem dd_111_18 : decode (am_b 111) 18 = .ok (.ireturn, 1) := by decide +kernel
theorem dd_111_19 : decode (am_b 111) 19 = .ok (.iconst 0, 1) := by decide +kernel
theorem dd_111_20 : decode (am_b 111) 20 = .ok (.ireturn, 1) := by decide +kernel
theorem sg_111_0 {sh : am_Sh} {C : Nat → am_M → List am_V → am_O → Prop} {P : am_S ⊕ am_O → Prop} {M : am_M} {x1 : Int32} {x2 : Int32} {x3 : Int32} {u5 : Option am_V} {M1 : am_M} {r1 : Int32} (hc1 : C 46 M [am_R (some (0, 0, 0)), am_I x1, am_I x2, am_I x3] (M1, Sum.inl (some (am_I r1)))) (k : P (Sum.inr ((am_up M1 (30, 0, 0) 0 r1), Sum.inl (some (am_I 0))))) : am_ev sh C 111 (0, [some (am_R (some (0, 0, 0))), some (am_I x1), some (am_I x2), some (am_I x3), some (am_R (some (30, 0, 0))), u5], [], M, 0) P := by
  refine am_e_aload dd_111_0 rfl rfl ?_
  refine am_e_iconst (v := 0) dd_111_2 rfl rfl ?_
  refine am_e_aload_n dd_111_3 rfl rfl ?_
  refine am_e_iload_n dd_111_4 rfl rfl ?_
  refine am_e_iload_n dd_111_5 rfl rfl ?_
  refine am_e_iload_n dd_111_6 rfl rfl ?_
  refine am_e_callV (c := 46) (k := 4) (as := [am_R (some (0, 0, 0)), am_I x1, am_I x2, am_I x3]) (S' := [am_I r1, am_I 0, am_R (some (30, 0, 0))]) (v := some (am_I r1)) (M' := M1) (n' := 1) dd_111_7 (by decide +kernel) ⟨Nat.le_of_ble_eq_true rfl, Nat.le_of_ble_eq_true rfl, by decide +kernel, (Or.inr (am_rcv_of rfl))⟩ rfl rfl (by decide +kernel) hc1 rfl ?_
  refine am_e_i2l dd_111_10 rfl ?_
  refine am_a_last dd_111_11 rfl rfl (by decide) (by decide) rfl ?_
  refine am_e_goto (pc' := 19) dd_111_12 rfl ?_
  refine am_e_iconst (v := 0) dd_111_19 rfl rfl ?_
  exact am_e_iret dd_111_20 (by decide +kernel) (Or.inl rfl) k

theorem sg_111_15 {sh : am_Sh} {C : Nat → am_M → List am_V → am_O → Prop} {P : am_S ⊕ am_O → Prop} {M : am_M} {x1 : Int32} {x2 : Int32} {x3 : Int32} {u5 : Option am_V} {as0 : Nat}  (k : P (Sum.inr (M, Sum.inl (some (am_I 1))))) : am_ev sh C 111 (15, [some (am_R (some (0, 0, 0))), some (am_I x1), some (am_I x2), some (am_I x3), some (am_R (some (30, 0, 0))), u5], [am_X as0], M, 1) P := by
  refine am_e_astore dd_111_15 (Nat.le_of_ble_eq_true rfl) rfl rfl ?_
  refine am_e_iconst (v := 1) dd_111_17 rfl rfl ?_
  exact am_e_iret dd_111_18 (by decide +kernel) (Or.inl rfl) k

-- 112: CacheLadderLaw.peek(LCacheLadder;I[J)I
theorem dd_112_0 : decode (am_b 112) 0 = .ok (.aload_n 2, 1) := by decide +kernel
theorem dd_112_1 : decode (am_b 112) 1 = .ok (.iconst 0, 1) := by decide +kernel
theorem dd_112_2 : decode (am_b 112) 2 = .ok (.aload_n 0, 1) := by decide +kernel
theorem dd_112_3 : decode (am_b 112) 3 = .ok (.iload_n 1, 1) := by decide +kernel
theorem dd_112_4 : decode (am_b 112) 4 = .ok (.invokevirtual 37, 3) := by decide +kernel
theorem dd_112_7 : decode (am_b 112) 7 = .ok (.i2l, 1) := by decide +kernel
theorem dd_112_8 : decode (am_b 112) 8 = .ok (.lastore, 1) := by decide +kernel
theorem dd_112_9 : decode (am_b 112) 9 = .ok (.goto 6, 3) := by decide +kernel
theorem dd_112_12 : decode (am_b 112) 12 = .ok (.astore_n 3, 1) := by decide +kernel
theorem dd_112_13 : decode (am_b 112) 13 = .ok (.iconst 1, 1) := by decide +kernel
theorem dd_112_14 : decode (am_b 112) 14 = .ok (.ireturn, 1) := by decide +kernel
theorem dd_112_15 : decode (am_b 112) 15 = .ok (.iconst 0, 1) := by decide +kernel
theorem dd_112_16 : decode (am_b 112) 16 = .ok (.ireturn, 1) := by decide +kernel
theorem sg_112_0 {sh : am_Sh} {C : Nat → am_M → List am_V → am_O → Prop} {P : am_S ⊕ am_O → Prop} {M : am_M} {x1 : Int32} {u3 : Option am_V} {M1 : am_M} {r1 : Int32} (hc1 : C 47 M [am_R (some (0, 0, 0)), am_I x1] (M1, Sum.inl (some (am_I r1)))) (k : P (Sum.inr ((am_up M1 (30, 0, 0) 0 r1), Sum.inl (some (am_I 0))))) : am_ev sh C 112 (0, [some (am_R (some (0, 0, 0))), some (am_I x1), some (am_R (some (30, 0, 0))), u3], [], M, 0) P := by
  refine am_e_aload_n dd_112_0 rfl rfl ?_
  refine am_e_iconst (v := 0) dd_112_1 rfl rfl ?_
  refine am_e_aload_n dd_112_2 rfl rfl ?_
  refine am_e_iload_n dd_112_3 rfl rfl ?_
  refine am_e_callV (c := 47) (k := 2) (as := [am_R (some (0, 0, 0)), am_I x1]) (S' := [am_I r1, am_I 0, am_R (some (30, 0, 0))]) (v := some (am_I r1)) (M' := M1) (n' := 1) dd_112_4 (by decide +kernel) ⟨Nat.le_of_ble_eq_true rfl, Nat.le_of_ble_eq_true rfl, by decide +kernel, (Or.inr (am_rcv_of rfl))⟩ rfl rfl (by decide +kernel) hc1 rfl ?_
  refine am_e_i2l dd_112_7 rfl ?_
  refine am_a_last dd_112_8 rfl rfl (by decide) (by decide) rfl ?_
  refine am_e_goto (pc' := 15) dd_112_9 rfl ?_
  refine am_e_iconst (v := 0) dd_112_15 rfl rfl ?_
  exact am_e_iret dd_112_16 (by decide +kernel) (Or.inl rfl) k

theorem sg_112_12 {sh : am_Sh} {C : Nat → am_M → List am_V → am_O → Prop} {P : am_S ⊕ am_O → Prop} {M : am_M} {x1 : Int32} {u3 : Option am_V} {as0 : Nat}  (k : P (Sum.inr (M, Sum.inl (some (am_I 1))))) : am_ev sh C 112 (12, [some (am_R (some (0, 0, 0))), some (am_I x1), some (am_R (some (30, 0, 0))), u3], [am_X as0], M, 1) P := by
  refine am_e_astore_n dd_112_12 (Nat.le_of_ble_eq_true rfl) rfl rfl ?_
  refine am_e_iconst (v := 1) dd_112_13 rfl rfl ?_
  exact am_e_iret dd_112_14 (by decide +kernel) (Or.inl rfl) k

-- 113: CacheLadderLaw.stored(LCacheLadder;I[J)I
theorem dd_113_0 : decode (am_b 113) 0 = .ok (.aload_n 2, 1) := by decide +kernel
theorem dd_113_1 : decode (am_b 113) 1 = .ok (.iconst 0, 1) := by decide +kernel
theorem dd_113_2 : decode (am_b 113) 2 = .ok (.aload_n 0, 1) := by decide +kernel
theorem dd_113_3 : decode (am_b 113) 3 = .ok (.iload_n 1, 1) := by decide +kernel
theorem dd_113_4 : decode (am_b 113) 4 = .ok (.invokevirtual 40, 3) := by decide +kernel
theorem dd_113_7 : decode (am_b 113) 7 = .ok (.i2l, 1) := by decide +kernel
theorem dd_113_8 : decode (am_b 113) 8 = .ok (.lastore, 1) := by decide +kernel
theorem dd_113_9 : decode (am_b 113) 9 = .ok (.goto 6, 3) := by decide +kernel
theorem dd_113_12 : decode (am_b 113) 12 = .ok (.astore_n 3, 1) := by decide +kernel
theorem dd_113_13 : decode (am_b 113) 13 = .ok (.iconst 1, 1) := by decide +kernel
theorem dd_113_14 : decode (am_b 113) 14 = .ok (.ireturn, 1) := by decide +kernel
theorem dd_113_15 : decode (am_b 113) 15 = .ok (.iconst 0, 1) := by decide +kernel
theorem dd_113_16 : decode (am_b 113) 16 = .ok (.ireturn, 1) := by decide +kernel
theorem sg_113_0 {sh : am_Sh} {C : Nat → am_M → List am_V → am_O → Prop} {P : am_S ⊕ am_O → Prop} {M : am_M} {x1 : Int32} {u3 : Option am_V} {M1 : am_M} {r1 : Int32} (hc1 : C 48 M [am_R (some (0, 0, 0)), am_I x1] (M1, Sum.inl (some (am_I r1)))) (k : P (Sum.inr ((am_up M1 (30, 0, 0) 0 r1), Sum.inl (some (am_I 0))))) : am_ev sh C 113 (0, [some (am_R (some (0, 0, 0))), some (am_I x1), some (am_R (some (30, 0, 0))), u3], [], M, 0) P := by
  refine am_e_aload_n dd_113_0 rfl rfl ?_
  refine am_e_iconst (v := 0) dd_113_1 rfl rfl ?_
  refine am_e_aload_n dd_113_2 rfl rfl ?_
  refine am_e_iload_n dd_113_3 rfl rfl ?_
  refine am_e_callV (c := 48) (k := 2) (as := [am_R (some (0, 0, 0)), am_I x1]) (S' := [am_I r1, am_I 0, am_R (some (30, 0, 0))]) (v := some (am_I r1)) (M' := M1) (n' := 1) dd_113_4 (by decide +kernel) ⟨Nat.le_of_ble_eq_true rfl, Nat.le_of_ble_eq_true rfl, by decide +kernel, (Or.inr (am_rcv_of rfl))⟩ rfl rfl (by decide +kernel) hc1 rfl ?_
  refine am_e_i2l dd_113_7 rfl ?_
  refine am_a_last dd_113_8 rfl rfl (by decide) (by decide) rfl ?_
  refine am_e_goto (pc' := 15) dd_113_9 rfl ?_
  refine am_e_iconst (v := 0) dd_113_15 rfl rfl ?_
  exact am_e_iret dd_113_16 (by decide +kernel) (Or.inl rfl) k

theorem sg_113_12 {sh : am_Sh} {C : Nat → am_M → List am_V → am_O → Prop} {P : am_S ⊕ am_O → Prop} {M : am_M} {x1 : Int32} {u3 : Option am_V} {as0 : Nat}  (k : P (Sum.inr (M, Sum.inl (some (am_I 1))))) : am_ev sh C 113 (12, [some (am_R (some (0, 0, 0))), some (am_I x1), some (am_R (some (30, 0, 0))), u3], [am_X as0], M, 1) P := by
  refine am_e_astore_n dd_113_12 (Nat.le_of_ble_eq_true rfl) rfl rfl ?_
  refine am_e_iconst (v := 1) dd_113_13 rfl rfl ?_
  exact am_e_iret dd_113_14 (by decide +kernel) (Or.inl rfl) k

-- 114: CacheLadderLaw.flush(LCacheLadder;I[J)I
theorem dd_114_0 : decode (am_b 114) 0 = .ok (.aload_n 2, 1) := by decide +kernel
theorem dd_114_1 : decode (am_b 114) 1 = .ok (.iconst 0, 1) := by decide +kernel
theorem dd_114_2 : decode (am_b 114) 2 = .ok (.aload_n 0, 1) := by decide +kernel
theorem dd_114_3 : decode (am_b 114) 3 = .ok (.iload_n 1, 1) := by decide +kernel
theorem dd_114_4 : decode (am_b 114) 4 = .ok (.invokevirtual 43, 3) := by decide +kernel
theorem dd_114_7 : decode (am_b 114) 7 = .ok (.i2l, 1) := by decide +kernel
theorem dd_114_8 : decode (am_b 114) 8 = .ok (.lastore, 1) := by decide +kernel
theorem dd_114_9 : decode (am_b 114) 9 = .ok (.goto 6, 3) := by decide +kernel
theorem dd_114_12 : decode (am_b 114) 12 = .ok (.astore_n 3, 1) := by decide +kernel
theorem dd_114_13 : decode (am_b 114) 13 = .ok (.iconst 1, 1) := by decide +kernel
theorem dd_114_14 : decode (am_b 114) 14 = .ok (.ireturn, 1) := by decide +kernel
theorem dd_114_15 : decode (am_b 114) 15 = .ok (.iconst 0, 1) := by decide +kernel
theorem dd_114_16 : decode (am_b 114) 16 = .ok (.ireturn, 1) := by decide +kernel
theorem sg_114_0 {sh : am_Sh} {C : Nat → am_M → List am_V → am_O → Prop} {P : am_S ⊕ am_O → Prop} {M : am_M} {x1 : Int32} {u3 : Option am_V} {M1 : am_M} {r1 : Int32} (hc1 : C 49 M [am_R (some (0, 0, 0)), am_I x1] (M1, Sum.inl (some (am_I r1)))) (k : P (Sum.inr ((am_up M1 (30, 0, 0) 0 r1), Sum.inl (some (am_I 0))))) : am_ev sh C 114 (0, [some (am_R (some (0, 0, 0))), some (am_I x1), some (am_R (some (30, 0, 0))), u3], [], M, 0) P := by
  refine am_e_aload_n dd_114_0 rfl rfl ?_
  refine am_e_iconst (v := 0) dd_114_1 rfl rfl ?_
  refine am_e_aload_n dd_114_2 rfl rfl ?_
  refine am_e_iload_n dd_114_3 rfl rfl ?_
  refine am_e_callV (c := 49) (k := 2) (as := [am_R (some (0, 0, 0)), am_I x1]) (S' := [am_I r1, am_I 0, am_R (some (30, 0, 0))]) (v := some (am_I r1)) (M' := M1) (n' := 1) dd_114_4 (by decide +kernel) ⟨Nat.le_of_ble_eq_true rfl, Nat.le_of_ble_eq_true rfl, by decide +kernel, (Or.inr (am_rcv_of rfl))⟩ rfl rfl (by decide +kernel) hc1 rfl ?_
  refine am_e_i2l dd_114_7 rfl ?_
  refine am_a_last dd_114_8 rfl rfl (by decide) (by decide) rfl ?_
  refine am_e_goto (pc' := 15) dd_114_9 rfl ?_
  refine am_e_iconst (v := 0) dd_114_15 rfl rfl ?_
  exact am_e_iret dd_114_16 (by decide +kernel) (Or.inl rfl) k

theorem sg_114_12 {sh : am_Sh} {C : Nat → am_M → List am_V → am_O → Prop} {P : am_S ⊕ am_O → Prop} {M : am_M} {x1 : Int32} {u3 : Option am_V} {as0 : Nat}  (k : P (Sum.inr (M, Sum.inl (some (am_I 1))))) : am_ev sh C 114 (12, [some (am_R (some (0, 0, 0))), some (am_I x1), some (am_R (some (30, 0, 0))), u3], [am_X as0], M, 1) P := by
  refine am_e_astore_n dd_114_12 (Nat.le_of_ble_eq_true rfl) rfl rfl ?_
  refine am_e_iconst (v := 1) dd_114_13 rfl rfl ?_
  exact am_e_iret dd_114_14 (by decide +kernel) (Or.inl rfl) k

-- 115: CacheLadderLaw.empty(LCacheLadder;I[J)I
theorem dd_115_0 : decode (am_b 115) 0 = .ok (.aload_n 2, 1) := by decide +kernel
theorem dd_115_1 : decode (am_b 115) 1 = .ok (.iconst 0, 1) := by decide +kernel
theorem dd_115_2 : decode (am_b 115) 2 = .ok (.aload_n 0, 1) := by decide +kernel
theorem dd_115_3 : decode (am_b 115) 3 = .ok (.iload_n 1, 1) := by decide +kernel
theorem dd_115_4 : decode (am_b 115) 4 = .ok (.invokevirtual 46, 3) := by decide +kernel
theorem dd_115_7 : decode (am_b 115) 7 = .ok (.i2l, 1) := by decide +kernel
theorem dd_115_8 : decode (am_b 115) 8 = .ok (.lastore, 1) := by decide +kernel
theorem dd_115_9 : decode (am_b 115) 9 = .ok (.goto 6, 3) := by decide +kernel
theorem dd_115_12 : decode (am_b 115) 12 = .ok (.astore_n 3, 1) := by decide +kernel
theorem dd_115_13 : decode (am_b 115) 13 = .ok (.iconst 1, 1) := by decide +kernel
theorem dd_115_14 : decode (am_b 115) 14 = .ok (.ireturn, 1) := by decide +kernel
theorem dd_115_15 : decode (am_b 115) 15 = .ok (.iconst 0, 1) := by decide +kernel
theorem dd_115_16 : decode (am_b 115) 16 = .ok (.ireturn, 1) := by decide +kernel
theorem sg_115_0 {sh : am_Sh} {C : Nat → am_M → List am_V → am_O → Prop} {P : am_S ⊕ am_O → Prop} {M : am_M} {x1 : Int32} {u3 : Option am_V} {M1 : am_M} {r1 : Int32} (hc1 : C 51 M [am_R (some (0, 0, 0)), am_I x1] (M1, Sum.inl (some (am_I r1)))) (k : P (Sum.inr ((am_up M1 (30, 0, 0) 0 r1), Sum.inl (some (am_I 0))))) : am_ev sh C 115 (0, [some (am_R (some (0, 0, 0))), some (am_I x1), some (am_R (some (30, 0, 0))), u3], [], M, 0) P := by
  refine am_e_aload_n dd_115_0 rfl rfl ?_
  refine am_e_iconst (v := 0) dd_115_1 rfl rfl ?_
  refine am_e_aload_n dd_115_2 rfl rfl ?_
  refine am_e_iload_n dd_115_3 rfl rfl ?_
  refine am_e_callV (c := 51) (k := 2) (as := [am_R (some (0, 0, 0)), am_I x1]) (S' := [am_I r1, am_I 0, am_R (some (30, 0, 0))]) (v := some (am_I r1)) (M' := M1) (n' := 1) dd_115_4 (by decide +kernel) ⟨Nat.le_of_ble_eq_true rfl, Nat.le_of_ble_eq_true rfl, by decide +kernel, (Or.inr (am_rcv_of rfl))⟩ rfl rfl (by decide +kernel) hc1 rfl ?_
  refine am_e_i2l dd_115_7 rfl ?_
  refine am_a_last dd_115_8 rfl rfl (by decide) (by decide) rfl ?_
  refine am_e_goto (pc' := 15) dd_115_9 rfl ?_
  refine am_e_iconst (v := 0) dd_115_15 rfl rfl ?_
  exact am_e_iret dd_115_16 (by decide +kernel) (Or.inl rfl) k

theorem sg_115_12 {sh : am_Sh} {C : Nat → am_M → List am_V → am_O → Prop} {P : am_S ⊕ am_O → Prop} {M : am_M} {x1 : Int32} {u3 : Option am_V} {as0 : Nat}  (k : P (Sum.inr (M, Sum.inl (some (am_I 1))))) : am_ev sh C 115 (12, [some (am_R (some (0, 0, 0))), some (am_I x1), some (am_R (some (30, 0, 0))), u3], [am_X as0], M, 1) P := by
  refine am_e_astore_n dd_115_12 (Nat.le_of_ble_eq_true rfl) rfl rfl ?_
  refine am_e_iconst (v := 1) dd_115_13 rfl rfl ?_
  exact am_e_iret dd_115_14 (by decide +kernel) (Or.inl rfl) k

-- 116: CacheLadderLaw.count(LCacheLadder;II[J)I
theorem dd_116_0 : decode (am_b 116) 0 = .ok (.aload_n 3, 1) := by decide +kernel
theorem dd_116_1 : decode (am_b 116) 1 = .ok (.iconst 0, 1) := by decide +kernel
theorem dd_116_2 : decode (am_b 116) 2 = .ok (.aload_n 0, 1) := by decide +kernel
theorem dd_116_3 : decode (am_b 116) 3 = .ok (.iload_n 1, 1) := by decide +kernel
theorem dd_116_4 : decode (am_b 116) 4 = .ok (.iload_n 2, 1) := by decide +kernel
theorem dd_116_5 : decode (am_b 116) 5 = .ok (.invokevirtual 49, 3) := by decide +kernel
theorem dd_116_8 : decode (am_b 116) 8 = .ok (.i2l, 1) := by decide +kernel
theorem dd_116_9 : decode (am_b 116) 9 = .ok (.lastore, 1) := by decide +kernel
theorem dd_116_10 : decode (am_b 116) 10 = .ok (.goto 11, 3) := by decide +kernel
theorem dd_116_13 : decode (am_b 116) 13 = .ok (.astore 4, 2) := by decide +kernel
theorem dd_116_15 : decode (am_b 116) 15 = .ok (.iconst 1, 1) := by decide +kernel
theorem dd_116_16 : decode (am_b 116) 16 = .ok (.ireturn, 1) := by decide +kernel
theorem dd_116_17 : decode (am_b 116) 17 = .ok (.astore 4, 2) := by decide +kernel
theorem dd_116_19 : decode (am_b 116) 19 = .ok (.iconst 2, 1) := by decide +kernel
theorem dd_116_20 : decode (am_b 116) 20 = .ok (.ireturn, 1) := by decide +kernel
theorem dd_116_21 : decode (am_b 116) 21 = .ok (.iconst 0, 1) := by decide +kernel
theorem dd_116_22 : decode (am_b 116) 22 = .ok (.ireturn, 1) := by decide +kernel
theorem sg_116_0 {sh : am_Sh} {C : Nat → am_M → List am_V → am_O → Prop} {P : am_S ⊕ am_O → Prop} {M : am_M} {x1 : Int32} {x2 : Int32} {u4 : Option am_V} {M1 : am_M} {r1 : Int32} (hc1 : C 52 M [am_R (some (0, 0, 0)), am_I x1, am_I x2] (M1, Sum.inl (some (am_I r1)))) (k : P (Sum.inr ((am_up M1 (30, 0, 0) 0 r1), Sum.inl (some (am_I 0))))) : am_ev sh C 116 (0, [some (am_R (some (0, 0, 0))), some (am_I x1), some (am_I x2), some (am_R (some (30, 0, 0))), u4], [], M, 0) P := by
  refine am_e_aload_n dd_116_0 rfl rfl ?_
  refine am_e_iconst (v := 0) dd_116_1 rfl rfl ?_
  refine am_e_aload_n dd_116_2 rfl rfl ?_
  refine am_e_iload_n dd_116_3 rfl rfl ?_
  refine am_e_iload_n dd_116_4 rfl rfl ?_
  refine am_e_callV (c := 52) (k := 3) (as := [am_R (some (0, 0, 0)), am_I x1, am_I x2]) (S' := [am_I r1, am_I 0, am_R (some (30, 0, 0))]) (v := some (am_I r1)) (M' := M1) (n' := 2) dd_116_5 (by decide +kernel) ⟨Nat.le_of_ble_eq_true rfl, Nat.le_of_ble_eq_true rfl, by decide +kernel, (Or.inr (am_rcv_of rfl))⟩ rfl rfl (by decide +kernel) hc1 rfl ?_
  refine am_e_i2l dd_116_8 rfl ?_
  refine am_a_last dd_116_9 rfl rfl (by decide) (by decide) rfl ?_
  refine am_e_goto (pc' := 21) dd_116_10 rfl ?_
  refine am_e_iconst (v := 0) dd_116_21 rfl rfl ?_
  exact am_e_iret dd_116_22 (by decide +kernel) (Or.inl rfl) k

theorem sg_116_13 {sh : am_Sh} {C : Nat → am_M → List am_V → am_O → Prop} {P : am_S ⊕ am_O → Prop} {M : am_M} {x1 : Int32} {x2 : Int32} {u4 : Option am_V} {as0 : Nat}  (k : P (Sum.inr (M, Sum.inl (some (am_I 1))))) : am_ev sh C 116 (13, [some (am_R (some (0, 0, 0))), some (am_I x1), some (am_I x2), some (am_R (some (30, 0, 0))), u4], [am_X as0], M, 2) P := by
  refine am_e_astore dd_116_13 (Nat.le_of_ble_eq_true rfl) rfl rfl ?_
  refine am_e_iconst (v := 1) dd_116_15 rfl rfl ?_
  exact am_e_iret dd_116_16 (by decide +kernel) (Or.inl rfl) k

theorem sg_116_17 {sh : am_Sh} {C : Nat → am_M → List am_V → am_O → Prop} {P : am_S ⊕ am_O → Prop} {M : am_M} {x1 : Int32} {x2 : Int32} {u4 : Option am_V} {as0 : Nat}  (k : P (Sum.inr (M, Sum.inl (some (am_I 2))))) : am_ev sh C 116 (17, [some (am_R (some (0, 0, 0))), some (am_I x1), some (am_I x2), some (am_R (some (30, 0, 0))), u4], [am_X as0], M, 2) P := by
  refine am_e_astore dd_116_17 (Nat.le_of_ble_eq_true rfl) rfl rfl ?_
  refine am_e_iconst (v := 2) dd_116_19 rfl rfl ?_
  exact am_e_iret dd_116_20 (by decide +kernel) (Or.inl rfl) k

-- 117: CacheLadderLaw.line(LCacheLadder;III[J)I
theorem dd_117_0 : decode (am_b 117) 0 = .ok (.aload 4, 2) := by decide +kernel
theorem dd_117_2 : decode (am_b 117) 2 = .ok (.iconst 0, 1) := by decide +kernel
theorem dd_117_3 : decode (am_b 117) 3 = .ok (.aload_n 0, 1) := by decide +kernel
theorem dd_117_4 : decode (am_b 117) 4 = .ok (.iload_n 1, 1) := by decide +kernel
theorem dd_117_5 : decode (am_b 117) 5 = .ok (.iload_n 2, 1) := by decide +kernel
theorem dd_117_6 : decode (am_b 117) 6 = .ok (.iload_n 3, 1) := by decide +kernel
theorem dd_117_7 : decode (am_b 117) 7 = .ok (.invokevirtual 53, 3) := by decide +kernel
theorem dd_117_10 : decode (am_b 117) 10 = .ok (.i2l, 1) := by decide +kernel
theorem dd_117_11 : decode (am_b 117) 11 = .ok (.lastore, 1) := by decide +kernel
theorem dd_117_12 : decode (am_b 117) 12 = .ok (.goto 7, 3) := by decide +kernel
theorem dd_117_15 : decode (am_b 117) 15 = .ok (.astore 5, 2) := by decide +kernel
theorem dd_117_17 : decode (am_b 117) 17 = .ok (.iconst 1, 1) := by decide +kernel
theorem dd_117_18 : decode (am_b 117) 18 = .ok (.ireturn, 1) := by decide +kernel
theorem dd_117_19 : decode (am_b 117) 19 = .ok (.iconst 0, 1) := by decide +kernel
theorem dd_117_20 : decode (am_b 117) 20 = .ok (.ireturn, 1) := by decide +kernel
theorem sg_117_0 {sh : am_Sh} {C : Nat → am_M → List am_V → am_O → Prop} {P : am_S ⊕ am_O → Prop} {M : am_M} {x1 : Int32} {x2 : Int32} {x3 : Int32} {u5 : Option am_V} {M1 : am_M} {r1 : Int32} (hc1 : C 53 M [am_R (some (0, 0, 0)), am_I x1, am_I x2, am_I x3] (M1, Sum.inl (some (am_I r1)))) (k : P (Sum.inr ((am_up M1 (30, 0, 0) 0 r1), Sum.inl (some (am_I 0))))) : am_ev sh C 117 (0, [some (am_R (some (0, 0, 0))), some (am_I x1), some (am_I x2), some (am_I x3), some (am_R (some (30, 0, 0))), u5], [], M, 0) P := by
  refine am_e_aload dd_117_0 rfl rfl ?_
  refine am_e_iconst (v := 0) dd_117_2 rfl rfl ?_
  refine am_e_aload_n dd_117_3 rfl rfl ?_
  refine am_e_iload_n dd_117_4 rfl rfl ?_
  refine am_e_iload_n dd_117_5 rfl rfl ?_
  refine am_e_iload_n dd_117_6 rfl rfl ?_
  refine am_e_callV (c := 53) (k := 4) (as := [am_R (some (0, 0, 0)), am_I x1, am_I x2, am_I x3]) (S' := [am_I r1, am_I 0, am_R (some (30, 0, 0))]) (v := some (am_I r1)) (M' := M1) (n' := 3) dd_117_7 (by decide +kernel) ⟨Nat.le_of_ble_eq_true rfl, Nat.le_of_ble_eq_true rfl, by decide +kernel, (Or.inr (am_rcv_of rfl))⟩ rfl rfl (by decide +kernel) hc1 rfl ?_
  refine am_e_i2l dd_117_10 rfl ?_
  refine am_a_last dd_117_11 rfl rfl (by decide) (by decide) rfl ?_
  refine am_e_goto (pc' := 19) dd_117_12 rfl ?_
  refine am_e_iconst (v := 0) dd_117_19 rfl rfl ?_
  exact am_e_iret dd_117_20 (by decide +kernel) (Or.inl rfl) k

theorem sg_117_15 {sh : am_Sh} {C : Nat → am_M → List am_V → am_O → Prop} {P : am_S ⊕ am_O → Prop} {M : am_M} {x1 : Int32} {x2 : Int32} {x3 : Int32} {u5 : Option am_V} {as0 : Nat}  (k : P (Sum.inr (M, Sum.inl (some (am_I 1))))) : am_ev sh C 117 (15, [some (am_R (some (0, 0, 0))), some (am_I x1), some (am_I x2), some (am_I x3), some (am_R (some (30, 0, 0))), u5], [am_X as0], M, 3) P := by
  refine am_e_astore dd_117_15 (Nat.le_of_ble_eq_true rfl) rfl rfl ?_
  refine am_e_iconst (v := 1) dd_117_17 rfl rfl ?_
  exact am_e_iret dd_117_18 (by decide +kernel) (Or.inl rfl) k

-- 118: CacheLadderLaw.way(LCacheLadder;II[J)I
theorem dd_118_0 : decode (am_b 118) 0 = .ok (.aload_n 3, 1) := by decide +kernel
theorem dd_118_1 : decode (am_b 118) 1 = .ok (.iconst 0, 1) := by decide +kernel
theorem dd_118_2 : decode (am_b 118) 2 = .ok (.aload_n 0, 1) := by decide +kernel
theorem dd_118_3 : decode (am_b 118) 3 = .ok (.iload_n 1, 1) := by decide +kernel
theorem dd_118_4 : decode (am_b 118) 4 = .ok (.iload_n 2, 1) := by decide +kernel
theorem dd_118_5 : decode (am_b 118) 5 = .ok (.invokevirtual 56, 3) := by decide +kernel
theorem dd_118_8 : decode (am_b 118) 8 = .ok (.i2l, 1) := by decide +kernel
theorem dd_118_9 : decode (am_b 118) 9 = .ok (.lastore, 1) := by decide +kernel
theorem dd_118_10 : decode (am_b 118) 10 = .ok (.goto 7, 3) := by decide +kernel
theorem dd_118_13 : decode (am_b 118) 13 = .ok (.astore 4, 2) := by decide +kernel
theorem dd_118_15 : decode (am_b 118) 15 = .ok (.iconst 1, 1) := by decide +kernel
theorem dd_118_16 : decode (am_b 118) 16 = .ok (.ireturn, 1) := by decide +kernel
theorem dd_118_17 : decode (am_b 118) 17 = .ok (.iconst 0, 1) := by decide +kernel
theorem dd_118_18 : decode (am_b 118) 18 = .ok (.ireturn, 1) := by decide +kernel
theorem sg_118_0 {sh : am_Sh} {C : Nat → am_M → List am_V → am_O → Prop} {P : am_S ⊕ am_O → Prop} {M : am_M} {x1 : Int32} {x2 : Int32} {u4 : Option am_V} {M1 : am_M} {r1 : Int32} (hc1 : C 55 M [am_R (some (0, 0, 0)), am_I x1, am_I x2] (M1, Sum.inl (some (am_I r1)))) (k : P (Sum.inr ((am_up M1 (30, 0, 0) 0 r1), Sum.inl (some (am_I 0))))) : am_ev sh C 118 (0, [some (am_R (some (0, 0, 0))), some (am_I x1), some (am_I x2), some (am_R (some (30, 0, 0))), u4], [], M, 0) P := by
  refine am_e_aload_n dd_118_0 rfl rfl ?_
  refine am_e_iconst (v := 0) dd_118_1 rfl rfl ?_
  refine am_e_aload_n dd_118_2 rfl rfl ?_
  refine am_e_iload_n dd_118_3 rfl rfl ?_
  refine am_e_iload_n dd_118_4 rfl rfl ?_
  refine am_e_callV (c := 55) (k := 3) (as := [am_R (some (0, 0, 0)), am_I x1, am_I x2]) (S' := [am_I r1, am_I 0, am_R (some (30, 0, 0))]) (v := some (am_I r1)) (M' := M1) (n' := 2) dd_118_5 (by decide +kernel) ⟨Nat.le_of_ble_eq_true rfl, Nat.le_of_ble_eq_true rfl, by decide +kernel, (Or.inr (am_rcv_of rfl))⟩ rfl rfl (by decide +kernel) hc1 rfl ?_
  refine am_e_i2l dd_118_8 rfl ?_
  refine am_a_last dd_118_9 rfl rfl (by decide) (by decide) rfl ?_
  refine am_e_goto (pc' := 17) dd_118_10 rfl ?_
  refine am_e_iconst (v := 0) dd_118_17 rfl rfl ?_
  exact am_e_iret dd_118_18 (by decide +kernel) (Or.inl rfl) k

theorem sg_118_13 {sh : am_Sh} {C : Nat → am_M → List am_V → am_O → Prop} {P : am_S ⊕ am_O → Prop} {M : am_M} {x1 : Int32} {x2 : Int32} {u4 : Option am_V} {as0 : Nat}  (k : P (Sum.inr (M, Sum.inl (some (am_I 1))))) : am_ev sh C 118 (13, [some (am_R (some (0, 0, 0))), some (am_I x1), some (am_I x2), some (am_R (some (30, 0, 0))), u4], [am_X as0], M, 2) P := by
  refine am_e_astore dd_118_13 (Nat.le_of_ble_eq_true rfl) rfl rfl ?_
  refine am_e_iconst (v := 1) dd_118_15 rfl rfl ?_
  exact am_e_iret dd_118_16 (by decide +kernel) (Or.inl rfl) k

-- 119: CacheLadderLaw.dirty(LCacheLadder;II[J)I
theorem dd_119_0 : decode (am_b 119) 0 = .ok (.aload_n 3, 1) := by decide +kernel
theorem dd_119_1 : decode (am_b 119) 1 = .ok (.iconst 0, 1) := by decide +kernel
theorem dd_119_2 : decode (am_b 119) 2 = .ok (.aload_n 0, 1) := by decide +kernel
theorem dd_119_3 : decode (am_b 119) 3 = .ok (.iload_n 1, 1) := by decide +kernel
theorem dd_119_4 : decode (am_b 119) 4 = .ok (.iload_n 2, 1) := by decide +kernel
theorem dd_119_5 : decode (am_b 119) 5 = .ok (.invokevirtual 59, 3) := by decide +kernel
theorem dd_119_8 : decode (am_b 119) 8 = .ok (.i2l, 1) := by decide +kernel
theorem dd_119_9 : decode (am_b 119) 9 = .ok (.lastore, 1) := by decide +kernel
theorem dd_119_10 : decode (am_b 119) 10 = .ok (.goto 7, 3) := by decide +kernel
theorem dd_119_13 : decode (am_b 119) 13 = .ok (.astore 4, 2) := by decide +kernel
theorem dd_119_15 : decode (am_b 119) 15 = .ok (.iconst 1, 1) := by decide +kernel
theorem dd_119_16 : decode (am_b 119) 16 = .ok (.ireturn, 1) := by decide +kernel
theorem dd_119_17 : decode (am_b 119) 17 = .ok (.iconst 0, 1) := by decide +kernel
theorem dd_119_18 : decode (am_b 119) 18 = .ok (.ireturn, 1) := by decide +kernel
theorem sg_119_0 {sh : am_Sh} {C : Nat → am_M → List am_V → am_O → Prop} {P : am_S ⊕ am_O → Prop} {M : am_M} {x1 : Int32} {x2 : Int32} {u4 : Option am_V} {M1 : am_M} {r1 : Int32} (hc1 : C 57 M [am_R (some (0, 0, 0)), am_I x1, am_I x2] (M1, Sum.inl (some (am_I r1)))) (k : P (Sum.inr ((am_up M1 (30, 0, 0) 0 r1), Sum.inl (some (am_I 0))))) : am_ev sh C 119 (0, [some (am_R (some (0, 0, 0))), some (am_I x1), some (am_I x2), some (am_R (some (30, 0, 0))), u4], [], M, 0) P := by
  refine am_e_aload_n dd_119_0 rfl rfl ?_
  refine am_e_iconst (v := 0) dd_119_1 rfl rfl ?_
  refine am_e_aload_n dd_119_2 rfl rfl ?_
  refine am_e_iload_n dd_119_3 rfl rfl ?_
  refine am_e_iload_n dd_119_4 rfl rfl ?_
  refine am_e_callV (c := 57) (k := 3) (as := [am_R (some (0, 0, 0)), am_I x1, am_I x2]) (S' := [am_I r1, am_I 0, am_R (some (30, 0, 0))]) (v := some (am_I r1)) (M' := M1) (n' := 2) dd_119_5 (by decide +kernel) ⟨Nat.le_of_ble_eq_true rfl, Nat.le_of_ble_eq_true rfl, by decide +kernel, (Or.inr (am_rcv_of rfl))⟩ rfl rfl (by decide +kernel) hc1 rfl ?_
  refine am_e_i2l dd_119_8 rfl ?_
  refine am_a_last dd_119_9 rfl rfl (by decide) (by decide) rfl ?_
  refine am_e_goto (pc' := 17) dd_119_10 rfl ?_
  refine am_e_iconst (v := 0) dd_119_17 rfl rfl ?_
  exact am_e_iret dd_119_18 (by decide +kernel) (Or.inl rfl) k

theorem sg_119_13 {sh : am_Sh} {C : Nat → am_M → List am_V → am_O → Prop} {P : am_S ⊕ am_O → Prop} {M : am_M} {x1 : Int32} {x2 : Int32} {u4 : Option am_V} {as0 : Nat}  (k : P (Sum.inr (M, Sum.inl (some (am_I 1))))) : am_ev sh C 119 (13, [some (am_R (some (0, 0, 0))), some (am_I x1), some (am_I x2), some (am_R (some (30, 0, 0))), u4], [am_X as0], M, 2) P := by
  refine am_e_astore dd_119_13 (Nat.le_of_ble_eq_true rfl) rfl rfl ?_
  refine am_e_iconst (v := 1) dd_119_15 rfl rfl ?_
  exact am_e_iret dd_119_16 (by decide +kernel) (Or.inl rfl) k

-- 120: CacheLadderLaw.next(LCacheLadder;II[J)I
theorem dd_120_0 : decode (am_b 120) 0 = .ok (.aload_n 3, 1) := by decide +kernel
theorem dd_120_1 : decode (am_b 120) 1 = .ok (.iconst 0, 1) := by decide +kernel
theorem dd_120_2 : decode (am_b 120) 2 = .ok (.aload_n 0, 1) := by decide +kernel
theorem dd_120_3 : decode (am_b 120) 3 = .ok (.iload_n 1, 1) := by decide +kernel
theorem dd_120_4 : decode (am_b 120) 4 = .ok (.iload_n 2, 1) := by decide +kernel
theorem dd_120_5 : decode (am_b 120) 5 = .ok (.invokevirtual 62, 3) := by decide +kernel
theorem dd_120_8 : decode (am_b 120) 8 = .ok (.i2l, 1) := by decide +kernel
theorem dd_120_9 : decode (am_b 120) 9 = .ok (.lastore, 1) := by decide +kernel
theorem dd_120_10 : decode (am_b 120) 10 = .ok (.goto 7, 3) := by decide +kernel
theorem dd_120_13 : decode (am_b 120) 13 = .ok (.astore 4, 2) := by decide +kernel
theorem dd_120_15 : decode (am_b 120) 15 = .ok (.iconst 1, 1) := by decide +kernel
theorem dd_120_16 : decode (am_b 120) 16 = .ok (.ireturn, 1) := by decide +kernel
theorem dd_120_17 : decode (am_b 120) 17 = .ok (.iconst 0, 1) := by decide +kernel
theorem dd_120_18 : decode (am_b 120) 18 = .ok (.ireturn, 1) := by decide +kernel
theorem sg_120_0 {sh : am_Sh} {C : Nat → am_M → List am_V → am_O → Prop} {P : am_S ⊕ am_O → Prop} {M : am_M} {x1 : Int32} {x2 : Int32} {u4 : Option am_V} {M1 : am_M} {r1 : Int32} (hc1 : C 58 M [am_R (some (0, 0, 0)), am_I x1, am_I x2] (M1, Sum.inl (some (am_I r1)))) (k : P (Sum.inr ((am_up M1 (30, 0, 0) 0 r1), Sum.inl (some (am_I 0))))) : am_ev sh C 120 (0, [some (am_R (some (0, 0, 0))), some (am_I x1), some (am_I x2), some (am_R (some (30, 0, 0))), u4], [], M, 0) P := by
  refine am_e_aload_n dd_120_0 rfl rfl ?_
  refine am_e_iconst (v := 0) dd_120_1 rfl rfl ?_
  refine am_e_aload_n dd_120_2 rfl rfl ?_
  refine am_e_iload_n dd_120_3 rfl rfl ?_
  refine am_e_iload_n dd_120_4 rfl rfl ?_
  refine am_e_callV (c := 58) (k := 3) (as := [am_R (some (0, 0, 0)), am_I x1, am_I x2]) (S' := [am_I r1, am_I 0, am_R (some (30, 0, 0))]) (v := some (am_I r1)) (M' := M1) (n' := 2) dd_120_5 (by decide +kernel) ⟨Nat.le_of_ble_eq_true rfl, Nat.le_of_ble_eq_true rfl, by decide +kernel, (Or.inr (am_rcv_of rfl))⟩ rfl rfl (by decide +kernel) hc1 rfl ?_
  refine am_e_i2l dd_120_8 rfl ?_
  refine am_a_last dd_120_9 rfl rfl (by decide) (by decide) rfl ?_
  refine am_e_goto (pc' := 17) dd_120_10 rfl ?_
  refine am_e_iconst (v := 0) dd_120_17 rfl rfl ?_
  exact am_e_iret dd_120_18 (by decide +kernel) (Or.inl rfl) k

theorem sg_120_13 {sh : am_Sh} {C : Nat → am_M → List am_V → am_O → Prop} {P : am_S ⊕ am_O → Prop} {M : am_M} {x1 : Int32} {x2 : Int32} {u4 : Option am_V} {as0 : Nat}  (k : P (Sum.inr (M, Sum.inl (some (am_I 1))))) : am_ev sh C 120 (13, [some (am_R (some (0, 0, 0))), some (am_I x1), some (am_I x2), some (am_R (some (30, 0, 0))), u4], [am_X as0], M, 2) P := by
  refine am_e_astore dd_120_13 (Nat.le_of_ble_eq_true rfl) rfl rfl ?_
  refine am_e_iconst (v := 1) dd_120_15 rfl rfl ?_
  exact am_e_iret dd_120_16 (by decide +kernel) (Or.inl rfl) k

