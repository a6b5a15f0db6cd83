-- 84: CacheLadderModel.bitsOf(I)I
theorem dd_84_0 : decode (am_b 84) 0 = .ok (.iload_n 0, 1) := by decide +kernel
theorem dd_84_1 : decode (am_b 84) 1 = .ok (.iconst 1, 1) := by decide +kernel
theorem dd_84_2 : decode (am_b 84) 2 = .ok (.iand, 1) := by decide +kernel
theorem dd_84_3 : decode (am_b 84) 3 = .ok (.iload_n 0, 1) := by decide +kernel
theorem dd_84_4 : decode (am_b 84) 4 = .ok (.iconst 1, 1) := by decide +kernel
theorem dd_84_5 : decode (am_b 84) 5 = .ok (.ishr, 1) := by decide +kernel
theorem dd_84_6 : decode (am_b 84) 6 = .ok (.iconst 1, 1) := by decide +kernel
theorem dd_84_7 : decode (am_b 84) 7 = .ok (.iand, 1) := by decide +kernel
theorem dd_84_8 : decode (am_b 84) 8 = .ok (.iadd, 1) := by decide +kernel
theorem dd_84_9 : decode (am_b 84) 9 = .ok (.iload_n 0, 1) := by decide +kernel
theorem dd_84_10 : decode (am_b 84) 10 = .ok (.iconst 2, 1) := by decide +kernel
theorem dd_84_11 : decode (am_b 84) 11 = .ok (.ishr, 1) := by decide +kernel
theorem dd_84_12 : decode (am_b 84) 12 = .ok (.iconst 1, 1) := by decide +kernel
theorem dd_84_13 : decode (am_b 84) 13 = .ok (.iand, 1) := by decide +kernel
theorem dd_84_14 : decode (am_b 84) 14 = .ok (.iadd, 1) := by decide +kernel
theorem dd_84_15 : decode (am_b 84) 15 = .ok (.iload_n 0, 1) := by decide +kernel
theorem dd_84_16 : decode (am_b 84) 16 = .ok (.iconst 3, 1) := by decide +kernel
theorem dd_84_17 : decode (am_b 84) 17 = .ok (.ishr, 1) := by decide +kernel
theorem dd_84_18 : decode (am_b 84) 18 = .ok (.iconst 1, 1) := by decide +kernel
theorem dd_84_19 : decode (am_b 84) 19 = .ok (.iand, 1) := by decide +kernel
theorem dd_84_20 : decode (am_b 84) 20 = .ok (.iadd, 1) := by decide +kernel
theorem dd_84_21 : decode (am_b 84) 21 = .ok (.ireturn, 1) := by decide +kernel
theorem sg_84_0 {sh : am_Sh} {C : Nat → am_M → List am_V → am_O → Prop} {P : am_S ⊕ am_O → Prop} {M : am_M} {x0 : Int32}  (k : P (Sum.inr (M, Sum.inl (some (am_I ((((x0 &&& 1) + ((x0 >>> ((1 : Int32) &&& 31)) &&& 1)) + ((x0 >>> ((2 : Int32) &&& 31)) &&& 1)) + ((x0 >>> ((3 : Int32) &&& 31)) &&& 1))))))) : am_ev sh C 84 (0, [some (am_I x0)], [], M, 0) P := by
  refine am_e_iload_n dd_84_0 rfl rfl ?_
  refine am_e_iconst (v := 1) dd_84_1 rfl rfl ?_
  refine am_e_iand dd_84_2 rfl ?_
  refine am_e_iload_n dd_84_3 rfl rfl ?_
  refine am_e_iconst (v := 1) dd_84_4 rfl rfl ?_
  refine am_e_ishr dd_84_5 rfl ?_
  refine am_e_iconst (v := 1) dd_84_6 rfl rfl ?_
  refine am_e_iand dd_84_7 rfl ?_
  refine am_e_iadd dd_84_8 rfl ?_
  refine am_e_iload_n dd_84_9 rfl rfl ?_
  refine am_e_iconst (v := 2) dd_84_10 rfl rfl ?_
  refine am_e_ishr dd_84_11 rfl ?_
  refine am_e_iconst (v := 1) dd_84_12 rfl rfl ?_
  refine am_e_iand dd_84_13 rfl ?_
  refine am_e_iadd dd_84_14 rfl ?_
  refine am_e_iload_n dd_84_15 rfl rfl ?_
  refine am_e_iconst (v := 3) dd_84_16 rfl rfl ?_
  refine am_e_ishr dd_84_17 rfl ?_
  refine am_e_iconst (v := 1) dd_84_18 rfl rfl ?_
  refine am_e_iand dd_84_19 rfl ?_
  refine am_e_iadd dd_84_20 rfl ?_
  exact am_e_iret dd_84_21 (by decide +kernel) (Or.inl rfl) k

-- 85: CacheLadderModel.stepLeave(I)V
theorem dd_85_0 : decode (am_b 85) 0 = .ok (.aload_n 0, 1) := by decide +kernel
theorem dd_85_1 : decode (am_b 85) 1 = .ok (.getfield 65, 3) := by decide +kernel
theorem dd_85_4 : decode (am_b 85) 4 = .ok (.iload_n 1, 1) := by decide +kernel
theorem dd_85_5 : decode (am_b 85) 5 = .ok (.iaload, 1) := by decide +kernel
theorem dd_85_6 : decode (am_b 85) 6 = .ok (.istore_n 2, 1) := by decide +kernel
theorem dd_85_7 : decode (am_b 85) 7 = .ok (.aload_n 0, 1) := by decide +kernel
theorem dd_85_8 : decode (am_b 85) 8 = .ok (.getfield 74, 3) := by decide +kernel
theorem dd_85_11 : decode (am_b 85) 11 = .ok (.iload_n 1, 1) := by decide +kernel
theorem dd_85_12 : decode (am_b 85) 12 = .ok (.iaload, 1) := by decide +kernel
theorem dd_85_13 : decode (am_b 85) 13 = .ok (.istore_n 3, 1) := by decide +kernel
theorem dd_85_14 : decode (am_b 85) 14 = .ok (.aload_n 0, 1) := by decide +kernel
theorem dd_85_15 : decode (am_b 85) 15 = .ok (.getfield 77, 3) := by decide +kernel
theorem dd_85_18 : decode (am_b 85) 18 = .ok (.iload_n 1, 1) := by decide +kernel
theorem dd_85_19 : decode (am_b 85) 19 = .ok (.iaload, 1) := by decide +kernel
theorem dd_85_20 : decode (am_b 85) 20 = .ok (.ifCond .ne 76, 3) := by decide +kernel
theorem dd_85_23 : decode (am_b 85) 23 = .ok (.aload_n 0, 1) := by decide +kernel
theorem dd_85_24 : decode (am_b 85) 24 = .ok (.getfield 77, 3) := by decide +kernel
theorem dd_85_27 : decode (am_b 85) 27 = .ok (.iload_n 1, 1) := by decide +kernel
theorem dd_85_28 : decode (am_b 85) 28 = .ok (.iconst 1, 1) := by decide +kernel
theorem dd_85_29 : decode (am_b 85) 29 = .ok (.iastore, 1) := by decide +kernel
theorem dd_85_30 : decode (am_b 85) 30 = .ok (.aload_n 0, 1) := by decide +kernel
theorem dd_85_31 : decode (am_b 85) 31 = .ok (.getfield 62, 3) := by decide +kernel
theorem dd_85_34 : decode (am_b 85) 34 = .ok (.iload_n 1, 1) := by decide +kernel
theorem dd_85_35 : decode (am_b 85) 35 = .ok (.iaload, 1) := by decide +kernel
theorem dd_85_36 : decode (am_b 85) 36 = .ok (.iconst 2, 1) := by decide +kernel
theorem dd_85_37 : decode (am_b 85) 37 = .ok (.if_icmp .ne 18, 3) := by decide +kernel
theorem dd_85_40 : decode (am_b 85) 40 = .ok (.aload_n 0, 1) := by decide +kernel
theorem dd_85_41 : decode (am_b 85) 41 = .ok (.getfield 22, 3) := by decide +kernel
theorem dd_85_44 : decode (am_b 85) 44 = .ok (.iload_n 2, 1) := by decide +kernel
theorem dd_85_45 : decode (am_b 85) 45 = .ok (.baload, 1) := by decide +kernel
theorem dd_85_46 : decode (am_b 85) 46 = .ok (.ifCond .eq 9, 3) := by decide +kernel
theorem dd_85_49 : decode (am_b 85) 49 = .ok (.aload_n 0, 1) := by decide +kernel
theorem dd_85_50 : decode (am_b 85) 50 = .ok (.iload_n 2, 1) := by decide +kernel
theorem dd_85_51 : decode (am_b 85) 51 = .ok (.iload_n 3, 1) := by decide +kernel
theorem dd_85_52 : decode (am_b 85) 52 = .ok (.invokevirtual 171, 3) := by decide +kernel
theorem dd_85_55 : decode (am_b 85) 55 = .ok (.aload_n 0, 1) := by decide +kernel
theorem dd_85_56 : decode (am_b 85) 56 = .ok (.getfield 35, 3) := by decide +kernel
theorem dd_85_59 : decode (am_b 85) 59 = .ok (.iload_n 3, 1) := by decide +kernel
theorem dd_85_60 : decode (am_b 85) 60 = .ok (.iaload, 1) := by decide +kernel
theorem dd_85_61 : decode (am_b 85) 61 = .ok (.istore 4, 2) := by decide +kernel
theorem dd_85_63 : decode (am_b 85) 63 = .ok (.aload_n 0, 1) := by decide +kernel
theorem dd_85_64 : decode (am_b 85) 64 = .ok (.getfield 35, 3) := by decide +kernel
theorem dd_85_67 : decode (am_b 85) 67 = .ok (.iload_n 3, 1) := by decide +kernel
theorem dd_85_68 : decode (am_b 85) 68 = .ok (.iconst 0, 1) := by decide +kernel
theorem dd_85_69 : decode (am_b 85) 69 = .ok (.iastore, 1) := by decide +kernel
theorem dd_85_70 : decode (am_b 85) 70 = .ok (.iload 4, 2) := by decide +kernel
theorem dd_85_72 : decode (am_b 85) 72 = .ok (.ifCond .eq 23, 3) := by decide +kernel
theorem dd_85_75 : decode (am_b 85) 75 = .ok (.aload_n 0, 1) := by decide +kernel
theorem dd_85_76 : decode (am_b 85) 76 = .ok (.iload_n 2, 1) := by decide +kernel
theorem dd_85_77 : decode (am_b 85) 77 = .ok (.aload_n 0, 1) := by decide +kernel
theorem dd_85_78 : decode (am_b 85) 78 = .ok (.getfield 32, 3) := by decide +kernel
theorem dd_85_81 : decode (am_b 85) 81 = .ok (.iload_n 3, 1) := by decide +kernel
theorem dd_85_82 : decode (am_b 85) 82 = .ok (.iaload, 1) := by decide +kernel
theorem dd_85_83 : decode (am_b 85) 83 = .ok (.iload 4, 2) := by decide +kernel
theorem dd_85_85 : decode (am_b 85) 85 = .ok (.aload_n 0, 1) := by decide +kernel
theorem dd_85_86 : decode (am_b 85) 86 = .ok (.getfield 50, 3) := by decide +kernel
theorem dd_85_89 : decode (am_b 85) 89 = .ok (.iconst 4, 1) := by decide +kernel
theorem dd_85_90 : decode (am_b 85) 90 = .ok (.iload_n 3, 1) := by decide +kernel
theorem dd_85_91 : decode (am_b 85) 91 = .ok (.imul, 1) := by decide +kernel
theorem dd_85_92 : decode (am_b 85) 92 = .ok (.invokevirtual 167, 3) := by decide +kernel
theorem dd_85_95 : decode (am_b 85) 95 = .ok (.return_, 1) := by decide +kernel
theorem dd_85_96 : decode (am_b 85) 96 = .ok (.aload_n 0, 1) := by decide +kernel
theorem dd_85_97 : decode (am_b 85) 97 = .ok (.getfield 32, 3) := by decide +kernel
theorem dd_85_100 : decode (am_b 85) 100 = .ok (.iload_n 3, 1) := by decide +kernel
theorem dd_85_101 : decode (am_b 85) 101 = .ok (.aload_n 0, 1) := by decide +kernel
theorem dd_85_102 : decode (am_b 85) 102 = .ok (.getfield 62, 3) := by decide +kernel
theorem dd_85_105 : decode (am_b 85) 105 = .ok (.iload_n 1, 1) := by decide +kernel
theorem dd_85_106 : decode (am_b 85) 106 = .ok (.iaload, 1) := by decide +kernel
theorem dd_85_107 : decode (am_b 85) 107 = .ok (.iconst 2, 1) := by decide +kernel
theorem dd_85_108 : decode (am_b 85) 108 = .ok (.if_icmp .ne 7, 3) := by decide +kernel
theorem dd_85_111 : decode (am_b 85) 111 = .ok (.iconst (-1), 1) := by decide +kernel
theorem dd_85_112 : decode (am_b 85) 112 = .ok (.goto 9, 3) := by decide +kernel
theorem dd_85_115 : decode (am_b 85) 115 = .ok (.aload_n 0, 1) := by decide +kernel
theorem dd_85_116 : decode (am_b 85) 116 = .ok (.getfield 32, 3) := by decide +kernel
theorem dd_85_119 : decode (am_b 85) 119 = .ok (.iload_n 3, 1) := by decide +kernel
theorem dd_85_120 : decode (am_b 85) 120 = .ok (.iaload, 1) := by decide +kernel
theorem dd_85_121 : decode (am_b 85) 121 = .ok (.iastore, 1) := by decide +kernel
theorem dd_85_122 : decode (am_b 85) 122 = .ok (.aload_n 0, 1) := by decide +kernel
theorem dd_85_123 : decode (am_b 85) 123 = .ok (.dup, 1) := by decide +kernel
theorem dd_85_124 : decode (am_b 85) 124 = .ok (.getfield 102, 3) := by decide +kernel
theorem dd_85_127 : decode (am_b 85) 127 = .ok (.iconst 1, 1) := by decide +kernel
theorem dd_85_128 : decode (am_b 85) 128 = .ok (.isub, 1) := by decide +kernel
theorem dd_85_129 : decode (am_b 85) 129 = .ok (.putfield 102, 3) := by decide +kernel
theorem dd_85_132 : decode (am_b 85) 132 = .ok (.return_, 1) := by decide +kernel
theorem sg_85_0 {sh : am_Sh} {C : Nat → am_M → List am_V → am_O → Prop} {P : am_S ⊕ am_O → Prop} {M : am_M} {x1 : Int32} {u2 : Option am_V} {u3 : Option am_V} {u4 : Option am_V} {j1 : Nat} {j2 : Nat} {j3 : Nat} (hx_j1 : x1 = nI j1) (hl_j1 : j1 < 64) (hx_j2 : x1 = nI j2) (hl_j2 : j2 < 64) (hx_j3 : x1 = nI j3) (hl_j3 : j3 < 64) (k1 : ¬ (M (21, 29, 0) j3) = 0 → am_ev sh C 85 (96, [some (am_R (some (20, 0, 0))), some (am_I x1), some (am_I (M (21, 25, 0) j1)), some (am_I (M (21, 28, 0) j2)), u4], [], M, 0) P) (k2 : (M (21, 29, 0) j3) = 0 → am_ev sh C 85 (23, [some (am_R (some (20, 0, 0))), some (am_I x1), some (am_I (M (21, 25, 0) j1)), some (am_I (M (21, 28, 0) j2)), u4], [], M, 0) P) : am_ev sh C 85 (0, [some (am_R (some (20, 0, 0))), some (am_I x1), u2, u3, u4], [], M, 0) P := by
  refine am_e_aload_n dd_85_0 rfl rfl ?_
  refine am_e_gf (ci := 3) (j := 25) (v := am_R (some (21, 25, 0))) dd_85_1 (by decide +kernel) rfl rfl rfl ?_
  refine am_e_iload_n dd_85_4 rfl rfl ?_
  refine am_a_iald dd_85_5 rfl hx_j1 hl_j1 (by decide) rfl ?_
  refine am_e_istore_n dd_85_6 (Nat.le_of_ble_eq_true rfl) rfl rfl ?_
  refine am_e_aload_n dd_85_7 rfl rfl ?_
  refine am_e_gf (ci := 3) (j := 28) (v := am_R (some (21, 28, 0))) dd_85_8 (by decide +kernel) rfl rfl rfl ?_
  refine am_e_iload_n dd_85_11 rfl rfl ?_
  refine am_a_iald dd_85_12 rfl hx_j2 hl_j2 (by decide) rfl ?_
  refine am_e_istore_n dd_85_13 (Nat.le_of_ble_eq_true rfl) rfl rfl ?_
  refine am_e_aload_n dd_85_14 rfl rfl ?_
  refine am_e_gf (ci := 3) (j := 29) (v := am_R (some (21, 29, 0))) dd_85_15 (by decide +kernel) rfl rfl rfl ?_
  refine am_e_iload_n dd_85_18 rfl rfl ?_
  refine am_a_iald dd_85_19 rfl hx_j3 hl_j3 (by decide) rfl ?_
  exact am_a_if_ne (tgt := 96) (pc' := 23) dd_85_20 rfl rfl k1 k2

theorem sg_85_23 {sh : am_Sh} {C : Nat → am_M → List am_V → am_O → Prop} {P : am_S ⊕ am_O → Prop} {M : am_M} {x1 : Int32} {x2 : Int32} {x3 : Int32} {u4 : Option am_V} {j1 : Nat} {j2 : Nat} (hx_j1 : x1 = nI j1) (hl_j1 : j1 < 64) (hx_j2 : x1 = nI j2) (hl_j2 : j2 < 64) (k1 : ¬ ((am_up M (21, 29, 0) j1 1) (21, 24, 0) j2) = 2 → am_ev sh C 85 (55, [some (am_R (some (20, 0, 0))), some (am_I x1), some (am_I x2), some (am_I x3), u4], [], (am_up M (21, 29, 0) j1 1), 0) P) (k2 : ((am_up M (21, 29, 0) j1 1) (21, 24, 0) j2) = 2 → am_ev sh C 85 (40, [some (am_R (some (20, 0, 0))), some (am_I x1), some (am_I x2), some (am_I x3), u4], [], (am_up M (21, 29, 0) j1 1), 0) P) : am_ev sh C 85 (23, [some (am_R (some (20, 0, 0))), some (am_I x1), some (am_I x2), some (am_I x3), u4], [], M, 0) P := by
  refine am_e_aload_n dd_85_23 rfl rfl ?_
  refine am_e_gf (ci := 3) (j := 29) (v := am_R (some (21, 29, 0))) dd_85_24 (by decide +kernel) rfl rfl rfl ?_
  refine am_e_iload_n dd_85_27 rfl rfl ?_
  refine am_e_iconst (v := 1) dd_85_28 rfl rfl ?_
  refine am_a_iast dd_85_29 rfl hx_j1 hl_j1 (by decide) rfl ?_
  refine am_e_aload_n dd_85_30 rfl rfl ?_
  refine am_e_gf (ci := 3) (j := 24) (v := am_R (some (21, 24, 0))) dd_85_31 (by decide +kernel) rfl rfl rfl ?_
  refine am_e_iload_n dd_85_34 rfl rfl ?_
  refine am_a_iald dd_85_35 rfl hx_j2 hl_j2 (by decide) rfl ?_
  refine am_e_iconst (v := 2) dd_85_36 rfl rfl ?_
  exact am_a_icmp_ne (tgt := 55) (pc' := 40) dd_85_37 rfl rfl k1 k2

theorem sg_85_40 {sh : am_Sh} {C : Nat → am_M → List am_V → am_O → Prop} {P : am_S ⊕ am_O → Prop} {M : am_M} {x1 : Int32} {x2 : Int32} {x3 : Int32} {u4 : Option am_V} {j1 : Nat} (hx_j1 : x2 = nI j1) (hl_j1 : j1 < 4) (k1 : (M (21, 7, 0) j1) = 0 → am_ev sh C 85 (55, [some (am_R (some (20, 0, 0))), some (am_I x1), some (am_I x2), some (am_I x3), u4], [], M, 0) P) (k2 : ¬ (M (21, 7, 0) j1) = 0 → am_ev sh C 85 (49, [some (am_R (some (20, 0, 0))), some (am_I x1), some (am_I x2), some (am_I x3), u4], [], M, 0) P) : am_ev sh C 85 (40, [some (am_R (some (20, 0, 0))), some (am_I x1), some (am_I x2), some (am_I x3), u4], [], M, 0) P := by
  refine am_e_aload_n dd_85_40 rfl rfl ?_
  refine am_e_gf (ci := 3) (j := 7) (v := am_R (some (21, 7, 0))) dd_85_41 (by decide +kernel) rfl rfl rfl ?_
  refine am_e_iload_n dd_85_44 rfl rfl ?_
  refine am_a_zald dd_85_45 rfl hx_j1 hl_j1 (by decide) rfl ?_
  exact am_a_if_eq (tgt := 55) (pc' := 49) dd_85_46 rfl rfl k1 k2

theorem sg_85_49 {sh : am_Sh} {C : Nat → am_M → List am_V → am_O → Prop} {P : am_S ⊕ am_O → Prop} {M : am_M} {x1 : Int32} {x2 : Int32} {x3 : Int32} {u4 : Option am_V} {M1 : am_M} (hc1 : C 86 M [am_R (some (20, 0, 0)), am_I x2, am_I x3] (M1, Sum.inl none)) (k : am_ev sh C 85 (55, [some (am_R (some (20, 0, 0))), some (am_I x1), some (am_I x2), some (am_I x3), u4], [], M1, 0) P) : am_ev sh C 85 (49, [some (am_R (some (20, 0, 0))), some (am_I x1), some (am_I x2), some (am_I x3), u4], [], M, 0) P := by
  refine am_e_aload_n dd_85_49 rfl rfl ?_
  refine am_e_iload_n dd_85_50 rfl rfl ?_
  refine am_e_iload_n dd_85_51 rfl rfl ?_
  refine am_e_callV (c := 86) (k := 3) (as := [am_R (some (20, 0, 0)), am_I x2, am_I x3]) (S' := []) (v := none) (M' := M1) (n' := 0) dd_85_52 (by decide +kernel) ⟨Nat.le_of_ble_eq_true rfl, Nat.le_of_ble_eq_true rfl, by decide +kernel, (Or.inr (am_rcv_of rfl))⟩ rfl rfl (by decide +kernel) hc1 rfl ?_
  exact k

theorem sg_85_55 {sh : am_Sh} {C : Nat → am_M → List am_V → am_O → Prop} {P : am_S ⊕ am_O → Prop} {M : am_M} {x1 : Int32} {x2 : Int32} {x3 : Int32} {u4 : Option am_V} {j1 : Nat} (hx_j1 : x3 = nI j1) (hl_j1 : j1 < 256) (k1 : (M (21, 11, 0) j1) = 0 → am_ev sh C 85 (95, [some (am_R (some (20, 0, 0))), some (am_I x1), some (am_I x2), some (am_I x3), some (am_I (M (21, 11, 0) j1))], [], (am_up M (21, 11, 0) j1 0), 0) P) (k2 : ¬ (M (21, 11, 0) j1) = 0 → am_ev sh C 85 (75, [some (am_R (some (20, 0, 0))), some (am_I x1), some (am_I x2), some (am_I x3), some (am_I (M (21, 11, 0) j1))], [], (am_up M (21, 11, 0) j1 0), 0) P) : am_ev sh C 85 (55, [some (am_R (some (20, 0, 0))), some (am_I x1), some (am_I x2), some (am_I x3), u4], [], M, 0) P := by
  refine am_e_aload_n dd_85_55 rfl rfl ?_
  refine am_e_gf (ci := 3) (j := 11) (v := am_R (some (21, 11, 0))) dd_85_56 (by decide +kernel) rfl rfl rfl ?_
  refine am_e_iload_n dd_85_59 rfl rfl ?_
  refine am_a_iald dd_85_60 rfl hx_j1 hl_j1 (by decide) rfl ?_
  refine am_e_istore dd_85_61 (Nat.le_of_ble_eq_true rfl) rfl rfl ?_
  refine am_e_aload_n dd_85_63 rfl rfl ?_
  refine am_e_gf (ci := 3) (j := 11) (v := am_R (some (21, 11, 0))) dd_85_64 (by decide +kernel) rfl rfl rfl ?_
  refine am_e_iload_n dd_85_67 rfl rfl ?_
  refine am_e_iconst (v := 0) dd_85_68 rfl rfl ?_
  refine am_a_iast dd_85_69 rfl hx_j1 hl_j1 (by decide) rfl ?_
  refine am_e_iload dd_85_70 rfl rfl ?_
  exact am_a_if_eq (tgt := 95) (pc' := 75) dd_85_72 rfl rfl k1 k2

theorem sg_85_75 {sh : am_Sh} {C : Nat → am_M → List am_V → am_O → Prop} {P : am_S ⊕ am_O → Prop} {M : am_M} {x1 : Int32} {x2 : Int32} {x3 : Int32} {x4 : Int32} {j1 : Nat} {M1 : am_M} (hx_j1 : x3 = nI j1) (hl_j1 : j1 < 256) (hc1 : C 83 M [am_R (some (20, 0, 0)), am_I x2, am_I (M (21, 10, 0) j1), am_I x4, am_R (some (21, 16, 0)), am_I (4 * x3)] (M1, Sum.inl none)) (k : am_ev sh C 85 (95, [some (am_R (some (20, 0, 0))), some (am_I x1), some (am_I x2), some (am_I x3), some (am_I x4)], [], M1, 0) P) : am_ev sh C 85 (75, [some (am_R (some (20, 0, 0))), some (am_I x1), some (am_I x2), some (am_I x3), some (am_I x4)], [], M, 0) P := by
  refine am_e_aload_n dd_85_75 rfl rfl ?_
  refine am_e_iload_n dd_85_76 rfl rfl ?_
  refine am_e_aload_n dd_85_77 rfl rfl ?_
  refine am_e_gf (ci := 3) (j := 10) (v := am_R (some (21, 10, 0))) dd_85_78 (by decide +kernel) rfl rfl rfl ?_
  refine am_e_iload_n dd_85_81 rfl rfl ?_
  refine am_a_iald dd_85_82 rfl hx_j1 hl_j1 (by decide) rfl ?_
  refine am_e_iload dd_85_83 rfl rfl ?_
  refine am_e_aload_n dd_85_85 rfl rfl ?_
  refine am_e_gf (ci := 3) (j := 16) (v := am_R (some (21, 16, 0))) dd_85_86 (by decide +kernel) rfl rfl rfl ?_
  refine am_e_iconst (v := 4) dd_85_89 rfl rfl ?_
  refine am_e_iload_n dd_85_90 rfl rfl ?_
  refine am_e_imul dd_85_91 rfl ?_
  refine am_e_callV (c := 83) (k := 6) (as := [am_R (some (20, 0, 0)), am_I x2, am_I (M (21, 10, 0) j1), am_I x4, am_R (some (21, 16, 0)), am_I (4 * x3)]) (S' := []) (v := none) (M' := M1) (n' := 0) dd_85_92 (by decide +kernel) ⟨Nat.le_of_ble_eq_true rfl, Nat.le_of_ble_eq_true rfl, by decide +kernel, (Or.inr (am_rcv_of rfl))⟩ rfl rfl (by decide +kernel) hc1 rfl ?_
  exact k

theorem sg_85_95 {sh : am_Sh} {C : Nat → am_M → List am_V → am_O → Prop} {P : am_S ⊕ am_O → Prop} {M : am_M} {x1 : Int32} {x2 : Int32} {x3 : Int32} {x4 : Int32}  (k : P (Sum.inr (M, Sum.inl none))) : am_ev sh C 85 (95, [some (am_R (some (20, 0, 0))), some (am_I x1), some (am_I x2), some (am_I x3), some (am_I x4)], [], M, 0) P := by
  exact am_e_vret dd_85_95 (by decide +kernel) rfl k

theorem sg_85_96 {sh : am_Sh} {C : Nat → am_M → List am_V → am_O → Prop} {P : am_S ⊕ am_O → Prop} {M : am_M} {x1 : Int32} {x2 : Int32} {x3 : Int32} {u4 : Option am_V} {j1 : Nat} (hx_j1 : x1 = nI j1) (hl_j1 : j1 < 64) (k1 : ¬ (M (21, 24, 0) j1) = 2 → am_ev sh C 85 (115, [some (am_R (some (20, 0, 0))), some (am_I x1), some (am_I x2), some (am_I x3), u4], [am_I x3, am_R (some (21, 10, 0))], M, 0) P) (k2 : (M (21, 24, 0) j1) = 2 → am_ev sh C 85 (111, [some (am_R (some (20, 0, 0))), some (am_I x1), some (am_I x2), some (am_I x3), u4], [am_I x3, am_R (some (21, 10, 0))], M, 0) P) : am_ev sh C 85 (96, [some (am_R (some (20, 0, 0))), some (am_I x1), some (am_I x2), some (am_I x3), u4], [], M, 0) P := by
  refine am_e_aload_n dd_85_96 rfl rfl ?_
  refine am_e_gf (ci := 3) (j := 10) (v := am_R (some (21, 10, 0))) dd_85_97 (by decide +kernel) rfl rfl rfl ?_
  refine am_e_iload_n dd_85_100 rfl rfl ?_
  refine am_e_aload_n dd_85_101 rfl rfl ?_
  refine am_e_gf (ci := 3) (j := 24) (v := am_R (some (21, 24, 0))) dd_85_102 (by decide +kernel) rfl rfl rfl ?_
  refine am_e_iload_n dd_85_105 rfl rfl ?_
  refine am_a_iald dd_85_106 rfl hx_j1 hl_j1 (by decide) rfl ?_
  refine am_e_iconst (v := 2) dd_85_107 rfl rfl ?_
  exact am_a_icmp_ne (tgt := 115) (pc' := 111) dd_85_108 rfl rfl k1 k2

theorem sg_85_111 {sh : am_Sh} {C : Nat → am_M → List am_V → am_O → Prop} {P : am_S ⊕ am_O → Prop} {M : am_M} {x1 : Int32} {x2 : Int32} {x3 : Int32} {u4 : Option am_V} {os0 : Option am_K} {xs1 : Int32}  (k : am_ev sh C 85 (121, [some (am_R (some (20, 0, 0))), some (am_I x1), some (am_I x2), some (am_I x3), u4], [am_I (-1), am_I xs1, am_R os0], M, 0) P) : am_ev sh C 85 (111, [some (am_R (some (20, 0, 0))), some (am_I x1), some (am_I x2), some (am_I x3), u4], [am_I xs1, am_R os0], M, 0) P := by
  refine am_e_iconst (v := (-1)) dd_85_111 rfl rfl ?_
  refine am_e_goto (pc' := 121) dd_85_112 rfl ?_
  exact k

theorem sg_85_115 {sh : am_Sh} {C : Nat → am_M → List am_V → am_O → Prop} {P : am_S ⊕ am_O → Prop} {M : am_M} {x1 : Int32} {x2 : Int32} {x3 : Int32} {u4 : Option am_V} {os0 : Option am_K} {xs1 : Int32} {j1 : Nat} (hx_j1 : x3 = nI j1) (hl_j1 : j1 < 256) (k : am_ev sh C 85 (121, [some (am_R (some (20, 0, 0))), some (am_I x1), some (am_I x2), some (am_I x3), u4], [am_I (M (21, 10, 0) j1), am_I xs1, am_R os0], M, 0) P) : am_ev sh C 85 (115, [some (am_R (some (20, 0, 0))), some (am_I x1), some (am_I x2), some (am_I x3), u4], [am_I xs1, am_R os0], M, 0) P := by
  refine am_e_aload_n dd_85_115 rfl rfl ?_
  refine am_e_gf (ci := 3) (j := 10) (v := am_R (some (21, 10, 0))) dd_85_116 (by decide +kernel) rfl rfl rfl ?_
  refine am_e_iload_n dd_85_119 rfl rfl ?_
  refine am_a_iald dd_85_120 rfl hx_j1 hl_j1 (by decide) rfl ?_
  exact k

theorem sg_85_121 {sh : am_Sh} {C : Nat → am_M → List am_V → am_O → Prop} {P : am_S ⊕ am_O → Prop} {M : am_M} {x1 : Int32} {x2 : Int32} {x3 : Int32} {u4 : Option am_V} {ks0 : am_K} {Ns0 : Nat} {xs1 : Int32} {xs2 : Int32} {j1 : Nat} (hz_ks0 : Ns0 < 2147483648) (hx_j1 : xs1 = nI j1) (hl_j1 : j1 < Ns0) (hk_ks0 : am_ct sh ks0 = some (Sum.inr (0, Ns0))) (k : P (Sum.inr ((am_up (am_up M ks0 j1 xs2) (20, 0, 0) 23 (((am_up M ks0 j1 xs2) (20, 0, 0) 23) - 1)), Sum.inl none))) : am_ev sh C 85 (121, [some (am_R (some (20, 0, 0))), some (am_I x1), some (am_I x2), some (am_I x3), u4], [am_I xs2, am_I xs1, am_R (some ks0)], M, 0) P := by
  refine am_a_iast dd_85_121 hk_ks0 hx_j1 hl_j1 hz_ks0 rfl ?_
  refine am_e_aload_n dd_85_122 rfl rfl ?_
  refine am_e_dup dd_85_123 rfl rfl ?_
  refine am_e_gf (ci := 3) (j := 23) (v := am_I ((am_up M ks0 j1 xs2) (20, 0, 0) 23)) dd_85_124 (by decide +kernel) rfl rfl rfl ?_
  refine am_e_iconst (v := 1) dd_85_127 rfl rfl ?_
  refine am_e_isub dd_85_128 rfl ?_
  refine am_e_pf (ci := 3) (j := 23) dd_85_129 (by decide +kernel) rfl rfl (Or.inl rfl) rfl ?_
  exact am_e_vret dd_85_132 (by decide +kernel) rfl k

-- 86: CacheLadderModel.gather(II)V
theorem dd_86_0 : decode (am_b 86) 0 = .ok (.iload_n 1, 1) := by decide +kernel
theorem dd_86_1 : decode (am_b 86) 1 = .ok (.iconst 1, 1) := by decide +kernel
theorem dd_86_2 : decode (am_b 86) 2 = .ok (.isub, 1) := by decide +kernel
theorem dd_86_3 : decode (am_b 86) 3 = .ok (.istore_n 3, 1) := by decide +kernel
theorem dd_86_4 : decode (am_b 86) 4 = .ok (.iload_n 3, 1) := by decide +kernel
theorem dd_86_5 : decode (am_b 86) 5 = .ok (.ifCond .lt 139, 3) := by decide +kernel
theorem dd_86_8 : decode (am_b 86) 8 = .ok (.aload_n 0, 1) := by decide +kernel
theorem dd_86_9 : decode (am_b 86) 9 = .ok (.iload_n 3, 1) := by decide +kernel
theorem dd_86_10 : decode (am_b 86) 10 = .ok (.aload_n 0, 1) := by decide +kernel
theorem dd_86_11 : decode (am_b 86) 11 = .ok (.getfield 32, 3) := by decide +kernel
theorem dd_86_14 : decode (am_b 86) 14 = .ok (.iload_n 2, 1) := by decide +kernel
theorem dd_86_15 : decode (am_b 86) 15 = .ok (.iaload, 1) := by decide +kernel
theorem dd_86_16 : decode (am_b 86) 16 = .ok (.invokevirtual 137, 3) := by decide +kernel
theorem dd_86_19 : decode (am_b 86) 19 = .ok (.istore 4, 2) := by decide +kernel
theorem dd_86_21 : decode (am_b 86) 21 = .ok (.iload 4, 2) := by decide +kernel
theorem dd_86_23 : decode (am_b 86) 23 = .ok (.ifCond .lt 115, 3) := by decide +kernel
theorem dd_86_26 : decode (am_b 86) 26 = .ok (.iconst 0, 1) := by decide +kernel
theorem dd_86_27 : decode (am_b 86) 27 = .ok (.istore 5, 2) := by decide +kernel
theorem dd_86_29 : decode (am_b 86) 29 = .ok (.iload 5, 2) := by decide +kernel
theorem dd_86_31 : decode (am_b 86) 31 = .ok (.iconst 4, 1) := by decide +kernel
theorem dd_86_32 : decode (am_b 86) 32 = .ok (.if_icmp .ge 74, 3) := by decide +kernel
theorem dd_86_35 : decode (am_b 86) 35 = .ok (.aload_n 0, 1) := by decide +kernel
theorem dd_86_36 : decode (am_b 86) 36 = .ok (.getfield 35, 3) := by decide +kernel
theorem dd_86_39 : decode (am_b 86) 39 = .ok (.iload 4, 2) := by decide +kernel
theorem dd_86_41 : decode (am_b 86) 41 = .ok (.iaload, 1) := by decide +kernel
theorem dd_86_42 : decode (am_b 86) 42 = .ok (.iload 5, 2) := by decide +kernel
theorem dd_86_44 : decode (am_b 86) 44 = .ok (.ishr, 1) := by decide +kernel
theorem dd_86_45 : decode (am_b 86) 45 = .ok (.iconst 1, 1) := by decide +kernel
theorem dd_86_46 : decode (am_b 86) 46 = .ok (.iand, 1) := by decide +kernel
theorem dd_86_47 : decode (am_b 86) 47 = .ok (.iconst 1, 1) := by decide +kernel
theorem dd_86_48 : decode (am_b 86) 48 = .ok (.if_icmp .ne 7, 3) := by decide +kernel
theorem dd_86_51 : decode (am_b 86) 51 = .ok (.iconst 1, 1) := by decide +kernel
theorem dd_86_52 : decode (am_b 86) 52 = .ok (.goto 4, 3) := by decide +kernel
theorem dd_86_55 : decode (am_b 86) 55 = .ok (.iconst 0, 1) := by decide +kernel
theorem dd_86_56 : decode (am_b 86) 56 = .ok (.istore 6, 2) := by decide +kernel
theorem dd_86_58 : decode (am_b 86) 58 = .ok (.aload_n 0, 1) := by decide +kernel
theorem dd_86_59 : decode (am_b 86) 59 = .ok (.getfield 50, 3) := by decide +kernel
theorem dd_86_62 : decode (am_b 86) 62 = .ok (.iconst 4, 1) := by decide +kernel
theorem dd_86_63 : decode (am_b 86) 63 = .ok (.iload_n 2, 1) := by decide +kernel
theorem dd_86_64 : decode (am_b 86) 64 = .ok (.imul, 1) := by decide +kernel
theorem dd_86_65 : decode (am_b 86) 65 = .ok (.iload 5, 2) := by decide +kernel
theorem dd_86_67 : decode (am_b 86) 67 = .ok (.iadd, 1) := by decide +kernel
theorem dd_86_68 : decode (am_b 86) 68 = .ok (.iload 6, 2) := by decide +kernel
theorem dd_86_70 : decode (am_b 86) 70 = .ok (.ifCond .eq 18, 3) := by decide +kernel
theorem dd_86_73 : decode (am_b 86) 73 = .ok (.aload_n 0, 1) := by decide +kernel
theorem dd_86_74 : decode (am_b 86) 74 = .ok (.getfield 50, 3) := by decide +kernel
theorem dd_86_77 : decode (am_b 86) 77 = .ok (.iconst 4, 1) := by decide +kernel
theorem dd_86_78 : decode (am_b 86) 78 = .ok (.iload 4, 2) := by decide +kernel
theorem dd_86_80 : decode (am_b 86) 80 = .ok (.imul, 1) := by decide +kernel
theorem dd_86_81 : decode (am_b 86) 81 = .ok (.iload 5, 2) := by decide +kernel
theorem dd_86_83 : decode (am_b 86) 83 = .ok (.iadd, 1) := by decide +kernel
theorem dd_86_84 : decode (am_b 86) 84 = .ok (.iaload, 1) := by decide +kernel
theorem dd_86_85 : decode (am_b 86) 85 = .ok (.goto 14, 3) := by decide +kernel
theorem dd_86_88 : decode (am_b 86) 88 = .ok (.aload_n 0, 1) := by decide +kernel
theorem dd_86_89 : decode (am_b 86) 89 = .ok (.getfield 50, 3) := by decide +kernel
theorem dd_86_92 : decode (am_b 86) 92 = .ok (.iconst 4, 1) := by decide +kernel
theorem dd_86_93 : decode (am_b 86) 93 = .ok (.iload_n 2, 1) := by decide +kernel
theorem dd_86_94 : decode (am_b 86) 94 = .ok (.imul, 1) := by decide +kernel
theorem dd_86_95 : decode (am_b 86) 95 = .ok (.iload 5, 2) := by decide +kernel
theorem dd_86_97 : decode (am_b 86) 97 = .ok (.iadd, 1) := by decide +kernel
theorem dd_86_98 : decode (am_b 86) 98 = .ok (.iaload, 1) := by decide +kernel
theorem dd_86_99 : decode (am_b 86) 99 = .ok (.iastore, 1) := by decide +kernel
theorem dd_86_100 : decode (am_b 86) 100 = .ok (.iinc 5 1, 3) := by decide +kernel
theorem dd_86_103 : decode (am_b 86) 103 = .ok (.goto (-74), 3) := by decide +kernel
theorem dd_86_106 : decode (am_b 86) 106 = .ok (.aload_n 0, 1) := by decide +kernel
theorem dd_86_107 : decode (am_b 86) 107 = .ok (.getfield 35, 3) := by decide +kernel
theorem dd_86_110 : decode (am_b 86) 110 = .ok (.iload_n 2, 1) := by decide +kernel
theorem dd_86_111 : decode (am_b 86) 111 = .ok (.dup2, 1) := by decide +kernel
theorem dd_86_112 : decode (am_b 86) 112 = .ok (.iaload, 1) := by decide +kernel
theorem dd_86_113 : decode (am_b 86) 113 = .ok (.aload_n 0, 1) := by decide +kernel
theorem dd_86_114 : decode (am_b 86) 114 = .ok (.getfield 35, 3) := by decide +kernel
theorem dd_86_117 : decode (am_b 86) 117 = .ok (.iload 4, 2) := by decide +kernel
theorem dd_86_119 : decode (am_b 86) 119 = .ok (.iaload, 1) := by decide +kernel
theorem dd_86_120 : decode (am_b 86) 120 = .ok (.ior, 1) := by decide +kernel
theorem dd_86_121 : decode (am_b 86) 121 = .ok (.iastore, 1) := by decide +kernel
theorem dd_86_122 : decode (am_b 86) 122 = .ok (.aload_n 0, 1) := by decide +kernel
theorem dd_86_123 : decode (am_b 86) 123 = .ok (.getfield 35, 3) := by decide +kernel
theorem dd_86_126 : decode (am_b 86) 126 = .ok (.iload 4, 2) := by decide +kernel
theorem dd_86_128 : decode (am_b 86) 128 = .ok (.iconst 0, 1) := by decide +kernel
theorem dd_86_129 : decode (am_b 86) 129 = .ok (.iastore, 1) := by decide +kernel
theorem dd_86_130 : decode (am_b 86) 130 = .ok (.aload_n 0, 1) := by decide +kernel
theorem dd_86_131 : decode (am_b 86) 131 = .ok (.getfield 32, 3) := by decide +kernel
theorem dd_86_134 : decode (am_b 86) 134 = .ok (.iload 4, 2) := by decide +kernel
theorem dd_86_136 : decode (am_b 86) 136 = .ok (.iconst (-1), 1) := by decide +kernel
theorem dd_86_137 : decode (am_b 86) 137 = .ok (.iastore, 1) := by decide +kernel
theorem dd_86_138 : decode (am_b 86) 138 = .ok (.iinc 3 (-1), 3) := by decide +kernel
theorem dd_86_141 : decode (am_b 86) 141 = .ok (.goto (-137), 3) := by decide +kernel
theorem dd_86_144 : decode (am_b 86) 144 = .ok (.return_, 1) := by decide +kernel
theorem sg_86_0 {sh : am_Sh} {C : Nat → am_M → List am_V → am_O → Prop} {P : am_S ⊕ am_O → Prop} {M : am_M} {x1 : Int32} {x2 : Int32} {u3 : Option am_V} {u4 : Option am_V} {u5 : Option am_V} {u6 : Option am_V}  (k : am_ev sh C 86 (4, [some (am_R (some (20, 0, 0))), some (am_I x1), some (am_I x2), some (am_I (x1 - 1)), u4, u5, u6], [], M, 0) P) : am_ev sh C 86 (0, [some (am_R (some (20, 0, 0))), some (am_I x1), some (am_I x2), u3, u4, u5, u6], [], M, 0) P := by
  refine am_e_iload_n dd_86_0 rfl rfl ?_
  refine am_e_iconst (v := 1) dd_86_1 rfl rfl ?_
  refine am_e_isub dd_86_2 rfl ?_
  refine am_e_istore_n dd_86_3 (Nat.le_of_ble_eq_true rfl) rfl rfl ?_
  exact k

theorem sg_86_4 {sh : am_Sh} {C : Nat → am_M → List am_V → am_O → Prop} {P : am_S ⊕ am_O → Prop} {M : am_M} {x1 : Int32} {x2 : Int32} {x3 : Int32} {u4 : Option am_V} {u5 : Option am_V} {u6 : Option am_V}  (k1 : x3 < 0 → am_ev sh C 86 (144, [some (am_R (some (20, 0, 0))), some (am_I x1), some (am_I x2), some (am_I x3), u4, u5, u6], [], M, 0) P) (k2 : ¬ x3 < 0 → am_ev sh C 86 (8, [some (am_R (some (20, 0, 0))), some (am_I x1), some (am_I x2), some (am_I x3), u4, u5, u6], [], M, 0) P) : am_ev sh C 86 (4, [some (am_R (some (20, 0, 0))), some (am_I x1), some (am_I x2), some (am_I x3), u4, u5, u6], [], M, 0) P := by
  refine am_e_iload_n dd_86_4 rfl rfl ?_
  exact am_a_if_lt (tgt := 144) (pc' := 8) dd_86_5 rfl rfl k1 k2

theorem sg_86_8 {sh : am_Sh} {C : Nat → am_M → List am_V → am_O → Prop} {P : am_S ⊕ am_O → Prop} {M : am_M} {x1 : Int32} {x2 : Int32} {x3 : Int32} {u4 : Option am_V} {u5 : Option am_V} {u6 : Option am_V} {j1 : Nat} {M1 : am_M} {r1 : Int32} (hx_j1 : x2 = nI j1) (hl_j1 : j1 < 256) (hc1 : C 68 M [am_R (some (20, 0, 0)), am_I x3, am_I (M (21, 10, 0) j1)] (M1, Sum.inl (some (am_I r1)))) (k1 : r1 < 0 → am_ev sh C 86 (138, [some (am_R (some (20, 0, 0))), some (am_I x1), some (am_I x2), some (am_I x3), some (am_I r1), u5, u6], [], M1, 0) P) (k2 : ¬ r1 < 0 → am_ev sh C 86 (26, [some (am_R (some (20, 0, 0))), some (am_I x1), some (am_I x2), some (am_I x3), some (am_I r1), u5, u6], [], M1, 0) P) : am_ev sh C 86 (8, [some (am_R (some (20, 0, 0))), some (am_I x1), some (am_I x2), some (am_I x3), u4, u5, u6], [], M, 0) P := by
  refine am_e_aload_n dd_86_8 rfl rfl ?_
  refine am_e_iload_n dd_86_9 rfl rfl ?_
  refine am_e_aload_n dd_86_10 rfl rfl ?_
  refine am_e_gf (ci := 3) (j := 10) (v := am_R (some (21, 10, 0))) dd_86_11 (by decide +kernel) rfl rfl rfl ?_
  refine am_e_iload_n dd_86_14 rfl rfl ?_
  refine am_a_iald dd_86_15 rfl hx_j1 hl_j1 (by decide) rfl ?_
  refine am_e_callV (c := 68) (k := 3) (as := [am_R (some (20, 0, 0)), am_I x3, am_I (M (21, 10, 0) j1)]) (S' := [am_I r1]) (v := some (am_I r1)) (M' := M1) (n' := 0) dd_86_16 (by decide +kernel) ⟨Nat.le_of_ble_eq_true rfl, Nat.le_of_ble_eq_true rfl, by decide +kernel, (Or.inr (am_rcv_of rfl))⟩ rfl rfl (by decide +kernel) hc1 rfl ?_
  refine am_e_istore dd_86_19 (Nat.le_of_ble_eq_true rfl) rfl rfl ?_
  refine am_e_iload dd_86_21 rfl rfl ?_
  exact am_a_if_lt (tgt := 138) (pc' := 26) dd_86_23 rfl rfl k1 k2

theorem sg_86_26 {sh : am_Sh} {C : Nat → am_M → List am_V → am_O → Prop} {P : am_S ⊕ am_O → Prop} {M : am_M} {x1 : Int32} {x2 : Int32} {x3 : Int32} {x4 : Int32} {u5 : Option am_V} {u6 : Option am_V}  (k : am_ev sh C 86 (29, [some (am_R (some (20, 0, 0))), some (am_I x1), some (am_I x2), some (am_I x3), some (am_I x4), some (am_I 0), u6], [], M, 0) P) : am_ev sh C 86 (26, [some (am_R (some (20, 0, 0))), some (am_I x1), some (am_I x2), some (am_I x3), some (am_I x4), u5, u6], [], M, 0) P := by
  refine am_e_iconst (v := 0) dd_86_26 rfl rfl ?_
  refine am_e_istore dd_86_27 (Nat.le_of_ble_eq_true rfl) rfl rfl ?_
  exact k

theorem sg_86_29 {sh : am_Sh} {C : Nat → am_M → List am_V → am_O → Prop} {P : am_S ⊕ am_O → Prop} {M : am_M} {x1 : Int32} {x2 : Int32} {x3 : Int32} {x4 : Int32} {x5 : Int32} {u6 : Option am_V}  (k1 : 4 ≤ x5 → am_ev sh C 86 (106, [some (am_R (some (20, 0, 0))), some (am_I x1), some (am_I x2), some (am_I x3), some (am_I x4), some (am_I x5), u6], [], M, 0) P) (k2 : ¬ 4 ≤ x5 → am_ev sh C 86 (35, [some (am_R (some (20, 0, 0))), some (am_I x1), some (am_I x2), some (am_I x3), some (am_I x4), some (am_I x5), u6], [], M, 0) P) : am_ev sh C 86 (29, [some (am_R (some (20, 0, 0))), some (am_I x1), some (am_I x2), some (am_I x3), some (am_I x4), some (am_I x5), u6], [], M, 0) P := by
  refine am_e_iload dd_86_29 rfl rfl ?_
  refine am_e_iconst (v := 4) dd_86_31 rfl rfl ?_
  exact am_a_icmp_ge (tgt := 106) (pc' := 35) dd_86_32 rfl rfl k1 k2

theorem sg_86_35 {sh : am_Sh} {C : Nat → am_M → List am_V → am_O → Prop} {P : am_S ⊕ am_O → Prop} {M : am_M} {x1 : Int32} {x2 : Int32} {x3 : Int32} {x4 : Int32} {x5 : Int32} {u6 : Option am_V} {j1 : Nat} (hx_j1 : x4 = nI j1) (hl_j1 : j1 < 256) (k1 : ¬ (((M (21, 11, 0) j1) >>> (x5 &&& 31)) &&& 1) = 1 → am_ev sh C 86 (55, [some (am_R (some (20, 0, 0))), some (am_I x1), some (am_I x2), some (am_I x3), some (am_I x4), some (am_I x5), u6], [], M, 0) P) (k2 : (((M (21, 11, 0) j1) >>> (x5 &&& 31)) &&& 1) = 1 → am_ev sh C 86 (51, [some (am_R (some (20, 0, 0))), some (am_I x1), some (am_I x2), some (am_I x3), some (am_I x4), some (am_I x5), u6], [], M, 0) P) : am_ev sh C 86 (35, [some (am_R (some (20, 0, 0))), some (am_I x1), some (am_I x2), some (am_I x3), some (am_I x4), some (am_I x5), u6], [], M, 0) P := by
  refine am_e_aload_n dd_86_35 rfl rfl ?_
  refine am_e_gf (ci := 3) (j := 11) (v := am_R (some (21, 11, 0))) dd_86_36 (by decide +kernel) rfl rfl rfl ?_
  refine am_e_iload dd_86_39 rfl rfl ?_
  refine am_a_iald dd_86_41 rfl hx_j1 hl_j1 (by decide) rfl ?_
  refine am_e_iload dd_86_42 rfl rfl ?_
  refine am_e_ishr dd_86_44 rfl ?_
  refine am_e_iconst (v := 1) dd_86_45 rfl rfl ?_
  refine am_e_iand dd_86_46 rfl ?_
  refine am_e_iconst (v := 1) dd_86_47 rfl rfl ?_
  exact am_a_icmp_ne (tgt := 55) (pc' := 51) dd_86_48 rfl rfl k1 k2

theorem sg_86_51 {sh : am_Sh} {C : Nat → am_M → List am_V → am_O → Prop} {P : am_S ⊕ am_O → Prop} {M : am_M} {x1 : Int32} {x2 : Int32} {x3 : Int32} {x4 : Int32} {x5 : Int32} {u6 : Option am_V}  (k : am_ev sh C 86 (56, [some (am_R (some (20, 0, 0))), some (am_I x1), some (am_I x2), some (am_I x3), some (am_I x4), some (am_I x5), u6], [am_I 1], M, 0) P) : am_ev sh C 86 (51, [some (am_R (some (20, 0, 0))), some (am_I x1), some (am_I x2), some (am_I x3), some (am_I x4), some (am_I x5), u6], [], M, 0) P := by
  refine am_e_iconst (v := 1) dd_86_51 rfl rfl ?_
  refine am_e_goto (pc' := 56) dd_86_52 rfl ?_
  exact k

theorem sg_86_55 {sh : am_Sh} {C : Nat → am_M → List am_V → am_O → Prop} {P : am_S ⊕ am_O → Prop} {M : am_M} {x1 : Int32} {x2 : Int32} {x3 : Int32} {x4 : Int32} {x5 : Int32} {u6 : Option am_V}  (k : am_ev sh C 86 (56, [some (am_R (some (20, 0, 0))), some (am_I x1), some (am_I x2), some (am_I x3), some (am_I x4), some (am_I x5), u6], [am_I 0], M, 0) P) : am_ev sh C 86 (55, [some (am_R (some (20, 0, 0))), some (am_I x1), some (am_I x2), some (am_I x3), some (am_I x4), some (am_I x5), u6], [], M, 0) P := by
  refine am_e_iconst (v := 0) dd_86_55 rfl rfl ?_
  exact k

theorem sg_86_56 {sh : am_Sh} {C : Nat → am_M → List am_V → am_O → Prop} {P : am_S ⊕ am_O → Prop} {M : am_M} {x1 : Int32} {x2 : Int32} {x3 : Int32} {x4 : Int32} {x5 : Int32} {u6 : Option am_V} {xs0 : Int32}  (k1 : xs0 = 0 → am_ev sh C 86 (88, [some (am_R (some (20, 0, 0))), some (am_I x1), some (am_I x2), some (am_I x3), some (am_I x4), some (am_I x5), some (am_I xs0)], [am_I ((4 * x2) + x5), am_R (some (21, 16, 0))], M, 0) P) (k2 : ¬ xs0 = 0 → am_ev sh C 86 (73, [some (am_R (some (20, 0, 0))), some (am_I x1), some (am_I x2), some (am_I x3), some (am_I x4), some (am_I x5), some (am_I xs0)], [am_I ((4 * x2) + x5), am_R (some (21, 16, 0))], M, 0) P) : am_ev sh C 86 (56, [some (am_R (some (20, 0, 0))), some (am_I x1), some (am_I x2), some (am_I x3), some (am_I x4), some (am_I x5), u6], [am_I xs0], M, 0) P := by
  refine am_e_istore dd_86_56 (Nat.le_of_ble_eq_true rfl) rfl rfl ?_
  refine am_e_aload_n dd_86_58 rfl rfl ?_
  refine am_e_gf (ci := 3) (j := 16) (v := am_R (some (21, 16, 0))) dd_86_59 (by decide +kernel) rfl rfl rfl ?_
  refine am_e_iconst (v := 4) dd_86_62 rfl rfl ?_
  refine am_e_iload_n dd_86_63 rfl rfl ?_
  refine am_e_imul dd_86_64 rfl ?_
  refine am_e_iload dd_86_65 rfl rfl ?_
  refine am_e_iadd dd_86_67 rfl ?_
  refine am_e_iload dd_86_68 rfl rfl ?_
  exact am_a_if_eq (tgt := 88) (pc' := 73) dd_86_70 rfl rfl k1 k2

theorem sg_86_73 {sh : am_Sh} {C : Nat → am_M → List am_V → am_O → Prop} {P : am_S ⊕ am_O → Prop} {M : am_M} {x1 : Int32} {x2 : Int32} {x3 : Int32} {x4 : Int32} {x5 : Int32} {x6 : Int32} {os0 : Option am_K} {xs1 : Int32} {j1 : Nat} (hx_j1 : (4 * x4) + x5 = nI j1) (hl_j1 : j1 < 1024) (k : am_ev sh C 86 (99, [some (am_R (some (20, 0, 0))), some (am_I x1), some (am_I x2), some (am_I x3), some (am_I x4), some (am_I x5), some (am_I x6)], [am_I (M (21, 16, 0) j1), am_I xs1, am_R os0], M, 0) P) : am_ev sh C 86 (73, [some (am_R (some (20, 0, 0))), some (am_I x1), some (am_I x2), some (am_I x3), some (am_I x4), some (am_I x5), some (am_I x6)], [am_I xs1, am_R os0], M, 0) P := by
  refine am_e_aload_n dd_86_73 rfl rfl ?_
  refine am_e_gf (ci := 3) (j := 16) (v := am_R (some (21, 16, 0))) dd_86_74 (by decide +kernel) rfl rfl rfl ?_
  refine am_e_iconst (v := 4) dd_86_77 rfl rfl ?_
  refine am_e_iload dd_86_78 rfl rfl ?_
  refine am_e_imul dd_86_80 rfl ?_
  refine am_e_iload dd_86_81 rfl rfl ?_
  refine am_e_iadd dd_86_83 rfl ?_
  refine am_a_iald dd_86_84 rfl hx_j1 hl_j1 (by decide) rfl ?_
  refine am_e_goto (pc' := 99) dd_86_85 rfl ?_
  exact k

theorem sg_86_88 {sh : am_Sh} {C : Nat → am_M → List am_V → am_O → Prop} {P : am_S ⊕ am_O → Prop} {M : am_M} {x1 : Int32} {x2 : Int32} {x3 : Int32} {x4 : Int32} {x5 : Int32} {x6 : Int32} {os0 : Option am_K} {xs1 : Int32} {j1 : Nat} (hx_j1 : (4 * x2) + x5 = nI j1) (hl_j1 : j1 < 1024) (k : am_ev sh C 86 (99, [some (am_R (some (20, 0, 0))), some (am_I x1), some (am_I x2), some (am_I x3), some (am_I x4), some (am_I x5), some (am_I x6)], [am_I (M (21, 16, 0) j1), am_I xs1, am_R os0], M, 0) P) : am_ev sh C 86 (88, [some (am_R (some (20, 0, 0))), some (am_I x1), some (am_I x2), some (am_I x3), some (am_I x4), some (am_I x5), some (am_I x6)], [am_I xs1, am_R os0], M, 0) P := by
  refine am_e_aload_n dd_86_88 rfl rfl ?_
  refine am_e_gf (ci := 3) (j := 16) (v := am_R (some (21, 16, 0))) dd_86_89 (by decide +kernel) rfl rfl rfl ?_
  refine am_e_iconst (v := 4) dd_86_92 rfl rfl ?_
  refine am_e_iload_n dd_86_93 rfl rfl ?_
  refine am_e_imul dd_86_94 rfl ?_
  refine am_e_iload dd_86_95 rfl rfl ?_
  refine am_e_iadd dd_86_97 rfl ?_
  refine am_a_iald dd_86_98 rfl hx_j1 hl_j1 (by decide) rfl ?_
  exact k

theorem sg_86_99 {sh : am_Sh} {C : Nat → am_M → List am_V → am_O → Prop} {P : am_S ⊕ am_O → Prop} {M : am_M} {x1 : Int32} {x2 : Int32} {x3 : Int32} {x4 : Int32} {x5 : Int32} {x6 : Int32} {ks0 : am_K} {Ns0 : Nat} {xs1 : Int32} {xs2 : Int32} {j1 : Nat} (hz_ks0 : Ns0 < 2147483648) (hx_j1 : xs1 = nI j1) (hl_j1 : j1 < Ns0) (hk_ks0 : am_ct sh ks0 = some (Sum.inr (0, Ns0))) (k : am_ev sh C 86 (29, [some (am_R (some (20, 0, 0))), some (am_I x1), some (am_I x2), some (am_I x3), some (am_I x4), some (am_I (x5 + 1)), some (am_I x6)], [], (am_up M ks0 j1 xs2), 0) P) : am_ev sh C 86 (99, [some (am_R (some (20, 0, 0))), some (am_I x1), some (am_I x2), some (am_I x3), some (am_I x4), some (am_I x5), some (am_I x6)], [am_I xs2, am_I xs1, am_R (some ks0)], M, 0) P := by
  refine am_a_iast dd_86_99 hk_ks0 hx_j1 hl_j1 hz_ks0 rfl ?_
  refine am_e_iinc (v := x5 + 1) dd_86_100 rfl rfl rfl rfl ?_
  refine am_e_goto (pc' := 29) dd_86_103 rfl ?_
  exact k

theorem sg_86_106 {sh : am_Sh} {C : Nat → am_M → List am_V → am_O → Prop} {P : am_S ⊕ am_O → Prop} {M : am_M} {x1 : Int32} {x2 : Int32} {x3 : Int32} {x4 : Int32} {x5 : Int32} {u6 : Option am_V} {j1 : Nat} {j2 : Nat} {j3 : Nat} (hx_j1 : x2 = nI j1) (hl_j1 : j1 < 256) (hx_j2 : x4 = nI j2) (hl_j2 : j2 < 256) (hx_j3 : x4 = nI j3) (hl_j3 : j3 < 256) (k : am_ev sh C 86 (138, [some (am_R (some (20, 0, 0))), some (am_I x1), some (am_I x2), some (am_I x3), some (am_I x4), some (am_I x5), u6], [], (am_up (am_up (am_up M (21, 11, 0) j1 ((M (21, 11, 0) j1) ||| (M (21, 11, 0) j2))) (21, 11, 0) j2 0) (21, 10, 0) j3 (-1)), 0) P) : am_ev sh C 86 (106, [some (am_R (some (20, 0, 0))), some (am_I x1), some (am_I x2), some (am_I x3), some (am_I x4), some (am_I x5), u6], [], M, 0) P := by
  refine am_e_aload_n dd_86_106 rfl rfl ?_
  refine am_e_gf (ci := 3) (j := 11) (v := am_R (some (21, 11, 0))) dd_86_107 (by decide +kernel) rfl rfl rfl ?_
  refine am_e_iload_n dd_86_110 rfl rfl ?_
  refine am_e_dup2 dd_86_111 rfl rfl rfl ?_
  refine am_a_iald dd_86_112 rfl hx_j1 hl_j1 (by decide) rfl ?_
  refine am_e_aload_n dd_86_113 rfl rfl ?_
  refine am_e_gf (ci := 3) (j := 11) (v := am_R (some (21, 11, 0))) dd_86_114 (by decide +kernel) rfl rfl rfl ?_
  refine am_e_iload dd_86_117 rfl rfl ?_
  refine am_a_iald dd_86_119 rfl hx_j2 hl_j2 (by decide) rfl ?_
  refine am_e_ior dd_86_120 rfl ?_
  refine am_a_iast dd_86_121 rfl hx_j1 hl_j1 (by decide) rfl ?_
  refine am_e_aload_n dd_86_122 rfl rfl ?_
  refine am_e_gf (ci := 3) (j := 11) (v := am_R (some (21, 11, 0))) dd_86_123 (by decide +kernel) rfl rfl rfl ?_
  refine am_e_iload dd_86_126 rfl rfl ?_
  refine am_e_iconst (v := 0) dd_86_128 rfl rfl ?_
  refine am_a_iast dd_86_129 rfl hx_j2 hl_j2 (by decide) rfl ?_
  refine am_e_aload_n dd_86_130 rfl rfl ?_
  refine am_e_gf (ci := 3) (j := 10) (v := am_R (some (21, 10, 0))) dd_86_131 (by decide +kernel) rfl rfl rfl ?_
  refine am_e_iload dd_86_134 rfl rfl ?_
  refine am_e_iconst (v := (-1)) dd_86_136 rfl rfl ?_
  refine am_a_iast dd_86_137 rfl hx_j3 hl_j3 (by decide) rfl ?_
  exact k

theorem sg_86_138 {sh : am_Sh} {C : Nat → am_M → List am_V → am_O → Prop} {P : am_S ⊕ am_O → Prop} {M : am_M} {x1 : Int32} {x2 : Int32} {x3 : Int32} {x4 : Int32} {u5 : Option am_V} {u6 : Option am_V}  (k : am_ev sh C 86 (4, [some (am_R (some (20, 0, 0))), some (am_I x1), some (am_I x2), some (am_I (x3 + (-1))), some (am_I x4), u5, u6], [], M, 0) P) : am_ev sh C 86 (138, [some (am_R (some (20, 0, 0))), some (am_I x1), some (am_I x2), some (am_I x3), some (am_I x4), u5, u6], [], M, 0) P := by
  refine am_e_iinc (v := x3 + (-1)) dd_86_138 rfl rfl rfl rfl ?_
  refine am_e_goto (pc' := 4) dd_86_141 rfl ?_
  exact k

theorem sg_86_144 {sh : am_Sh} {C : Nat → am_M → List am_V → am_O → Prop} {P : am_S ⊕ am_O → Prop} {M : am_M} {x1 : Int32} {x2 : Int32} {x3 : Int32} {u4 : Option am_V} {u5 : Option am_V} {u6 : Option am_V}  (k : P (Sum.inr (M, Sum.inl none))) : am_ev sh C 86 (144, [some (am_R (some (20, 0, 0))), some (am_I x1), some (am_I x2), some (am_I x3), u4, u5, u6], [], M, 0) P := by
  exact am_e_vret dd_86_144 (by decide +kernel) rfl k

-- 87: CacheLadderModel.write(II)V
theorem dd_87_0 : decode (am_b 87) 0 = .ok (.aload_n 0, 1) := by decide +kernel
theorem dd_87_1 : decode (am_b 87) 1 = .ok (.iload_n 1, 1) := by decide +kernel
theorem dd_87_2 : decode (am_b 87) 2 = .ok (.iconst 0, 1) := by decide +kernel
theorem dd_87_3 : decode (am_b 87) 3 = .ok (.sipush 1023, 3) := by decide +kernel
theorem dd_87_6 : decode (am_b 87) 6 = .ok (.invokestatic 174, 3) := by decide +kernel
theorem dd_87_9 : decode (am_b 87) 9 = .ok (.ifCond .eq 7, 3) := by decide +kernel
theorem dd_87_12 : decode (am_b 87) 12 = .ok (.iconst 0, 1) := by decide +kernel
theorem dd_87_13 : decode (am_b 87) 13 = .ok (.goto 4, 3) := by decide +kernel
theorem dd_87_16 : decode (am_b 87) 16 = .ok (.iconst 1, 1) := by decide +kernel
theorem dd_87_17 : decode (am_b 87) 17 = .ok (.putfield 83, 3) := by decide +kernel
theorem dd_87_20 : decode (am_b 87) 20 = .ok (.aload_n 0, 1) := by decide +kernel
theorem dd_87_21 : decode (am_b 87) 21 = .ok (.getfield 83, 3) := by decide +kernel
theorem dd_87_24 : decode (am_b 87) 24 = .ok (.ifCond .ne 9, 3) := by decide +kernel
theorem dd_87_27 : decode (am_b 87) 27 = .ok (.aload_n 0, 1) := by decide +kernel
theorem dd_87_28 : decode (am_b 87) 28 = .ok (.iload_n 1, 1) := by decide +kernel
theorem dd_87_29 : decode (am_b 87) 29 = .ok (.iload_n 2, 1) := by decide +kernel
theorem dd_87_30 : decode (am_b 87) 30 = .ok (.invokevirtual 187, 3) := by decide +kernel
theorem dd_87_33 : decode (am_b 87) 33 = .ok (.return_, 1) := by decide +kernel
theorem sg_87_0 {sh : am_Sh} {C : Nat → am_M → List am_V → am_O → Prop} {P : am_S ⊕ am_O → Prop} {M : am_M} {x1 : Int32} {x2 : Int32} {M1 : am_M} {r1 : Int32} (hc1 : C 62 M [am_I x1, am_I 0, am_I 1023] (M1, Sum.inl (some (am_I r1)))) (k1 : r1 = 0 → am_ev sh C 87 (16, [some (am_R (some (20, 0, 0))), some (am_I x1), some (am_I x2)], [am_R (some (20, 0, 0))], M1, 0) P) (k2 : ¬ r1 = 0 → am_ev sh C 87 (12, [some (am_R (some (20, 0, 0))), some (am_I x1), some (am_I x2)], [am_R (some (20, 0, 0))], M1, 0) P) : am_ev sh C 87 (0, [some (am_R (some (20, 0, 0))), some (am_I x1), some (am_I x2)], [], M, 0) P := by
  refine am_e_aload_n dd_87_0 rfl rfl ?_
  refine am_e_iload_n dd_87_1 rfl rfl ?_
  refine am_e_iconst (v := 0) dd_87_2 rfl rfl ?_
  refine am_e_sipush (v := 1023) dd_87_3 (by decide) rfl ?_
  refine am_e_callS (c := 62) (k := 3) (as := [am_I x1, am_I 0, am_I 1023]) (S' := [am_I r1, am_R (some (20, 0, 0))]) (v := some (am_I r1)) (M' := M1) (n' := 0) dd_87_6 (by decide +kernel) (by decide +kernel) ⟨Nat.le_of_ble_eq_true rfl, Nat.le_of_ble_eq_true rfl, by decide +kernel, (Or.inl rfl)⟩ rfl rfl (by decide +kernel) hc1 rfl ?_
  exact am_a_if_eq (tgt := 16) (pc' := 12) dd_87_9 rfl rfl k1 k2

theorem sg_87_12 {sh : am_Sh} {C : Nat → am_M → List am_V → am_O → Prop} {P : am_S ⊕ am_O → Prop} {M : am_M} {x1 : Int32} {x2 : Int32}  (k : am_ev sh C 87 (17, [some (am_R (some (20, 0, 0))), some (am_I x1), some (am_I x2)], [am_I 0, am_R (some (20, 0, 0))], M, 0) P) : am_ev sh C 87 (12, [some (am_R (some (20, 0, 0))), some (am_I x1), some (am_I x2)], [am_R (some (20, 0, 0))], M, 0) P := by
  refine am_e_iconst (v := 0) dd_87_12 rfl rfl ?_
  refine am_e_goto (pc' := 17) dd_87_13 rfl ?_
  exact k

theorem sg_87_16 {sh : am_Sh} {C : Nat → am_M → List am_V → am_O → Prop} {P : am_S ⊕ am_O → Prop} {M : am_M} {x1 : Int32} {x2 : Int32}  (k : am_ev sh C 87 (17, [some (am_R (some (20, 0, 0))), some (am_I x1), some (am_I x2)], [am_I 1, am_R (some (20, 0, 0))], M, 0) P) : am_ev sh C 87 (16, [some (am_R (some (20, 0, 0))), some (am_I x1), some (am_I x2)], [am_R (some (20, 0, 0))], M, 0) P := by
  refine am_e_iconst (v := 1) dd_87_16 rfl rfl ?_
  exact k

theorem sg_87_17 {sh : am_Sh} {C : Nat → am_M → List am_V → am_O → Prop} {P : am_S ⊕ am_O → Prop} {M : am_M} {x1 : Int32} {x2 : Int32} {xs1 : Int32}  (k1 : ¬ ((am_up M (20, 0, 0) 0 xs1) (20, 0, 0) 0) = 0 → am_ev sh C 87 (33, [some (am_R (some (20, 0, 0))), some (am_I x1), some (am_I x2)], [], (am_up M (20, 0, 0) 0 xs1), 0) P) (k2 : ((am_up M (20, 0, 0) 0 xs1) (20, 0, 0) 0) = 0 → am_ev sh C 87 (27, [some (am_R (some (20, 0, 0))), some (am_I x1), some (am_I x2)], [], (am_up M (20, 0, 0) 0 xs1), 0) P) : am_ev sh C 87 (17, [some (am_R (some (20, 0, 0))), some (am_I x1), some (am_I x2)], [am_I xs1, am_R (some (20, 0, 0))], M, 0) P := by
  refine am_e_pf (ci := 3) (j := 0) dd_87_17 (by decide +kernel) rfl rfl (Or.inl rfl) rfl ?_
  refine am_e_aload_n dd_87_20 rfl rfl ?_
  refine am_e_gf (ci := 3) (j := 0) (v := am_I ((am_up M (20, 0, 0) 0 xs1) (20, 0, 0) 0)) dd_87_21 (by decide +kernel) rfl rfl rfl ?_
  exact am_a_if_ne (tgt := 33) (pc' := 27) dd_87_24 rfl rfl k1 k2

theorem sg_87_27 {sh : am_Sh} {C : Nat → am_M → List am_V → am_O → Prop} {P : am_S ⊕ am_O → Prop} {M : am_M} {x1 : Int32} {x2 : Int32} {M1 : am_M} (hc1 : C 88 M [am_R (some (20, 0, 0)), am_I x1, am_I x2] (M1, Sum.inl none)) (k : am_ev sh C 87 (33, [some (am_R (some (20, 0, 0))), some (am_I x1), some (am_I x2)], [], M1, 0) P) : am_ev sh C 87 (27, [some (am_R (some (20, 0, 0))), some (am_I x1), some (am_I x2)], [], M, 0) P := by
  refine am_e_aload_n dd_87_27 rfl rfl ?_
  refine am_e_iload_n dd_87_28 rfl rfl ?_
  refine am_e_iload_n dd_87_29 rfl rfl ?_
  refine am_e_callV (c := 88) (k := 3) (as := [am_R (some (20, 0, 0)), am_I x1, am_I x2]) (S' := []) (v := none) (M' := M1) (n' := 0) dd_87_30 (by decide +kernel) ⟨Nat.le_of_ble_eq_true rfl, Nat.le_of_ble_eq_true rfl, by decide +kernel, (Or.inr (am_rcv_of rfl))⟩ rfl rfl (by decide +kernel) hc1 rfl ?_
  exact k

theorem sg_87_33 {sh : am_Sh} {C : Nat → am_M → List am_V → am_O → Prop} {P : am_S ⊕ am_O → Prop} {M : am_M} {x1 : Int32} {x2 : Int32}  (k : P (Sum.inr (M, Sum.inl none))) : am_ev sh C 87 (33, [some (am_R (some (20, 0, 0))), some (am_I x1), some (am_I x2)], [], M, 0) P := by
  exact am_e_vret dd_87_33 (by decide +kernel) rfl k

-- 88: CacheLadderModel.writeWord(II)V
theorem dd_88_0 : decode (am_b 88) 0 = .ok (.aload_n 0, 1) := by decide +kernel
theorem dd_88_1 : decode (am_b 88) 1 = .ok (.iconst 1, 1) := by decide +kernel
theorem dd_88_2 : decode (am_b 88) 2 = .ok (.putfield 177, 3) := by decide +kernel
theorem dd_88_5 : decode (am_b 88) 5 = .ok (.aload_n 0, 1) := by decide +kernel
theorem dd_88_6 : decode (am_b 88) 6 = .ok (.getfield 59, 3) := by decide +kernel
theorem dd_88_9 : decode (am_b 88) 9 = .ok (.iload_n 1, 1) := by decide +kernel
theorem dd_88_10 : decode (am_b 88) 10 = .ok (.iconst 4, 1) := by decide +kernel
theorem dd_88_11 : decode (am_b 88) 11 = .ok (.irem, 1) := by decide +kernel
theorem dd_88_12 : decode (am_b 88) 12 = .ok (.iload_n 2, 1) := by decide +kernel
theorem dd_88_13 : decode (am_b 88) 13 = .ok (.iastore, 1) := by decide +kernel
theorem dd_88_14 : decode (am_b 88) 14 = .ok (.aload_n 0, 1) := by decide +kernel
theorem dd_88_15 : decode (am_b 88) 15 = .ok (.iconst 1, 1) := by decide +kernel
theorem dd_88_16 : decode (am_b 88) 16 = .ok (.iconst 0, 1) := by decide +kernel
theorem dd_88_17 : decode (am_b 88) 17 = .ok (.iload_n 1, 1) := by decide +kernel
theorem dd_88_18 : decode (am_b 88) 18 = .ok (.iconst 4, 1) := by decide +kernel
theorem dd_88_19 : decode (am_b 88) 19 = .ok (.idiv, 1) := by decide +kernel
theorem dd_88_20 : decode (am_b 88) 20 = .ok (.iconst 1, 1) := by decide +kernel
theorem dd_88_21 : decode (am_b 88) 21 = .ok (.iload_n 1, 1) := by decide +kernel
theorem dd_88_22 : decode (am_b 88) 22 = .ok (.iconst 4, 1) := by decide +kernel
theorem dd_88_23 : decode (am_b 88) 23 = .ok (.irem, 1) := by decide +kernel
theorem dd_88_24 : decode (am_b 88) 24 = .ok (.ishl, 1) := by decide +kernel
theorem dd_88_25 : decode (am_b 88) 25 = .ok (.iconst 0, 1) := by decide +kernel
theorem dd_88_26 : decode (am_b 88) 26 = .ok (.invokevirtual 124, 3) := by decide +kernel
theorem dd_88_29 : decode (am_b 88) 29 = .ok (.aload_n 0, 1) := by decide +kernel
theorem dd_88_30 : decode (am_b 88) 30 = .ok (.invokevirtual 181, 3) := by decide +kernel
theorem dd_88_33 : decode (am_b 88) 33 = .ok (.return_, 1) := by decide +kernel
theorem sg_88_0 {sh : am_Sh} {C : Nat → am_M → List am_V → am_O → Prop} {P : am_S ⊕ am_O → Prop} {M : am_M} {x1 : Int32} {x2 : Int32} {j1 : Nat} {M1 : am_M} {M2 : am_M} (hx_j1 : x1 - x1 / 4 * 4 = nI j1) (hl_j1 : j1 < 20) (hc1 : C 65 (am_up (am_up M (20, 0, 0) 2 1) (21, 22, 0) j1 x2) [am_R (some (20, 0, 0)), am_I 1, am_I 0, am_I (x1 / 4), am_I ((1 : Int32) <<< ((x1 - x1 / 4 * 4) &&& 31)), am_I 0] (M1, Sum.inl none)) (hc2 : C 66 M1 [am_R (some (20, 0, 0))] (M2, Sum.inl none)) (k : P (Sum.inr (M2, Sum.inl none))) : am_ev sh C 88 (0, [some (am_R (some (20, 0, 0))), some (am_I x1), some (am_I x2)], [], M, 0) P := by
  refine am_e_aload_n dd_88_0 rfl rfl ?_
  refine am_e_iconst (v := 1) dd_88_1 rfl rfl ?_
  refine am_e_pf (ci := 3) (j := 2) dd_88_2 (by decide +kernel) rfl rfl (Or.inr ⟨rfl, Or.inr rfl⟩) rfl ?_
  refine am_e_aload_n dd_88_5 rfl rfl ?_
  refine am_e_gf (ci := 3) (j := 22) (v := am_R (some (21, 22, 0))) dd_88_6 (by decide +kernel) rfl rfl rfl ?_
  refine am_e_iload_n dd_88_9 rfl rfl ?_
  refine am_e_iconst (v := 4) dd_88_10 rfl rfl ?_
  refine am_e_irem dd_88_11 (by decide) rfl ?_
  refine am_e_iload_n dd_88_12 rfl rfl ?_
  refine am_a_iast dd_88_13 rfl hx_j1 hl_j1 (by decide) rfl ?_
  refine am_e_aload_n dd_88_14 rfl rfl ?_
  refine am_e_iconst (v := 1) dd_88_15 rfl rfl ?_
  refine am_e_iconst (v := 0) dd_88_16 rfl rfl ?_
  refine am_e_iload_n dd_88_17 rfl rfl ?_
  refine am_e_iconst (v := 4) dd_88_18 rfl rfl ?_
  refine am_e_idiv dd_88_19 (by decide) rfl ?_
  refine am_e_iconst (v := 1) dd_88_20 rfl rfl ?_
  refine am_e_iload_n dd_88_21 rfl rfl ?_
  refine am_e_iconst (v := 4) dd_88_22 rfl rfl ?_
  refine am_e_irem dd_88_23 (by decide) rfl ?_
  refine am_e_ishl dd_88_24 rfl ?_
  refine am_e_iconst (v := 0) dd_88_25 rfl rfl ?_
  refine am_e_callV (c := 65) (k := 6) (as := [am_R (some (20, 0, 0)), am_I 1, am_I 0, am_I (x1 / 4), am_I ((1 : Int32) <<< ((x1 - x1 / 4 * 4) &&& 31)), am_I 0]) (S' := []) (v := none) (M' := M1) (n' := 0) dd_88_26 (by decide +kernel) ⟨Nat.le_of_ble_eq_true rfl, Nat.le_of_ble_eq_true rfl, by decide +kernel, (Or.inr (am_rcv_of rfl))⟩ rfl rfl (by decide +kernel) hc1 rfl ?_
  refine am_e_aload_n dd_88_29 rfl rfl ?_
  refine am_e_callV (c := 66) (k := 1) (as := [am_R (some (20, 0, 0))]) (S' := []) (v := none) (M' := M2) (n' := 0) dd_88_30 (by decide +kernel) ⟨Nat.le_of_ble_eq_true rfl, Nat.le_of_ble_eq_true rfl, by decide +kernel, (Or.inr (am_rcv_of rfl))⟩ rfl rfl (by decide +kernel) hc2 rfl ?_
  exact am_e_vret dd_88_33 (by decide +kernel) rfl k

-- 89: CacheLadderModel.fill(IIII)V
theorem dd_89_0 : decode (am_b 89) 0 = .ok (.aload_n 0, 1) := by decide +kernel
theorem dd_89_1 : decode (am_b 89) 1 = .ok (.iload_n 2, 1) := by decide +kernel
theorem dd_89_2 : decode (am_b 89) 2 = .ok (.iconst 1, 1) := by decide +kernel
theorem dd_89_3 : decode (am_b 89) 3 = .ok (.if_icmp .ge 7, 3) := by decide +kernel
theorem dd_89_6 : decode (am_b 89) 6 = .ok (.iconst 1, 1) := by decide +kernel
theorem dd_89_7 : decode (am_b 89) 7 = .ok (.goto 28, 3) := by decide +kernel
theorem dd_89_10 : decode (am_b 89) 10 = .ok (.iload_n 1, 1) := by decide +kernel
theorem dd_89_11 : decode (am_b 89) 11 = .ok (.iconst 0, 1) := by decide +kernel
theorem dd_89_12 : decode (am_b 89) 12 = .ok (.sipush 1023, 3) := by decide +kernel
theorem dd_89_15 : decode (am_b 89) 15 = .ok (.invokestatic 174, 3) := by decide +kernel
theorem dd_89_18 : decode (am_b 89) 18 = .ok (.ifCond .eq 12, 3) := by decide +kernel
theorem dd_89_21 : decode (am_b 89) 21 = .ok (.iload_n 2, 1) := by decide +kernel
theorem dd_89_22 : decode (am_b 89) 22 = .ok (.sipush 1024, 3) := by decide +kernel
theorem dd_89_25 : decode (am_b 89) 25 = .ok (.iload_n 1, 1) := by decide +kernel
theorem dd_89_26 : decode (am_b 89) 26 = .ok (.isub, 1) := by decide +kernel
theorem dd_89_27 : decode (am_b 89) 27 = .ok (.if_icmp .le 7, 3) := by decide +kernel
theorem dd_89_30 : decode (am_b 89) 30 = .ok (.iconst 2, 1) := by decide +kernel
theorem dd_89_31 : decode (am_b 89) 31 = .ok (.goto 4, 3) := by decide +kernel
theorem dd_89_34 : decode (am_b 89) 34 = .ok (.iconst 0, 1) := by decide +kernel
theorem dd_89_35 : decode (am_b 89) 35 = .ok (.putfield 83, 3) := by decide +kernel
theorem dd_89_38 : decode (am_b 89) 38 = .ok (.aload_n 0, 1) := by decide +kernel
theorem dd_89_39 : decode (am_b 89) 39 = .ok (.getfield 83, 3) := by decide +kernel
theorem dd_89_42 : decode (am_b 89) 42 = .ok (.ifCond .le 4, 3) := by decide +kernel
theorem dd_89_45 : decode (am_b 89) 45 = .ok (.return_, 1) := by decide +kernel
theorem dd_89_46 : decode (am_b 89) 46 = .ok (.aload_n 0, 1) := by decide +kernel
theorem dd_89_47 : decode (am_b 89) 47 = .ok (.iconst 1, 1) := by decide +kernel
theorem dd_89_48 : decode (am_b 89) 48 = .ok (.putfield 177, 3) := by decide +kernel
theorem dd_89_51 : decode (am_b 89) 51 = .ok (.iload_n 1, 1) := by decide +kernel
theorem dd_89_52 : decode (am_b 89) 52 = .ok (.istore 5, 2) := by decide +kernel
theorem dd_89_54 : decode (am_b 89) 54 = .ok (.iload 5, 2) := by decide +kernel
theorem dd_89_56 : decode (am_b 89) 56 = .ok (.iload_n 1, 1) := by decide +kernel
theorem dd_89_57 : decode (am_b 89) 57 = .ok (.iload_n 2, 1) := by decide +kernel
theorem dd_89_58 : decode (am_b 89) 58 = .ok (.iadd, 1) := by decide +kernel
theorem dd_89_59 : decode (am_b 89) 59 = .ok (.if_icmp .ge 82, 3) := by decide +kernel
theorem dd_89_62 : decode (am_b 89) 62 = .ok (.iload 5, 2) := by decide +kernel
theorem dd_89_64 : decode (am_b 89) 64 = .ok (.iconst 4, 1) := by decide +kernel
theorem dd_89_65 : decode (am_b 89) 65 = .ok (.idiv, 1) := by decide +kernel
theorem dd_89_66 : decode (am_b 89) 66 = .ok (.istore 6, 2) := by decide +kernel
theorem dd_89_68 : decode (am_b 89) 68 = .ok (.iconst 0, 1) := by decide +kernel
theorem dd_89_69 : decode (am_b 89) 69 = .ok (.istore 7, 2) := by decide +kernel
theorem dd_89_71 : decode (am_b 89) 71 = .ok (.iload 5, 2) := by decide +kernel
theorem dd_89_73 : decode (am_b 89) 73 = .ok (.iload_n 1, 1) := by decide +kernel
theorem dd_89_74 : decode (am_b 89) 74 = .ok (.iload_n 2, 1) := by decide +kernel
theorem dd_89_75 : decode (am_b 89) 75 = .ok (.iadd, 1) := by decide +kernel
theorem dd_89_76 : decode (am_b 89) 76 = .ok (.if_icmp .ge 47, 3) := by decide +kernel
theorem dd_89_79 : decode (am_b 89) 79 = .ok (.iload 5, 2) := by decide +kernel
theorem dd_89_81 : decode (am_b 89) 81 = .ok (.iconst 4, 1) := by decide +kernel
theorem dd_89_82 : decode (am_b 89) 82 = .ok (.idiv, 1) := by decide +kernel
theorem dd_89_83 : decode (am_b 89) 83 = .ok (.iload 6, 2) := by decide +kernel
theorem dd_89_85 : decode (am_b 89) 85 = .ok (.if_icmp .ne 38, 3) := by decide +kernel
theorem dd_89_88 : decode (am_b 89) 88 = .ok (.aload_n 0, 1) := by decide +kernel
theorem dd_89_89 : decode (am_b 89) 89 = .ok (.getfield 59, 3) := by decide +kernel
theorem dd_89_92 : decode (am_b 89) 92 = .ok (.iload 5, 2) := by decide +kernel
theorem dd_89_94 : decode (am_b 89) 94 = .ok (.iconst 4, 1) := by decide +kernel
theorem dd_89_95 : decode (am_b 89) 95 = .ok (.irem, 1) := by decide +kernel
theorem dd_89_96 : decode (am_b 89) 96 = .ok (.iload_n 3, 1) := by decide +kernel
theorem dd_89_97 : decode (am_b 89) 97 = .ok (.iload 5, 2) := by decide +kernel
theorem dd_89_99 : decode (am_b 89) 99 = .ok (.iload_n 1, 1) := by decide +kernel
theorem dd_89_100 : decode (am_b 89) 100 = .ok (.isub, 1) := by decide +kernel
theorem dd_89_101 : decode (am_b 89) 101 = .ok (.iload 4, 2) := by decide +kernel
theorem dd_89_103 : decode (am_b 89) 103 = .ok (.imul, 1) := by decide +kernel
theorem dd_89_104 : decode (am_b 89) 104 = .ok (.iadd, 1) := by decide +kernel
theorem dd_89_105 : decode (am_b 89) 105 = .ok (.iastore, 1) := by decide +kernel
theorem dd_89_106 : decode (am_b 89) 106 = .ok (.iload 7, 2) := by decide +kernel
theorem dd_89_108 : decode (am_b 89) 108 = .ok (.iconst 1, 1) := by decide +kernel
theorem dd_89_109 : decode (am_b 89) 109 = .ok (.iload 5, 2) := by decide +kernel
theorem dd_89_111 : decode (am_b 89) 111 = .ok (.iconst 4, 1) := by decide +kernel
theorem dd_89_112 : decode (am_b 89) 112 = .ok (.irem, 1) := by decide +kernel
theorem dd_89_113 : decode (am_b 89) 113 = .ok (.ishl, 1) := by decide +kernel
theorem dd_89_114 : decode (am_b 89) 114 = .ok (.ior, 1) := by decide +kernel
theorem dd_89_115 : decode (am_b 89) 115 = .ok (.istore 7, 2) := by decide +kernel
theorem dd_89_117 : decode (am_b 89) 117 = .ok (.iinc 5 1, 3) := by decide +kernel
theorem dd_89_120 : decode (am_b 89) 120 = .ok (.goto (-49), 3) := by decide +kernel
theorem dd_89_123 : decode (am_b 89) 123 = .ok (.aload_n 0, 1) := by decide +kernel
theorem dd_89_124 : decode (am_b 89) 124 = .ok (.iconst 1, 1) := by decide +kernel
theorem dd_89_125 : decode (am_b 89) 125 = .ok (.iconst 0, 1) := by decide +kernel
theorem dd_89_126 : decode (am_b 89) 126 = .ok (.iload 6, 2) := by decide +kernel
theorem dd_89_128 : decode (am_b 89) 128 = .ok (.iload 7, 2) := by decide +kernel
theorem dd_89_130 : decode (am_b 89) 130 = .ok (.iconst 0, 1) := by decide +kernel
theorem dd_89_131 : decode (am_b 89) 131 = .ok (.invokevirtual 124, 3) := by decide +kernel
theorem dd_89_134 : decode (am_b 89) 134 = .ok (.aload_n 0, 1) := by decide +kernel
theorem dd_89_135 : decode (am_b 89) 135 = .ok (.invokevirtual 181, 3) := by decide +kernel
theorem dd_89_138 : decode (am_b 89) 138 = .ok (.goto (-84), 3) := by decide +kernel
theorem dd_89_141 : decode (am_b 89) 141 = .ok (.return_, 1) := by decide +kernel
theorem sg_89_0 {sh : am_Sh} {C : Nat → am_M → List am_V → am_O → Prop} {P : am_S ⊕ am_O → Prop} {M : am_M} {x1 : Int32} {x2 : Int32} {x3 : Int32} {x4 : Int32} {u5 : Option am_V} {u6 : Option am_V} {u7 : Option am_V}  (k1 : 1 ≤ x2 → am_ev sh C 89 (10, [some (am_R (some (20, 0, 0))), some (am_I x1), some (am_I x2), some (am_I x3), some (am_I x4), u5, u6, u7], [am_R (some (20, 0, 0))], M, 0) P) (k2 : ¬ 1 ≤ x2 → am_ev sh C 89 (6, [some (am_R (some (20, 0, 0))), some (am_I x1), some (am_I x2), some (am_I x3), some (am_I x4), u5, u6, u7], [am_R (some (20, 0, 0))], M, 0) P) : am_ev sh C 89 (0, [some (am_R (some (20, 0, 0))), some (am_I x1), some (am_I x2), some (am_I x3), some (am_I x4), u5, u6, u7], [], M, 0) P := by
  refine am_e_aload_n dd_89_0 rfl rfl ?_
  refine am_e_iload_n dd_89_1 rfl rfl ?_
  refine am_e_iconst (v := 1) dd_89_2 rfl rfl ?_
  exact am_a_icmp_ge (tgt := 10) (pc' := 6) dd_89_3 rfl rfl k1 k2

theorem sg_89_6 {sh : am_Sh} {C : Nat → am_M → List am_V → am_O → Prop} {P : am_S ⊕ am_O → Prop} {M : am_M} {x1 : Int32} {x2 : Int32} {x3 : Int32} {x4 : Int32} {u5 : Option am_V} {u6 : Option am_V} {u7 : Option am_V}  (k : am_ev sh C 89 (35, [some (am_R (some (20, 0, 0))), some (am_I x1), some (am_I x2), some (am_I x3), some (am_I x4), u5, u6, u7], [am_I 1, am_R (some (20, 0, 0))], M, 0) P) : am_ev sh C 89 (6, [some (am_R (some (20, 0, 0))), some (am_I x1), some (am_I x2), some (am_I x3), some (am_I x4), u5, u6, u7], [am_R (some (20, 0, 0))], M, 0) P := by
  refine am_e_iconst (v := 1) dd_89_6 rfl rfl ?_
  refine am_e_goto (pc' := 35) dd_89_7 rfl ?_
  exact k

theorem sg_89_10 {sh : am_Sh} {C : Nat → am_M → List am_V → am_O → Prop} {P : am_S ⊕ am_O → Prop} {M : am_M} {x1 : Int32} {x2 : Int32} {x3 : Int32} {x4 : Int32} {u5 : Option am_V} {u6 : Option am_V} {u7 : Option am_V} {M1 : am_M} {r1 : Int32} (hc1 : C 62 M [am_I x1, am_I 0, am_I 1023] (M1, Sum.inl (some (am_I r1)))) (k1 : r1 = 0 → am_ev sh C 89 (30, [some (am_R (some (20, 0, 0))), some (am_I x1), some (am_I x2), some (am_I x3), some (am_I x4), u5, u6, u7], [am_R (some (20, 0, 0))], M1, 0) P) (k2 : ¬ r1 = 0 → am_ev sh C 89 (21, [some (am_R (some (20, 0, 0))), some (am_I x1), some (am_I x2), some (am_I x3), some (am_I x4), u5, u6, u7], [am_R (some (20, 0, 0))], M1, 0) P) : am_ev sh C 89 (10, [some (am_R (some (20, 0, 0))), some (am_I x1), some (am_I x2), some (am_I x3), some (am_I x4), u5, u6, u7], [am_R (some (20, 0, 0))], M, 0) P := by
  refine am_e_iload_n dd_89_10 rfl rfl ?_
  refine am_e_iconst (v := 0) dd_89_11 rfl rfl ?_
  refine am_e_sipush (v := 1023) dd_89_12 (by decide) rfl ?_
  refine am_e_callS (c := 62) (k := 3) (as := [am_I x1, am_I 0, am_I 1023]) (S' := [am_I r1, am_R (some (20, 0, 0))]) (v := some (am_I r1)) (M' := M1) (n' := 0) dd_89_15 (by decide +kernel) (by decide +kernel) ⟨Nat.le_of_ble_eq_true rfl, Nat.le_of_ble_eq_true rfl, by decide +kernel, (Or.inl rfl)⟩ rfl rfl (by decide +kernel) hc1 rfl ?_
  exact am_a_if_eq (tgt := 30) (pc' := 21) dd_89_18 rfl rfl k1 k2

theorem sg_89_21 {sh : am_Sh} {C : Nat → am_M → List am_V → am_O → Prop} {P : am_S ⊕ am_O → Prop} {M : am_M} {x1 : Int32} {x2 : Int32} {x3 : Int32} {x4 : Int32} {u5 : Option am_V} {u6 : Option am_V} {u7 : Option am_V}  (k1 : x2 ≤ (1024 - x1) → am_ev sh C 89 (34, [some (am_R (some (20, 0, 0))), some (am_I x1), some (am_I x2), some (am_I x3), some (am_I x4), u5, u6, u7], [am_R (some (20, 0, 0))], M, 0) P) (k2 : ¬ x2 ≤ (1024 - x1) → am_ev sh C 89 (30, [some (am_R (some (20, 0, 0))), some (am_I x1), some (am_I x2), some (am_I x3), some (am_I x4), u5, u6, u7], [am_R (some (20, 0, 0))], M, 0) P) : am_ev sh C 89 (21, [some (am_R (some (20, 0, 0))), some (am_I x1), some (am_I x2), some (am_I x3), some (am_I x4), u5, u6, u7], [am_R (some (20, 0, 0))], M, 0) P := by
  refine am_e_iload_n dd_89_21 rfl rfl ?_
  refine am_e_sipush (v := 1024) dd_89_22 (by decide) rfl ?_
  refine am_e_iload_n dd_89_25 rfl rfl ?_
  refine am_e_isub dd_89_26 rfl ?_
  exact am_a_icmp_le (tgt := 34) (pc' := 30) dd_89_27 rfl rfl k1 k2

theorem sg_89_30 {sh : am_Sh} {C : Nat → am_M → List am_V → am_O → Prop} {P : am_S ⊕ am_O → Prop} {M : am_M} {x1 : Int32} {x2 : Int32} {x3 : Int32} {x4 : Int32} {u5 : Option am_V} {u6 : Option am_V} {u7 : Option am_V}  (k : am_ev sh C 89 (35, [some (am_R (some (20, 0, 0))), some (am_I x1), some (am_I x2), some (am_I x3), some (am_I x4), u5, u6, u7], [am_I 2, am_R (some (20, 0, 0))], M, 0) P) : am_ev sh C 89 (30, [some (am_R (some (20, 0, 0))), some (am_I x1), some (am_I x2), some (am_I x3), some (am_I x4), u5, u6, u7], [am_R (some (20, 0, 0))], M, 0) P := by
  refine am_e_iconst (v := 2) dd_89_30 rfl rfl ?_
  refine am_e_goto (pc' := 35) dd_89_31 rfl ?_
  exact k

theorem sg_89_34 {sh : am_Sh} {C : Nat → am_M → List am_V → am_O → Prop} {P : am_S ⊕ am_O → Prop} {M : am_M} {x1 : Int32} {x2 : Int32} {x3 : Int32} {x4 : Int32} {u5 : Option am_V} {u6 : Option am_V} {u7 : Option am_V}  (k : am_ev sh C 89 (35, [some (am_R (some (20, 0, 0))), some (am_I x1), some (am_I x2), some (am_I x3), some (am_I x4), u5, u6, u7], [am_I 0, am_R (some (20, 0, 0))], M, 0) P) : am_ev sh C 89 (34, [some (am_R (some (20, 0, 0))), some (am_I x1), some (am_I x2), some (am_I x3), some (am_I x4), u5, u6, u7], [am_R (some (20, 0, 0))], M, 0) P := by
  refine am_e_iconst (v := 0) dd_89_34 rfl rfl ?_
  exact k

theorem sg_89_35 {sh : am_Sh} {C : Nat → am_M → List am_V → am_O → Prop} {P : am_S ⊕ am_O → Prop} {M : am_M} {x1 : Int32} {x2 : Int32} {x3 : Int32} {x4 : Int32} {u5 : Option am_V} {u6 : Option am_V} {u7 : Option am_V} {xs1 : Int32}  (k1 : ((am_up M (20, 0, 0) 0 xs1) (20, 0, 0) 0) ≤ 0 → am_ev sh C 89 (46, [some (am_R (some (20, 0, 0))), some (am_I x1), some (am_I x2), some (am_I x3), some (am_I x4), u5, u6, u7], [], (am_up M (20, 0, 0) 0 xs1), 0) P) (k2 : ¬ ((am_up M (20, 0, 0) 0 xs1) (20, 0, 0) 0) ≤ 0 → am_ev sh C 89 (45, [some (am_R (some (20, 0, 0))), some (am_I x1), some (am_I x2), some (am_I x3), some (am_I x4), u5, u6, u7], [], (am_up M (20, 0, 0) 0 xs1), 0) P) : am_ev sh C 89 (35, [some (am_R (some (20, 0, 0))), some (am_I x1), some (am_I x2), some (am_I x3), some (am_I x4), u5, u6, u7], [am_I xs1, am_R (some (20, 0, 0))], M, 0) P := by
  refine am_e_pf (ci := 3) (j := 0) dd_89_35 (by decide +kernel) rfl rfl (Or.inl rfl) rfl ?_
  refine am_e_aload_n dd_89_38 rfl rfl ?_
  refine am_e_gf (ci := 3) (j := 0) (v := am_I ((am_up M (20, 0, 0) 0 xs1) (20, 0, 0) 0)) dd_89_39 (by decide +kernel) rfl rfl rfl ?_
  exact am_a_if_le (tgt := 46) (pc' := 45) dd_89_42 rfl rfl k1 k2

theorem sg_89_45 {sh : am_Sh} {C : Nat → am_M → List am_V → am_O → Prop} {P : am_S ⊕ am_O → Prop} {M : am_M} {x1 : Int32} {x2 : Int32} {x3 : Int32} {x4 : Int32} {u5 : Option am_V} {u6 : Option am_V} {u7 : Option am_V}  (k : P (Sum.inr (M, Sum.inl none))) : am_ev sh C 89 (45, [some (am_R (some (20, 0, 0))), some (am_I x1), some (am_I x2), some (am_I x3), some (am_I x4), u5, u6, u7], [], M, 0) P := by
  exact am_e_vret dd_89_45 (by decide +kernel) rfl k

theorem sg_89_46 {sh : am_Sh} {C : Nat → am_M → List am_V → am_O → Prop} {P : am_S ⊕ am_O → Prop} {M : am_M} {x1 : Int32} {x2 : Int32} {x3 : Int32} {x4 : Int32} {u5 : Option am_V} {u6 : Option am_V} {u7 : Option am_V}  (k : am_ev sh C 89 (54, [some (am_R (some (20, 0, 0))), some (am_I x1), some (am_I x2), some (am_I x3), some (am_I x4), some (am_I x1), u6, u7], [], (am_up M (20, 0, 0) 2 1), 0) P) : am_ev sh C 89 (46, [some (am_R (some (20, 0, 0))), some (am_I x1), some (am_I x2), some (am_I x3), some (am_I x4), u5, u6, u7], [], M, 0) P := by
  refine am_e_aload_n dd_89_46 rfl rfl ?_
  refine am_e_iconst (v := 1) dd_89_47 rfl rfl ?_
  refine am_e_pf (ci := 3) (j := 2) dd_89_48 (by decide +kernel) rfl rfl (Or.inr ⟨rfl, Or.inr rfl⟩) rfl ?_
  refine am_e_iload_n dd_89_51 rfl rfl ?_
  refine am_e_istore dd_89_52 (Nat.le_of_ble_eq_true rfl) rfl rfl ?_
  exact k

theorem sg_89_54 {sh : am_Sh} {C : Nat → am_M → List am_V → am_O → Prop} {P : am_S ⊕ am_O → Prop} {M : am_M} {x1 : Int32} {x2 : Int32} {x3 : Int32} {x4 : Int32} {x5 : Int32} {u6 : Option am_V} {u7 : Option am_V}  (k1 : (x1 + x2) ≤ x5 → am_ev sh C 89 (141, [some (am_R (some (20, 0, 0))), some (am_I x1), some (am_I x2), some (am_I x3), some (am_I x4), some (am_I x5), u6, u7], [], M, 0) P) (k2 : ¬ (x1 + x2) ≤ x5 → am_ev sh C 89 (62, [some (am_R (some (20, 0, 0))), some (am_I x1), some (am_I x2), some (am_I x3), some (am_I x4), some (am_I x5), u6, u7], [], M, 0) P) : am_ev sh C 89 (54, [some (am_R (some (20, 0, 0))), some (am_I x1), some (am_I x2), some (am_I x3), some (am_I x4), some (am_I x5), u6, u7], [], M, 0) P := by
  refine am_e_iload dd_89_54 rfl rfl ?_
  refine am_e_iload_n dd_89_56 rfl rfl ?_
  refine am_e_iload_n dd_89_57 rfl rfl ?_
  refine am_e_iadd dd_89_58 rfl ?_
  exact am_a_icmp_ge (tgt := 141) (pc' := 62) dd_89_59 rfl rfl k1 k2

theorem sg_89_62 {sh : am_Sh} {C : Nat → am_M → List am_V → am_O → Prop} {P : am_S ⊕ am_O → Prop} {M : am_M} {x1 : Int32} {x2 : Int32} {x3 : Int32} {x4 : Int32} {x5 : Int32} {u6 : Option am_V} {u7 : Option am_V}  (k : am_ev sh C 89 (71, [some (am_R (some (20, 0, 0))), some (am_I x1), some (am_I x2), some (am_I x3), some (am_I x4), some (am_I x5), some (am_I (x5 / 4)), some (am_I 0)], [], M, 0) P) : am_ev sh C 89 (62, [some (am_R (some (20, 0, 0))), some (am_I x1), some (am_I x2), some (am_I x3), some (am_I x4), some (am_I x5), u6, u7], [], M, 0) P := by
  refine am_e_iload dd_89_62 rfl rfl ?_
  refine am_e_iconst (v := 4) dd_89_64 rfl rfl ?_
  refine am_e_idiv dd_89_65 (by decide) rfl ?_
  refine am_e_istore dd_89_66 (Nat.le_of_ble_eq_true rfl) rfl rfl ?_
  refine am_e_iconst (v := 0) dd_89_68 rfl rfl ?_
  refine am_e_istore dd_89_69 (Nat.le_of_ble_eq_true rfl) rfl rfl ?_
  exact k

theorem sg_89_71 {sh : am_Sh} {C : Nat → am_M → List am_V → am_O → Prop} {P : am_S ⊕ am_O → Prop} {M : am_M} {x1 : Int32} {x2 : Int32} {x3 : Int32} {x4 : Int32} {x5 : Int32} {x6 : Int32} {x7 : Int32}  (k1 : (x1 + x2) ≤ x5 → am_ev sh C 89 (123, [some (am_R (some (20, 0, 0))), some (am_I x1), some (am_I x2), some (am_I x3), some (am_I x4), some (am_I x5), some (am_I x6), some (am_I x7)], [], M, 0) P) (k2 : ¬ (x1 + x2) ≤ x5 → am_ev sh C 89 (79, [some (am_R (some (20, 0, 0))), some (am_I x1), some (am_I x2), some (am_I x3), some (am_I x4), some (am_I x5), some (am_I x6), some (am_I x7)], [], M, 0) P) : am_ev sh C 89 (71, [some (am_R (some (20, 0, 0))), some (am_I x1), some (am_I x2), some (am_I x3), some (am_I x4), some (am_I x5), some (am_I x6), some (am_I x7)], [], M, 0) P := by
  refine am_e_iload dd_89_71 rfl rfl ?_
  refine am_e_iload_n dd_89_73 rfl rfl ?_
  refine am_e_iload_n dd_89_74 rfl rfl ?_
  refine am_e_iadd dd_89_75 rfl ?_
  exact am_a_icmp_ge (tgt := 123) (pc' := 79) dd_89_76 rfl rfl k1 k2

theorem sg_89_79 {sh : am_Sh} {C : Nat → am_M → List am_V → am_O → Prop} {P : am_S ⊕ am_O → Prop} {M : am_M} {x1 : Int32} {x2 : Int32} {x3 : Int32} {x4 : Int32} {x5 : Int32} {x6 : Int32} {x7 : Int32}  (k1 : ¬ (x5 / 4) = x6 → am_ev sh C 89 (123, [some (am_R (some (20, 0, 0))), some (am_I x1), some (am_I x2), some (am_I x3), some (am_I x4), some (am_I x5), some (am_I x6), some (am_I x7)], [], M, 0) P) (k2 : (x5 / 4) = x6 → am_ev sh C 89 (88, [some (am_R (some (20, 0, 0))), some (am_I x1), some (am_I x2), some (am_I x3), some (am_I x4), some (am_I x5), some (am_I x6), some (am_I x7)], [], M, 0) P) : am_ev sh C 89 (79, [some (am_R (some (20, 0, 0))), some (am_I x1), some (am_I x2), some (am_I x3), some (am_I x4), some (am_I x5), some (am_I x6), some (am_I x7)], [], M, 0) P := by
  refine am_e_iload dd_89_79 rfl rfl ?_
  refine am_e_iconst (v := 4) dd_89_81 rfl rfl ?_
  refine am_e_idiv dd_89_82 (by decide) rfl ?_
  refine am_e_iload dd_89_83 rfl rfl ?_
  exact am_a_icmp_ne (tgt := 123) (pc' := 88) dd_89_85 rfl rfl k1 k2

theorem sg_89_88 {sh : am_Sh} {C : Nat → am_M → List am_V → am_O → Prop} {P : am_S ⊕ am_O → Prop} {M : am_M} {x1 : Int32} {x2 : Int32} {x3 : Int32} {x4 : Int32} {x5 : Int32} {x6 : Int32} {x7 : Int32} {j1 : Nat} (hx_j1 : x5 - x5 / 4 * 4 = nI j1) (hl_j1 : j1 < 20) (k : am_ev sh C 89 (71, [some (am_R (some (20, 0, 0))), some (am_I x1), some (am_I x2), some (am_I x3), some (am_I x4), some (am_I (x5 + 1)), some (am_I x6), some (am_I (x7 ||| ((1 : Int32) <<< ((x5 - x5 / 4 * 4) &&& 31))))], [], (am_up M (21, 22, 0) j1 (x3 + ((x5 - x1) * x4))), 0) P) : am_ev sh C 89 (88, [some (am_R (some (20, 0, 0))), some (am_I x1), some (am_I x2), some (am_I x3), some (am_I x4), some (am_I x5), some (am_I x6), some (am_I x7)], [], M, 0) P := by
  refine am_e_aload_n dd_89_88 rfl rfl ?_
  refine am_e_gf (ci := 3) (j := 22) (v := am_R (some (21, 22, 0))) dd_89_89 (by decide +kernel) rfl rfl rfl ?_
  refine am_e_iload dd_89_92 rfl rfl ?_
  refine am_e_iconst (v := 4) dd_89_94 rfl rfl ?_
  refine am_e_irem dd_89_95 (by decide) rfl ?_
  refine am_e_iload_n dd_89_96 rfl rfl ?_
  refine am_e_iload dd_89_97 rfl rfl ?_
  refine am_e_iload_n dd_89_99 rfl rfl ?_
  refine am_e_isub dd_89_100 rfl ?_
  refine am_e_iload dd_89_101 rfl rfl ?_
  refine am_e_imul dd_89_103 rfl ?_
  refine am_e_iadd dd_89_104 rfl ?_
  refine am_a_iast dd_89_105 rfl hx_j1 hl_j1 (by decide) rfl ?_
  refine am_e_iload dd_89_106 rfl rfl ?_
  refine am_e_iconst (v := 1) dd_89_108 rfl rfl ?_
  refine am_e_iload dd_89_109 rfl rfl ?_
  refine am_e_iconst (v := 4) dd_89_111 rfl rfl ?_
  refine am_e_irem dd_89_112 (by decide) rfl ?_
  refine am_e_ishl dd_89_113 rfl ?_
  refine am_e_ior dd_89_114 rfl ?_
  refine am_e_istore dd_89_115 (Nat.le_of_ble_eq_true rfl) rfl rfl ?_
  refine am_e_iinc (v := x5 + 1) dd_89_117 rfl rfl rfl rfl ?_
  refine am_e_goto (pc' := 71) dd_89_120 rfl ?_
  exact k

theorem sg_89_123 {sh : am_Sh} {C : Nat → am_M → List am_V → am_O → Prop} {P : am_S ⊕ am_O → Prop} {M : am_M} {x1 : Int32} {x2 : Int32} {x3 : Int32} {x4 : Int32} {x5 : Int32} {x6 : Int32} {x7 : Int32} {M1 : am_M} {M2 : am_M} (hc1 : C 65 M [am_R (some (20, 0, 0)), am_I 1, am_I 0, am_I x6, am_I x7, am_I 0] (M1, Sum.inl none)) (hc2 : C 66 M1 [am_R (some (20, 0, 0))] (M2, Sum.inl none)) (k : am_ev sh C 89 (54, [some (am_R (some (20, 0, 0))), some (am_I x1), some (am_I x2), some (am_I x3), some (am_I x4), some (am_I x5), some (am_I x6), some (am_I x7)], [], M2, 0) P) : am_ev sh C 89 (123, [some (am_R (some (20, 0, 0))), some (am_I x1), some (am_I x2), some (am_I x3), some (am_I x4), some (am_I x5), some (am_I x6), some (am_I x7)], [], M, 0) P := by
  refine am_e_aload_n dd_89_123 rfl rfl ?_
  refine am_e_iconst (v := 1) dd_89_124 rfl rfl ?_
  refine am_e_iconst (v := 0) dd_89_125 rfl rfl ?_
  refine am_e_iload dd_89_126 rfl rfl ?_
  refine am_e_iload dd_89_128 rfl rfl ?_
  refine am_e_iconst (v := 0) dd_89_130 rfl rfl ?_
  refine am_e_callV (c := 65) (k := 6) (as := [am_R (some (20, 0, 0)), am_I 1, am_I 0, am_I x6, am_I x7, am_I 0]) (S' := []) (v := none) (M' := M1) (n' := 0) dd_89_131 (by decide +kernel) ⟨Nat.le_of_ble_eq_true rfl, Nat.le_of_ble_eq_true rfl, by decide +kernel, (Or.inr (am_rcv_of rfl))⟩ rfl rfl (by decide +kernel) hc1 rfl ?_
  refine am_e_aload_n dd_89_134 rfl rfl ?_
  refine am_e_callV (c := 66) (k := 1) (as := [am_R (some (20, 0, 0))]) (S' := []) (v := none) (M' := M2) (n' := 0) dd_89_135 (by decide +kernel) ⟨Nat.le_of_ble_eq_true rfl, Nat.le_of_ble_eq_true rfl, by decide +kernel, (Or.inr (am_rcv_of rfl))⟩ rfl rfl (by decide +kernel) hc2 rfl ?_
  refine am_e_goto (pc' := 54) dd_89_138 rfl ?_
  exact k

theorem sg_89_141 {sh : am_Sh} {C : Nat → am_M → List am_V → am_O → Prop} {P : am_S ⊕ am_O → Prop} {M : am_M} {x1 : Int32} {x2 : Int32} {x3 : Int32} {x4 : Int32} {x5 : Int32} {u6 : Option am_V} {u7 : Option am_V}  (k : P (Sum.inr (M, Sum.inl none))) : am_ev sh C 89 (141, [some (am_R (some (20, 0, 0))), some (am_I x1), some (am_I x2), some (am_I x3), some (am_I x4), some (am_I x5), u6, u7], [], M, 0) P := by
  exact am_e_vret dd_89_141 (by decide +kernel) rfl k

-- 90: CacheLadderModel.run(III)I
theorem dd_90_0 : decode (am_b 90) 0 = .ok (.aload_n 0, 1) := by decide +kernel
theorem dd_90_1 : decode (am_b 90) 1 = .ok (.iload_n 2, 1) := by decide +kernel
theorem dd_90_2 : decode (am_b 90) 2 = .ok (.iconst 0, 1) := by decide +kernel
theorem dd_90_3 : decode (am_b 90) 3 = .ok (.sipush 200, 3) := by decide +kernel
theorem dd_90_6 : decode (am_b 90) 6 = .ok (.invokestatic 174, 3) := by decide +kernel
theorem dd_90_9 : decode (am_b 90) 9 = .ok (.ifCond .eq 18, 3) := by decide +kernel
theorem dd_90_12 : decode (am_b 90) 12 = .ok (.iload_n 3, 1) := by decide +kernel
theorem dd_90_13 : decode (am_b 90) 13 = .ok (.iconst 1, 1) := by decide +kernel
theorem dd_90_14 : decode (am_b 90) 14 = .ok (.sipush 1024, 3) := by decide +kernel
theorem dd_90_17 : decode (am_b 90) 17 = .ok (.invokestatic 174, 3) := by decide +kernel
theorem dd_90_20 : decode (am_b 90) 20 = .ok (.ifCond .eq 7, 3) := by decide +kernel
theorem dd_90_23 : decode (am_b 90) 23 = .ok (.iconst 0, 1) := by decide +kernel
theorem dd_90_24 : decode (am_b 90) 24 = .ok (.goto 4, 3) := by decide +kernel
theorem dd_90_27 : decode (am_b 90) 27 = .ok (.iconst 1, 1) := by decide +kernel
theorem dd_90_28 : decode (am_b 90) 28 = .ok (.putfield 83, 3) := by decide +kernel
theorem dd_90_31 : decode (am_b 90) 31 = .ok (.iload_n 1, 1) := by decide +kernel
theorem dd_90_32 : decode (am_b 90) 32 = .ok (.istore 4, 2) := by decide +kernel
theorem dd_90_34 : decode (am_b 90) 34 = .ok (.iconst 0, 1) := by decide +kernel
theorem dd_90_35 : decode (am_b 90) 35 = .ok (.istore 5, 2) := by decide +kernel
theorem dd_90_37 : decode (am_b 90) 37 = .ok (.iconst 0, 1) := by decide +kernel
theorem dd_90_38 : decode (am_b 90) 38 = .ok (.istore 6, 2) := by decide +kernel
theorem dd_90_40 : decode (am_b 90) 40 = .ok (.iload 6, 2) := by decide +kernel
theorem dd_90_42 : decode (am_b 90) 42 = .ok (.iload_n 2, 1) := by decide +kernel
theorem dd_90_43 : decode (am_b 90) 43 = .ok (.if_icmp .ge 68, 3) := by decide +kernel
theorem dd_90_46 : decode (am_b 90) 46 = .ok (.aload_n 0, 1) := by decide +kernel
theorem dd_90_47 : decode (am_b 90) 47 = .ok (.getfield 83, 3) := by decide +kernel
theorem dd_90_50 : decode (am_b 90) 50 = .ok (.ifCond .ne 61, 3) := by decide +kernel
theorem dd_90_53 : decode (am_b 90) 53 = .ok (.ldc 190, 2) := by decide +kernel
theorem dd_90_55 : decode (am_b 90) 55 = .ok (.iload 4, 2) := by decide +kernel
theorem dd_90_57 : decode (am_b 90) 57 = .ok (.imul, 1) := by decide +kernel
theorem dd_90_58 : decode (am_b 90) 58 = .ok (.sipush 12345, 3) := by decide +kernel
theorem dd_90_61 : decode (am_b 90) 61 = .ok (.iadd, 1) := by decide +kernel
theorem dd_90_62 : decode (am_b 90) 62 = .ok (.istore 4, 2) := by decide +kernel
theorem dd_90_64 : decode (am_b 90) 64 = .ok (.iload 4, 2) := by decide +kernel
theorem dd_90_66 : decode (am_b 90) 66 = .ok (.bipush 8, 2) := by decide +kernel
theorem dd_90_68 : decode (am_b 90) 68 = .ok (.iushr, 1) := by decide +kernel
theorem dd_90_69 : decode (am_b 90) 69 = .ok (.iload_n 3, 1) := by decide +kernel
theorem dd_90_70 : decode (am_b 90) 70 = .ok (.irem, 1) := by decide +kernel
theorem dd_90_71 : decode (am_b 90) 71 = .ok (.istore 7, 2) := by decide +kernel
theorem dd_90_73 : decode (am_b 90) 73 = .ok (.iload 4, 2) := by decide +kernel
theorem dd_90_75 : decode (am_b 90) 75 = .ok (.bipush 20, 2) := by decide +kernel
theorem dd_90_77 : decode (am_b 90) 77 = .ok (.iushr, 1) := by decide +kernel
theorem dd_90_78 : decode (am_b 90) 78 = .ok (.iconst 4, 1) := by decide +kernel
theorem dd_90_79 : decode (am_b 90) 79 = .ok (.irem, 1) := by decide +kernel
theorem dd_90_80 : decode (am_b 90) 80 = .ok (.ifCond .ne 14, 3) := by decide +kernel
theorem dd_90_83 : decode (am_b 90) 83 = .ok (.aload_n 0, 1) := by decide +kernel
theorem dd_90_84 : decode (am_b 90) 84 = .ok (.iload 7, 2) := by decide +kernel
theorem dd_90_86 : decode (am_b 90) 86 = .ok (.iload 4, 2) := by decide +kernel
theorem dd_90_88 : decode (am_b 90) 88 = .ok (.invokevirtual 187, 3) := by decide +kernel
theorem dd_90_91 : decode (am_b 90) 91 = .ok (.goto 14, 3) := by decide +kernel
theorem dd_90_94 : decode (am_b 90) 94 = .ok (.iload 5, 2) := by decide +kernel
theorem dd_90_96 : decode (am_b 90) 96 = .ok (.aload_n 0, 1) := by decide +kernel
theorem dd_90_97 : decode (am_b 90) 97 = .ok (.iload 7, 2) := by decide +kernel
theorem dd_90_99 : decode (am_b 90) 99 = .ok (.invokevirtual 184, 3) := by decide +kernel
theorem dd_90_102 : decode (am_b 90) 102 = .ok (.iadd, 1) := by decide +kernel
theorem dd_90_103 : decode (am_b 90) 103 = .ok (.istore 5, 2) := by decide +kernel
theorem dd_90_105 : decode (am_b 90) 105 = .ok (.iinc 6 1, 3) := by decide +kernel
theorem dd_90_108 : decode (am_b 90) 108 = .ok (.goto (-68), 3) := by decide +kernel
theorem dd_90_111 : decode (am_b 90) 111 = .ok (.iload 5, 2) := by decide +kernel
theorem dd_90_113 : decode (am_b 90) 113 = .ok (.ireturn, 1) := by decide +kernel
theorem sg_90_0 {sh : am_Sh} {C : Nat → am_M → List am_V → am_O → Prop} {P : am_S ⊕ am_O → Prop} {M : am_M} {x1 : Int32} {x2 : Int32} {x3 : Int32} {u4 : Option am_V} {u5 : Option am_V} {u6 : Option am_V} {u7 : Option am_V} {M1 : am_M} {r1 : Int32} (hc1 : C 62 M [am_I x2, am_I 0, am_I 200] (M1, Sum.inl (some (am_I r1)))) (k1 : r1 = 0 → am_ev sh C 90 (27, [some (am_R (some (20, 0, 0))), some (am_I x1), some (am_I x2), some (am_I x3), u4, u5, u6, u7], [am_R (some (20, 0, 0))], M1, 0) P) (k2 : ¬ r1 = 0 → am_ev sh C 90 (12, [some (am_R (some (20, 0, 0))), some (am_I x1), some (am_I x2), some (am_I x3), u4, u5, u6, u7], [am_R (some (20, 0, 0))], M1, 0) P) : am_ev sh C 90 (0, [some (am_R (some (20, 0, 0))), some (am_I x1), some (am_I x2), some (am_I x3), u4, u5, u6, u7], [], M, 0) P := by
  refine am_e_aload_n dd_90_0 rfl rfl ?_
  refine am_e_iload_n dd_90_1 rfl rfl ?_
  refine am_e_iconst (v := 0) dd_90_2 rfl rfl ?_
  refine am_e_sipush (v := 200) dd_90_3 (by decide) rfl ?_
  refine am_e_callS (c := 62) (k := 3) (as := [am_I x2, am_I 0, am_I 200]) (S' := [am_I r1, am_R (some (20, 0, 0))]) (v := some (am_I r1)) (M' := M1) (n' := 0) dd_90_6 (by decide +kernel) (by decide +kernel) ⟨Nat.le_of_ble_eq_true rfl, Nat.le_of_ble_eq_true rfl, by decide +kernel, (Or.inl rfl)⟩ rfl rfl (by decide +kernel) hc1 rfl ?_
  exact am_a_if_eq (tgt := 27) (pc' := 12) dd_90_9 rfl rfl k1 k2

theorem sg_90_12 {sh : am_Sh} {C : Nat → am_M → List am_V → am_O → Prop} {P : am_S ⊕ am_O → Prop} {M : am_M} {x1 : Int32} {x2 : Int32} {x3 : Int32} {u4 : Option am_V} {u5 : Option am_V} {u6 : Option am_V} {u7 : Option am_V} {M1 : am_M} {r1 : Int32} (hc1 : C 62 M [am_I x3, am_I 1, am_I 1024] (M1, Sum.inl (some (am_I r1)))) (k1 : r1 = 0 → am_ev sh C 90 (27, [some (am_R (some (20, 0, 0))), some (am_I x1), some (am_I x2), some (am_I x3), u4, u5, u6, u7], [am_R (some (20, 0, 0))], M1, 0) P) (k2 : ¬ r1 = 0 → am_ev sh C 90 (23, [some (am_R (some (20, 0, 0))), some (am_I x1), some (am_I x2), some (am_I x3), u4, u5, u6, u7], [am_R (some (20, 0, 0))], M1, 0) P) : am_ev sh C 90 (12, [some (am_R (some (20, 0, 0))), some (am_I x1), some (am_I x2), some (am_I x3), u4, u5, u6, u7], [am_R (some (20, 0, 0))], M, 0) P := by
  refine am_e_iload_n dd_90_12 rfl rfl ?_
  refine am_e_iconst (v := 1) dd_90_13 rfl rfl ?_
  refine am_e_sipush (v := 1024) dd_90_14 (by decide) rfl ?_
  refine am_e_callS (c := 62) (k := 3) (as := [am_I x3, am_I 1, am_I 1024]) (S' := [am_I r1, am_R (some (20, 0, 0))]) (v := some (am_I r1)) (M' := M1) (n' := 0) dd_90_17 (by decide +kernel) (by decide +kernel) ⟨Nat.le_of_ble_eq_true rfl, Nat.le_of_ble_eq_true rfl, by decide +kernel, (Or.inl rfl)⟩ rfl rfl (by decide +kernel) hc1 rfl ?_
  exact am_a_if_eq (tgt := 27) (pc' := 23) dd_90_20 rfl rfl k1 k2

theorem sg_90_23 {sh : am_Sh} {C : Nat → am_M → List am_V → am_O → Prop} {P : am_S ⊕ am_O → Prop} {M : am_M} {x1 : Int32} {x2 : Int32} {x3 : Int32} {u4 : Option am_V} {u5 : Option am_V} {u6 : Option am_V} {u7 : Option am_V}  (k : am_ev sh C 90 (28, [some (am_R (some (20, 0, 0))), some (am_I x1), some (am_I x2), some (am_I x3), u4, u5, u6, u7], [am_I 0, am_R (some (20, 0, 0))], M, 0) P) : am_ev sh C 90 (23, [some (am_R (some (20, 0, 0))), some (am_I x1), some (am_I x2), some (am_I x3), u4, u5, u6, u7], [am_R (some (20, 0, 0))], M, 0) P := by
  refine am_e_iconst (v := 0) dd_90_23 rfl rfl ?_
  refine am_e_goto (pc' := 28) dd_90_24 rfl ?_
  exact k

theorem sg_90_27 {sh : am_Sh} {C : Nat → am_M → List am_V → am_O → Prop} {P : am_S ⊕ am_O → Prop} {M : am_M} {x1 : Int32} {x2 : Int32} {x3 : Int32} {u4 : Option am_V} {u5 : Option am_V} {u6 : Option am_V} {u7 : Option am_V}  (k : am_ev sh C 90 (28, [some (am_R (some (20, 0, 0))), some (am_I x1), some (am_I x2), some (am_I x3), u4, u5, u6, u7], [am_I 1, am_R (some (20, 0, 0))], M, 0) P) : am_ev sh C 90 (27, [some (am_R (some (20, 0, 0))), some (am_I x1), some (am_I x2), some (am_I x3), u4, u5, u6, u7], [am_R (some (20, 0, 0))], M, 0) P := by
  refine am_e_iconst (v := 1) dd_90_27 rfl rfl ?_
  exact k

theorem sg_90_28 {sh : am_Sh} {C : Nat → am_M → List am_V → am_O → Prop} {P : am_S ⊕ am_O → Prop} {M : am_M} {x1 : Int32} {x2 : Int32} {x3 : Int32} {u4 : Option am_V} {u5 : Option am_V} {u6 : Option am_V} {u7 : Option am_V} {xs1 : Int32}  (k : am_ev sh C 90 (40, [some (am_R (some (20, 0, 0))), some (am_I x1), some (am_I x2), some (am_I x3), some (am_I x1), some (am_I 0), some (am_I 0), u7], [], (am_up M (20, 0, 0) 0 xs1), 0) P) : am_ev sh C 90 (28, [some (am_R (some (20, 0, 0))), some (am_I x1), some (am_I x2), some (am_I x3), u4, u5, u6, u7], [am_I xs1, am_R (some (20, 0, 0))], M, 0) P := by
  refine am_e_pf (ci := 3) (j := 0) dd_90_28 (by decide +kernel) rfl rfl (Or.inl rfl) rfl ?_
  refine am_e_iload_n dd_90_31 rfl rfl ?_
  refine am_e_istore dd_90_32 (Nat.le_of_ble_eq_true rfl) rfl rfl ?_
  refine am_e_iconst (v := 0) dd_90_34 rfl rfl ?_
  refine am_e_istore dd_90_35 (Nat.le_of_ble_eq_true rfl) rfl rfl ?_
  refine am_e_iconst (v := 0) dd_90_37 rfl rfl ?_
  refine am_e_istore dd_90_38 (Nat.le_of_ble_eq_true rfl) rfl rfl ?_
  exact k

theorem sg_90_40 {sh : am_Sh} {C : Nat → am_M → List am_V → am_O → Prop} {P : am_S ⊕ am_O → Prop} {M : am_M} {x1 : Int32} {x2 : Int32} {x3 : Int32} {x4 : Int32} {x5 : Int32} {x6 : Int32} {u7 : Option am_V}  (k1 : x2 ≤ x6 → am_ev sh C 90 (111, [some (am_R (some (20, 0, 0))), some (am_I x1), some (am_I x2), some (am_I x3), some (am_I x4), some (am_I x5), some (am_I x6), u7], [], M, 0) P) (k2 : ¬ x2 ≤ x6 → am_ev sh C 90 (46, [some (am_R (some (20, 0, 0))), some (am_I x1), some (am_I x2), some (am_I x3), some (am_I x4), some (am_I x5), some (am_I x6), u7], [], M, 0) P) : am_ev sh C 90 (40, [some (am_R (some (20, 0, 0))), some (am_I x1), some (am_I x2), some (am_I x3), some (am_I x4), some (am_I x5), some (am_I x6), u7], [], M, 0) P := by
  refine am_e_iload dd_90_40 rfl rfl ?_
  refine am_e_iload_n dd_90_42 rfl rfl ?_
  exact am_a_icmp_ge (tgt := 111) (pc' := 46) dd_90_43 rfl rfl k1 k2

theorem sg_90_46 {sh : am_Sh} {C : Nat → am_M → List am_V → am_O → Prop} {P : am_S ⊕ am_O → Prop} {M : am_M} {x1 : Int32} {x2 : Int32} {x3 : Int32} {x4 : Int32} {x5 : Int32} {x6 : Int32} {u7 : Option am_V}  (k1 : ¬ (M (20, 0, 0) 0) = 0 → am_ev sh C 90 (111, [some (am_R (some (20, 0, 0))), some (am_I x1), some (am_I x2), some (am_I x3), some (am_I x4), some (am_I x5), some (am_I x6), u7], [], M, 0) P) (k2 : (M (20, 0, 0) 0) = 0 → am_ev sh C 90 (53, [some (am_R (some (20, 0, 0))), some (am_I x1), some (am_I x2), some (am_I x3), some (am_I x4), some (am_I x5), some (am_I x6), u7], [], M, 0) P) : am_ev sh C 90 (46, [some (am_R (some (20, 0, 0))), some (am_I x1), some (am_I x2), some (am_I x3), some (am_I x4), some (am_I x5), some (am_I x6), u7], [], M, 0) P := by
  refine am_e_aload_n dd_90_46 rfl rfl ?_
  refine am_e_gf (ci := 3) (j := 0) (v := am_I (M (20, 0, 0) 0)) dd_90_47 (by decide +kernel) rfl rfl rfl ?_
  exact am_a_if_ne (tgt := 111) (pc' := 53) dd_90_50 rfl rfl k1 k2

theorem sg_90_53 {sh : am_Sh} {C : Nat → am_M → List am_V → am_O → Prop} {P : am_S ⊕ am_O → Prop} {M : am_M} {x1 : Int32} {x2 : Int32} {x3 : Int32} {x4 : Int32} {x5 : Int32} {x6 : Int32} {u7 : Option am_V} (hd1 : ¬ x3 = 0) (k1 : ¬ (((((1103515245 * x4) + 12345).toUInt32 >>> ((20 : Int32).toUInt32 &&& Int32.toUInt32 31)).toInt32) - ((((1103515245 * x4) + 12345).toUInt32 >>> ((20 : Int32).toUInt32 &&& Int32.toUInt32 31)).toInt32) / 4 * 4) = 0 → am_ev sh C 90 (94, [some (am_R (some (20, 0, 0))), some (am_I x1), some (am_I x2), some (am_I x3), some (am_I ((1103515245 * x4) + 12345)), some (am_I x5), some (am_I x6), some (am_I (((((1103515245 * x4) + 12345).toUInt32 >>> ((8 : Int32).toUInt32 &&& Int32.toUInt32 31)).toInt32) - ((((1103515245 * x4) + 12345).toUInt32 >>> ((8 : Int32).toUInt32 &&& Int32.toUInt32 31)).toInt32) / x3 * x3))], [], M, 0) P) (k2 : (((((1103515245 * x4) + 12345).toUInt32 >>> ((20 : Int32).toUInt32 &&& Int32.toUInt32 31)).toInt32) - ((((1103515245 * x4) + 12345).toUInt32 >>> ((20 : Int32).toUInt32 &&& Int32.toUInt32 31)).toInt32) / 4 * 4) = 0 → am_ev sh C 90 (83, [some (am_R (some (20, 0, 0))), some (am_I x1), some (am_I x2), some (am_I x3), some (am_I ((1103515245 * x4) + 12345)), some (am_I x5), some (am_I x6), some (am_I (((((1103515245 * x4) + 12345).toUInt32 >>> ((8 : Int32).toUInt32 &&& Int32.toUInt32 31)).toInt32) - ((((1103515245 * x4) + 12345).toUInt32 >>> ((8 : Int32).toUInt32 &&& Int32.toUInt32 31)).toInt32) / x3 * x3))], [], M, 0) P) : am_ev sh C 90 (53, [some (am_R (some (20, 0, 0))), some (am_I x1), some (am_I x2), some (am_I x3), some (am_I x4), some (am_I x5), some (am_I x6), u7], [], M, 0) P := by
  refine am_e_ldc (v := 1103515245) dd_90_53 (by decide +kernel) rfl ?_
  refine am_e_iload dd_90_55 rfl rfl ?_
  refine am_e_imul dd_90_57 rfl ?_
  refine am_e_sipush (v := 12345) dd_90_58 (by decide) rfl ?_
  refine am_e_iadd dd_90_61 rfl ?_
  refine am_e_istore dd_90_62 (Nat.le_of_ble_eq_true rfl) rfl rfl ?_
  refine am_e_iload dd_90_64 rfl rfl ?_
  refine am_e_bipush (v := 8) dd_90_66 (by decide) rfl ?_
  refine am_e_iushr dd_90_68 rfl ?_
  refine am_e_iload_n dd_90_69 rfl rfl ?_
  refine am_e_irem dd_90_70 hd1 rfl ?_
  refine am_e_istore dd_90_71 (Nat.le_of_ble_eq_true rfl) rfl rfl ?_
  refine am_e_iload dd_90_73 rfl rfl ?_
  refine am_e_bipush (v := 20) dd_90_75 (by decide) rfl ?_
  refine am_e_iushr dd_90_77 rfl ?_
  refine am_e_iconst (v := 4) dd_90_78 rfl rfl ?_
  refine am_e_irem dd_90_79 (by decide) rfl ?_
  exact am_a_if_ne (tgt := 94) (pc' := 83) dd_90_80 rfl rfl k1 k2

theorem sg_90_83 {sh : am_Sh} {C : Nat → am_M → List am_V → am_O → Prop} {P : am_S ⊕ am_O → Prop} {M : am_M} {x1 : Int32} {x2 : Int32} {x3 : Int32} {x4 : Int32} {x5 : Int32} {x6 : Int32} {x7 : Int32} {M1 : am_M} (hc1 : C 88 M [am_R (some (20, 0, 0)), am_I x7, am_I x4] (M1, Sum.inl none)) (k : am_ev sh C 90 (105, [some (am_R (some (20, 0, 0))), some (am_I x1), some (am_I x2), some (am_I x3), some (am_I x4), some (am_I x5), some (am_I x6), some (am_I x7)], [], M1, 0) P) : am_ev sh C 90 (83, [some (am_R (some (20, 0, 0))), some (am_I x1), some (am_I x2), some (am_I x3), some (am_I x4), some (am_I x5), some (am_I x6), some (am_I x7)], [], M, 0) P := by
  refine am_e_aload_n dd_90_83 rfl rfl ?_
  refine am_e_iload dd_90_84 rfl rfl ?_
  refine am_e_iload dd_90_86 rfl rfl ?_
  refine am_e_callV (c := 88) (k := 3) (as := [am_R (some (20, 0, 0)), am_I x7, am_I x4]) (S' := []) (v := none) (M' := M1) (n' := 0) dd_90_88 (by decide +kernel) ⟨Nat.le_of_ble_eq_true rfl, Nat.le_of_ble_eq_true rfl, by decide +kernel, (Or.inr (am_rcv_of rfl))⟩ rfl rfl (by decide +kernel) hc1 rfl ?_
  refine am_e_goto (pc' := 105) dd_90_91 rfl ?_
  exact k

theorem sg_90_94 {sh : am_Sh} {C : Nat → am_M → List am_V → am_O → Prop} {P : am_S ⊕ am_O → Prop} {M : am_M} {x1 : Int32} {x2 : Int32} {x3 : Int32} {x4 : Int32} {x5 : Int32} {x6 : Int32} {x7 : Int32} {M1 : am_M} {r1 : Int32} (hc1 : C 64 M [am_R (some (20, 0, 0)), am_I x7] (M1, Sum.inl (some (am_I r1)))) (k : am_ev sh C 90 (105, [some (am_R (some (20, 0, 0))), some (am_I x1), some (am_I x2), some (am_I x3), some (am_I x4), some (am_I (x5 + r1)), some (am_I x6), some (am_I x7)], [], M1, 0) P) : am_ev sh C 90 (94, [some (am_R (some (20, 0, 0))), some (am_I x1), some (am_I x2), some (am_I x3), some (am_I x4), some (am_I x5), some (am_I x6), some (am_I x7)], [], M, 0) P := by
  refine am_e_iload dd_90_94 rfl rfl ?_
  refine am_e_aload_n dd_90_96 rfl rfl ?_
  refine am_e_iload dd_90_97 rfl rfl ?_
  refine am_e_callV (c := 64) (k := 2) (as := [am_R (some (20, 0, 0)), am_I x7]) (S' := [am_I r1, am_I x5]) (v := some (am_I r1)) (M' := M1) (n' := 0) dd_90_99 (by decide +kernel) ⟨Nat.le_of_ble_eq_true rfl, Nat.le_of_ble_eq_true rfl, by decide +kernel, (Or.inr (am_rcv_of rfl))⟩ rfl rfl (by decide +kernel) hc1 rfl ?_
  refine am_e_iadd dd_90_102 rfl ?_
  refine am_e_istore dd_90_103 (Nat.le_of_ble_eq_true rfl) rfl rfl ?_
  exact k

theorem sg_90_105 {sh : am_Sh} {C : Nat → am_M → List am_V → am_O → Prop} {P : am_S ⊕ am_O → Prop} {M : am_M} {x1 : Int32} {x2 : Int32} {x3 : Int32} {x4 : Int32} {x5 : Int32} {x6 : Int32} {x7 : Int32}  (k : am_ev sh C 90 (40, [some (am_R (some (20, 0, 0))), some (am_I x1), some (am_I x2), some (am_I x3), some (am_I x4), some (am_I x5), some (am_I (x6 + 1)), some (am_I x7)], [], M, 0) P) : am_ev sh C 90 (105, [some (am_R (some (20, 0, 0))), some (am_I x1), some (am_I x2), some (am_I x3), some (am_I x4), some (am_I x5), some (am_I x6), some (am_I x7)], [], M, 0) P := by
  refine am_e_iinc (v := x6 + 1) dd_90_105 rfl rfl rfl rfl ?_
  refine am_e_goto (pc' := 40) dd_90_108 rfl ?_
  exact k

theorem sg_90_111 {sh : am_Sh} {C : Nat → am_M → List am_V → am_O → Prop} {P : am_S ⊕ am_O → Prop} {M : am_M} {x1 : Int32} {x2 : Int32} {x3 : Int32} {x4 : Int32} {x5 : Int32} {x6 : Int32} {u7 : Option am_V}  (k : P (Sum.inr (M, Sum.inl (some (am_I x5))))) : am_ev sh C 90 (111, [some (am_R (some (20, 0, 0))), some (am_I x1), some (am_I x2), some (am_I x3), some (am_I x4), some (am_I x5), some (am_I x6), u7], [], M, 0) P := by
  refine am_e_iload dd_90_111 rfl rfl ?_
  exact am_e_iret dd_90_113 (by decide +kernel) (Or.inl rfl) k

