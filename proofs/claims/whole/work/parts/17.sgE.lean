-- 44: CacheLadder.writeWord(II)V
theorem dd_44_0 : decode (am_b 44) 0 = .ok (.aload_n 0, 1) := by decide +kernel
theorem dd_44_1 : decode (am_b 44) 1 = .ok (.iconst 1, 1) := by decide +kernel
theorem dd_44_2 : decode (am_b 44) 2 = .ok (.putfield 47, 3) := by decide +kernel
theorem dd_44_5 : decode (am_b 44) 5 = .ok (.aload_n 0, 1) := by decide +kernel
theorem dd_44_6 : decode (am_b 44) 6 = .ok (.getfield 22, 3) := by decide +kernel
theorem dd_44_9 : decode (am_b 44) 9 = .ok (.iload_n 1, 1) := by decide +kernel
theorem dd_44_10 : decode (am_b 44) 10 = .ok (.iconst 4, 1) := by decide +kernel
theorem dd_44_11 : decode (am_b 44) 11 = .ok (.irem, 1) := by decide +kernel
theorem dd_44_12 : decode (am_b 44) 12 = .ok (.iload_n 2, 1) := by decide +kernel
theorem dd_44_13 : decode (am_b 44) 13 = .ok (.iastore, 1) := by decide +kernel
theorem dd_44_14 : decode (am_b 44) 14 = .ok (.aload_n 0, 1) := by decide +kernel
theorem dd_44_15 : decode (am_b 44) 15 = .ok (.iconst 0, 1) := by decide +kernel
theorem dd_44_16 : decode (am_b 44) 16 = .ok (.iload_n 1, 1) := by decide +kernel
theorem dd_44_17 : decode (am_b 44) 17 = .ok (.invokestatic 78, 3) := by decide +kernel
theorem dd_44_20 : decode (am_b 44) 20 = .ok (.iconst 1, 1) := by decide +kernel
theorem dd_44_21 : decode (am_b 44) 21 = .ok (.iload_n 1, 1) := by decide +kernel
theorem dd_44_22 : decode (am_b 44) 22 = .ok (.iconst 4, 1) := by decide +kernel
theorem dd_44_23 : decode (am_b 44) 23 = .ok (.irem, 1) := by decide +kernel
theorem dd_44_24 : decode (am_b 44) 24 = .ok (.ishl, 1) := by decide +kernel
theorem dd_44_25 : decode (am_b 44) 25 = .ok (.aload_n 0, 1) := by decide +kernel
theorem dd_44_26 : decode (am_b 44) 26 = .ok (.getfield 22, 3) := by decide +kernel
theorem dd_44_29 : decode (am_b 44) 29 = .ok (.invokevirtual 81, 3) := by decide +kernel
theorem dd_44_32 : decode (am_b 44) 32 = .ok (.return_, 1) := by decide +kernel
theorem sg_44_0 {sh : am_Sh} {C : Nat → am_M → List am_V → am_O → Prop} {P : am_S ⊕ am_O → Prop} {M : am_M} {x1 : Int32} {x2 : Int32} {j1 : Nat} {M1 : am_M} {r1 : Int32} {M2 : am_M} (hx_j1 : x1 - x1 / 4 * 4 = nI j1) (hl_j1 : j1 < 4) (hc1 : C 30 (am_up (am_up M (0, 0, 0) 7 1) (4, 0, 0) j1 x2) [am_I x1] (M1, Sum.inl (some (am_I r1)))) (hc2 : C 39 M1 [am_R (some (0, 0, 0)), am_I 0, am_I r1, am_I ((1 : Int32) <<< ((x1 - x1 / 4 * 4) &&& 31)), am_R (some (4, 0, 0))] (M2, Sum.inl none)) (k : P (Sum.inr (M2, Sum.inl none))) : am_ev sh C 44 (0, [some (am_R (some (0, 0, 0))), some (am_I x1), some (am_I x2)], [], M, 0) P := by
  refine am_e_aload_n dd_44_0 rfl rfl ?_
  refine am_e_iconst (v := 1) dd_44_1 rfl rfl ?_
  refine am_e_pf (ci := 2) (j := 7) dd_44_2 (by decide +kernel) rfl rfl (Or.inr ⟨rfl, Or.inr rfl⟩) rfl ?_
  refine am_e_aload_n dd_44_5 rfl rfl ?_
  refine am_e_gf (ci := 2) (j := 3) (v := am_R (some (4, 0, 0))) dd_44_6 (by decide +kernel) rfl rfl rfl ?_
  refine am_e_iload_n dd_44_9 rfl rfl ?_
  refine am_e_iconst (v := 4) dd_44_10 rfl rfl ?_
  refine am_e_irem dd_44_11 (by decide) rfl ?_
  refine am_e_iload_n dd_44_12 rfl rfl ?_
  refine am_a_iast dd_44_13 rfl hx_j1 hl_j1 (by decide) rfl ?_
  refine am_e_aload_n dd_44_14 rfl rfl ?_
  refine am_e_iconst (v := 0) dd_44_15 rfl rfl ?_
  refine am_e_iload_n dd_44_16 rfl rfl ?_
  refine am_e_callS (c := 30) (k := 1) (as := [am_I x1]) (S' := [am_I r1, am_I 0, am_R (some (0, 0, 0))]) (v := some (am_I r1)) (M' := M1) (n' := 0) dd_44_17 (by decide +kernel) (by decide +kernel) ⟨Nat.le_of_ble_eq_true rfl, Nat.le_of_ble_eq_true rfl, by decide +kernel, (Or.inl rfl)⟩ rfl rfl (by decide +kernel) hc1 rfl ?_
  refine am_e_iconst (v := 1) dd_44_20 rfl rfl ?_
  refine am_e_iload_n dd_44_21 rfl rfl ?_
  refine am_e_iconst (v := 4) dd_44_22 rfl rfl ?_
  refine am_e_irem dd_44_23 (by decide) rfl ?_
  refine am_e_ishl dd_44_24 rfl ?_
  refine am_e_aload_n dd_44_25 rfl rfl ?_
  refine am_e_gf (ci := 2) (j := 3) (v := am_R (some (4, 0, 0))) dd_44_26 (by decide +kernel) rfl rfl rfl ?_
  refine am_e_callV (c := 39) (k := 5) (as := [am_R (some (0, 0, 0)), am_I 0, am_I r1, am_I ((1 : Int32) <<< ((x1 - x1 / 4 * 4) &&& 31)), am_R (some (4, 0, 0))]) (S' := []) (v := none) (M' := M2) (n' := 0) dd_44_29 (by decide +kernel) ⟨Nat.le_of_ble_eq_true rfl, Nat.le_of_ble_eq_true rfl, by decide +kernel, (Or.inr (am_rcv_of rfl))⟩ rfl rfl (by decide +kernel) hc2 rfl ?_
  exact am_e_vret dd_44_32 (by decide +kernel) rfl k

-- 45: CacheLadder.fill(IIII)V
theorem dd_45_0 : decode (am_b 45) 0 = .ok (.iload_n 2, 1) := by decide +kernel
theorem dd_45_1 : decode (am_b 45) 1 = .ok (.iconst 1, 1) := by decide +kernel
theorem dd_45_2 : decode (am_b 45) 2 = .ok (.if_icmp .ge 13, 3) := by decide +kernel
theorem dd_45_5 : decode (am_b 45) 5 = .ok (.new 29, 3) := by decide +kernel
theorem dd_45_15 : decode (am_b 45) 15 = .ok (.iload_n 1, 1) := by decide +kernel
theorem dd_45_16 : decode (am_b 45) 16 = .ok (.invokestatic 59, 3) := by decide +kernel
theorem dd_45_19 : decode (am_b 45) 19 = .ok (.iload_n 2, 1) := by decide +kernel
theorem dd_45_20 : decode (am_b 45) 20 = .ok (.sipush 1024, 3) := by decide +kernel
theorem dd_45_23 : decode (am_b 45) 23 = .ok (.iload_n 1, 1) := by decide +kernel
theorem dd_45_24 : decode (am_b 45) 24 = .ok (.isub, 1) := by decide +kernel
theorem dd_45_25 : decode (am_b 45) 25 = .ok (.if_icmp .le 13, 3) := by decide +kernel
theorem dd_45_28 : decode (am_b 45) 28 = .ok (.new 73, 3) := by decide +kernel
theorem dd_45_38 : decode (am_b 45) 38 = .ok (.aload_n 0, 1) := by decide +kernel
theorem dd_45_39 : decode (am_b 45) 39 = .ok (.iconst 1, 1) := by decide +kernel
theorem dd_45_40 : decode (am_b 45) 40 = .ok (.putfield 47, 3) := by decide +kernel
theorem dd_45_43 : decode (am_b 45) 43 = .ok (.iload_n 1, 1) := by decide +kernel
theorem dd_45_44 : decode (am_b 45) 44 = .ok (.iload_n 2, 1) := by decide +kernel
theorem dd_45_45 : decode (am_b 45) 45 = .ok (.iadd, 1) := by decide +kernel
theorem dd_45_46 : decode (am_b 45) 46 = .ok (.iconst 1, 1) := by decide +kernel
theorem dd_45_47 : decode (am_b 45) 47 = .ok (.isub, 1) := by decide +kernel
theorem dd_45_48 : decode (am_b 45) 48 = .ok (.istore 5, 2) := by decide +kernel
theorem dd_45_50 : decode (am_b 45) 50 = .ok (.iload_n 1, 1) := by decide +kernel
theorem dd_45_51 : decode (am_b 45) 51 = .ok (.invokestatic 78, 3) := by decide +kernel
theorem dd_45_54 : decode (am_b 45) 54 = .ok (.istore 6, 2) := by decide +kernel
theorem dd_45_56 : decode (am_b 45) 56 = .ok (.iload 6, 2) := by decide +kernel
theorem dd_45_58 : decode (am_b 45) 58 = .ok (.iload 5, 2) := by decide +kernel
theorem dd_45_60 : decode (am_b 45) 60 = .ok (.invokestatic 78, 3) := by decide +kernel
theorem dd_45_63 : decode (am_b 45) 63 = .ok (.if_icmp .gt 87, 3) := by decide +kernel
theorem dd_45_66 : decode (am_b 45) 66 = .ok (.iconst 0, 1) := by decide +kernel
theorem dd_45_67 : decode (am_b 45) 67 = .ok (.istore 7, 2) := by decide +kernel
theorem dd_45_69 : decode (am_b 45) 69 = .ok (.iconst 0, 1) := by decide +kernel
theorem dd_45_70 : decode (am_b 45) 70 = .ok (.istore 8, 2) := by decide +kernel
theorem dd_45_72 : decode (am_b 45) 72 = .ok (.iload 8, 2) := by decide +kernel
theorem dd_45_74 : decode (am_b 45) 74 = .ok (.iconst 4, 1) := by decide +kernel
theorem dd_45_75 : decode (am_b 45) 75 = .ok (.if_icmp .ge 56, 3) := by decide +kernel
theorem dd_45_78 : decode (am_b 45) 78 = .ok (.iload 6, 2) := by decide +kernel
theorem dd_45_80 : decode (am_b 45) 80 = .ok (.iconst 4, 1) := by decide +kernel
theorem dd_45_81 : decode (am_b 45) 81 = .ok (.imul, 1) := by decide +kernel
theorem dd_45_82 : decode (am_b 45) 82 = .ok (.iload 8, 2) := by decide +kernel
theorem dd_45_84 : decode (am_b 45) 84 = .ok (.iadd, 1) := by decide +kernel
theorem dd_45_85 : decode (am_b 45) 85 = .ok (.istore 9, 2) := by decide +kernel
theorem dd_45_87 : decode (am_b 45) 87 = .ok (.iload 9, 2) := by decide +kernel
theorem dd_45_89 : decode (am_b 45) 89 = .ok (.iload_n 1, 1) := by decide +kernel
theorem dd_45_90 : decode (am_b 45) 90 = .ok (.if_icmp .lt 35, 3) := by decide +kernel
theorem dd_45_93 : decode (am_b 45) 93 = .ok (.iload 9, 2) := by decide +kernel
theorem dd_45_95 : decode (am_b 45) 95 = .ok (.iload 5, 2) := by decide +kernel
theorem dd_45_97 : decode (am_b 45) 97 = .ok (.if_icmp .gt 28, 3) := by decide +kernel
theorem dd_45_100 : decode (am_b 45) 100 = .ok (.iload 7, 2) := by decide +kernel
theorem dd_45_102 : decode (am_b 45) 102 = .ok (.iconst 1, 1) := by decide +kernel
theorem dd_45_103 : decode (am_b 45) 103 = .ok (.iload 8, 2) := by decide +kernel
theorem dd_45_105 : decode (am_b 45) 105 = .ok (.ishl, 1) := by decide +kernel
theorem dd_45_106 : decode (am_b 45) 106 = .ok (.ior, 1) := by decide +kernel
theorem dd_45_107 : decode (am_b 45) 107 = .ok (.istore 7, 2) := by decide +kernel
theorem dd_45_109 : decode (am_b 45) 109 = .ok (.aload_n 0, 1) := by decide +kernel
theorem dd_45_110 : decode (am_b 45) 110 = .ok (.getfield 22, 3) := by decide +kernel
theorem dd_45_113 : decode (am_b 45) 113 = .ok (.iload 8, 2) := by decide +kernel
theorem dd_45_115 : decode (am_b 45) 115 = .ok (.iload_n 3, 1) := by decide +kernel
theorem dd_45_116 : decode (am_b 45) 116 = .ok (.iload 9, 2) := by decide +kernel
theorem dd_45_118 : decode (am_b 45) 118 = .ok (.iload_n 1, 1) := by decide +kernel
theorem dd_45_119 : decode (am_b 45) 119 = .ok (.isub, 1) := by decide +kernel
theorem dd_45_120 : decode (am_b 45) 120 = .ok (.iload 4, 2) := by decide +kernel
theorem dd_45_122 : decode (am_b 45) 122 = .ok (.imul, 1) := by decide +kernel
theorem dd_45_123 : decode (am_b 45) 123 = .ok (.iadd, 1) := by decide +kernel
theorem dd_45_124 : decode (am_b 45) 124 = .ok (.iastore, 1) := by decide +kernel
theorem dd_45_125 : decode (am_b 45) 125 = .ok (.iinc 8 1, 3) := by decide +kernel
theorem dd_45_128 : decode (am_b 45) 128 = .ok (.goto (-56), 3) := by decide +kernel
theorem dd_45_131 : decode (am_b 45) 131 = .ok (.aload_n 0, 1) := by decide +kernel
theorem dd_45_132 : decode (am_b 45) 132 = .ok (.iconst 0, 1) := by decide +kernel
theorem dd_45_133 : decode (am_b 45) 133 = .ok (.iload 6, 2) := by decide +kernel
theorem dd_45_135 : decode (am_b 45) 135 = .ok (.iload 7, 2) := by decide +kernel
theorem dd_45_137 : decode (am_b 45) 137 = .ok (.aload_n 0, 1) := by decide +kernel
theorem dd_45_138 : decode (am_b 45) 138 = .ok (.getfield 22, 3) := by decide +kernel
theorem dd_45_141 : decode (am_b 45) 141 = .ok (.invokevirtual 81, 3) := by decide +kernel
theorem dd_45_144 : decode (am_b 45) 144 = .ok (.iinc 6 1, 3) := by decide +kernel
theorem dd_45_147 : decode (am_b 45) 147 = .ok (.goto (-91), 3) := by decide +kernel
theorem dd_45_150 : decode (am_b 45) 150 = .ok (.return_, 1) := by decide +kernel
theorem sg_45_0 {sh : am_Sh} {C : Nat → am_M → List am_V → am_O → Prop} {P : am_S ⊕ am_O → Prop} {M : am_M} {x1 : Int32} {x2 : Int32} {x3 : Int32} {x4 : Int32} {u5 : Option am_V} {u6 : Option am_V} {u7 : Option am_V} {u8 : Option am_V} {u9 : Option am_V}  (k1 : 1 ≤ x2 → am_ev sh C 45 (15, [some (am_R (some (0, 0, 0))), some (am_I x1), some (am_I x2), some (am_I x3), some (am_I x4), u5, u6, u7, u8, u9], [], M, 0) P) (k2 : ¬ 1 ≤ x2 → am_ev sh C 45 (5, [some (am_R (some (0, 0, 0))), some (am_I x1), some (am_I x2), some (am_I x3), some (am_I x4), u5, u6, u7, u8, u9], [], M, 0) P) : am_ev sh C 45 (0, [some (am_R (some (0, 0, 0))), some (am_I x1), some (am_I x2), some (am_I x3), some (am_I x4), u5, u6, u7, u8, u9], [], M, 0) P := by
  refine am_e_iload_n dd_45_0 rfl rfl ?_
  refine am_e_iconst (v := 1) dd_45_1 rfl rfl ?_
  exact am_a_icmp_ge (tgt := 15) (pc' := 5) dd_45_2 rfl rfl k1 k2

theorem sg_45_5 {sh : am_Sh} {C : Nat → am_M → List am_V → am_O → Prop} {P : am_S ⊕ am_O → Prop} {M : am_M} {x1 : Int32} {x2 : Int32} {x3 : Int32} {x4 : Int32} {u5 : Option am_V} {u6 : Option am_V} {u7 : Option am_V} {u8 : Option am_V} {u9 : Option am_V}  (k : P (Sum.inr (M, Sum.inr 0))) : am_ev sh C 45 (5, [some (am_R (some (0, 0, 0))), some (am_I x1), some (am_I x2), some (am_I x3), some (am_I x4), u5, u6, u7, u8, u9], [], M, 0) P := by
  exact am_e_throw (x := 0) dd_45_5 (by decide +kernel) (by decide +kernel) k

theorem sg_45_15 {sh : am_Sh} {C : Nat → am_M → List am_V → am_O → Prop} {P : am_S ⊕ am_O → Prop} {M : am_M} {x1 : Int32} {x2 : Int32} {x3 : Int32} {x4 : Int32} {u5 : Option am_V} {u6 : Option am_V} {u7 : Option am_V} {u8 : Option am_V} {u9 : Option am_V} {M1 : am_M} (hc1 : C 28 M [am_I x1] (M1, Sum.inl none)) (k1 : x2 ≤ (1024 - x1) → am_ev sh C 45 (38, [some (am_R (some (0, 0, 0))), some (am_I x1), some (am_I x2), some (am_I x3), some (am_I x4), u5, u6, u7, u8, u9], [], M1, 1) P) (k2 : ¬ x2 ≤ (1024 - x1) → am_ev sh C 45 (28, [some (am_R (some (0, 0, 0))), some (am_I x1), some (am_I x2), some (am_I x3), some (am_I x4), u5, u6, u7, u8, u9], [], M1, 1) P) : am_ev sh C 45 (15, [some (am_R (some (0, 0, 0))), some (am_I x1), some (am_I x2), some (am_I x3), some (am_I x4), u5, u6, u7, u8, u9], [], M, 0) P := by
  refine am_e_iload_n dd_45_15 rfl rfl ?_
  refine am_e_callS (c := 28) (k := 1) (as := [am_I x1]) (S' := []) (v := none) (M' := M1) (n' := 1) dd_45_16 (by decide +kernel) (by decide +kernel) ⟨Nat.le_of_ble_eq_true rfl, Nat.le_of_ble_eq_true rfl, by decide +kernel, (Or.inl rfl)⟩ rfl rfl (by decide +kernel) hc1 rfl ?_
  refine am_e_iload_n dd_45_19 rfl rfl ?_
  refine am_e_sipush (v := 1024) dd_45_20 (by decide) rfl ?_
  refine am_e_iload_n dd_45_23 rfl rfl ?_
  refine am_e_isub dd_45_24 rfl ?_
  exact am_a_icmp_le (tgt := 38) (pc' := 28) dd_45_25 rfl rfl k1 k2

theorem sg_45_28 {sh : am_Sh} {C : Nat → am_M → List am_V → am_O → Prop} {P : am_S ⊕ am_O → Prop} {M : am_M} {x1 : Int32} {x2 : Int32} {x3 : Int32} {x4 : Int32} {u5 : Option am_V} {u6 : Option am_V} {u7 : Option am_V} {u8 : Option am_V} {u9 : Option am_V}  (k : P (Sum.inr (M, Sum.inr 3))) : am_ev sh C 45 (28, [some (am_R (some (0, 0, 0))), some (am_I x1), some (am_I x2), some (am_I x3), some (am_I x4), u5, u6, u7, u8, u9], [], M, 1) P := by
  exact am_e_throw (x := 3) dd_45_28 (by decide +kernel) (by decide +kernel) k

theorem sg_45_38 {sh : am_Sh} {C : Nat → am_M → List am_V → am_O → Prop} {P : am_S ⊕ am_O → Prop} {M : am_M} {x1 : Int32} {x2 : Int32} {x3 : Int32} {x4 : Int32} {u5 : Option am_V} {u6 : Option am_V} {u7 : Option am_V} {u8 : Option am_V} {u9 : Option am_V} {M1 : am_M} {r1 : Int32} (hc1 : C 30 (am_up M (0, 0, 0) 7 1) [am_I x1] (M1, Sum.inl (some (am_I r1)))) (k : am_ev sh C 45 (56, [some (am_R (some (0, 0, 0))), some (am_I x1), some (am_I x2), some (am_I x3), some (am_I x4), some (am_I ((x1 + x2) - 1)), some (am_I r1), u7, u8, u9], [], M1, 1) P) : am_ev sh C 45 (38, [some (am_R (some (0, 0, 0))), some (am_I x1), some (am_I x2), some (am_I x3), some (am_I x4), u5, u6, u7, u8, u9], [], M, 1) P := by
  refine am_e_aload_n dd_45_38 rfl rfl ?_
  refine am_e_iconst (v := 1) dd_45_39 rfl rfl ?_
  refine am_e_pf (ci := 2) (j := 7) dd_45_40 (by decide +kernel) rfl rfl (Or.inr ⟨rfl, Or.inr rfl⟩) rfl ?_
  refine am_e_iload_n dd_45_43 rfl rfl ?_
  refine am_e_iload_n dd_45_44 rfl rfl ?_
  refine am_e_iadd dd_45_45 rfl ?_
  refine am_e_iconst (v := 1) dd_45_46 rfl rfl ?_
  refine am_e_isub dd_45_47 rfl ?_
  refine am_e_istore dd_45_48 (Nat.le_of_ble_eq_true rfl) rfl rfl ?_
  refine am_e_iload_n dd_45_50 rfl rfl ?_
  refine am_e_callS (c := 30) (k := 1) (as := [am_I x1]) (S' := [am_I r1]) (v := some (am_I r1)) (M' := M1) (n' := 1) dd_45_51 (by decide +kernel) (by decide +kernel) ⟨Nat.le_of_ble_eq_true rfl, Nat.le_of_ble_eq_true rfl, by decide +kernel, (Or.inl rfl)⟩ rfl rfl (by decide +kernel) hc1 rfl ?_
  refine am_e_istore dd_45_54 (Nat.le_of_ble_eq_true rfl) rfl rfl ?_
  exact k

theorem sg_45_56 {sh : am_Sh} {C : Nat → am_M → List am_V → am_O → Prop} {P : am_S ⊕ am_O → Prop} {M : am_M} {x1 : Int32} {x2 : Int32} {x3 : Int32} {x4 : Int32} {x5 : Int32} {x6 : Int32} {u7 : Option am_V} {u8 : Option am_V} {u9 : Option am_V} {M1 : am_M} {r1 : Int32} (hc1 : C 30 M [am_I x5] (M1, Sum.inl (some (am_I r1)))) (k1 : r1 < x6 → am_ev sh C 45 (150, [some (am_R (some (0, 0, 0))), some (am_I x1), some (am_I x2), some (am_I x3), some (am_I x4), some (am_I x5), some (am_I x6), u7, u8, u9], [], M1, 1) P) (k2 : ¬ r1 < x6 → am_ev sh C 45 (66, [some (am_R (some (0, 0, 0))), some (am_I x1), some (am_I x2), some (am_I x3), some (am_I x4), some (am_I x5), some (am_I x6), u7, u8, u9], [], M1, 1) P) : am_ev sh C 45 (56, [some (am_R (some (0, 0, 0))), some (am_I x1), some (am_I x2), some (am_I x3), some (am_I x4), some (am_I x5), some (am_I x6), u7, u8, u9], [], M, 1) P := by
  refine am_e_iload dd_45_56 rfl rfl ?_
  refine am_e_iload dd_45_58 rfl rfl ?_
  refine am_e_callS (c := 30) (k := 1) (as := [am_I x5]) (S' := [am_I r1, am_I x6]) (v := some (am_I r1)) (M' := M1) (n' := 1) dd_45_60 (by decide +kernel) (by decide +kernel) ⟨Nat.le_of_ble_eq_true rfl, Nat.le_of_ble_eq_true rfl, by decide +kernel, (Or.inl rfl)⟩ rfl rfl (by decide +kernel) hc1 rfl ?_
  exact am_a_icmp_gt (tgt := 150) (pc' := 66) dd_45_63 rfl rfl k1 k2

theorem sg_45_66 {sh : am_Sh} {C : Nat → am_M → List am_V → am_O → Prop} {P : am_S ⊕ am_O → Prop} {M : am_M} {x1 : Int32} {x2 : Int32} {x3 : Int32} {x4 : Int32} {x5 : Int32} {x6 : Int32} {u7 : Option am_V} {u8 : Option am_V} {u9 : Option am_V}  (k : am_ev sh C 45 (72, [some (am_R (some (0, 0, 0))), some (am_I x1), some (am_I x2), some (am_I x3), some (am_I x4), some (am_I x5), some (am_I x6), some (am_I 0), some (am_I 0), u9], [], M, 1) P) : am_ev sh C 45 (66, [some (am_R (some (0, 0, 0))), some (am_I x1), some (am_I x2), some (am_I x3), some (am_I x4), some (am_I x5), some (am_I x6), u7, u8, u9], [], M, 1) P := by
  refine am_e_iconst (v := 0) dd_45_66 rfl rfl ?_
  refine am_e_istore dd_45_67 (Nat.le_of_ble_eq_true rfl) rfl rfl ?_
  refine am_e_iconst (v := 0) dd_45_69 rfl rfl ?_
  refine am_e_istore dd_45_70 (Nat.le_of_ble_eq_true rfl) rfl rfl ?_
  exact k

theorem sg_45_72 {sh : am_Sh} {C : Nat → am_M → List am_V → am_O → Prop} {P : am_S ⊕ am_O → Prop} {M : am_M} {x1 : Int32} {x2 : Int32} {x3 : Int32} {x4 : Int32} {x5 : Int32} {x6 : Int32} {x7 : Int32} {x8 : Int32} {u9 : Option am_V}  (k1 : 4 ≤ x8 → am_ev sh C 45 (131, [some (am_R (some (0, 0, 0))), some (am_I x1), some (am_I x2), some (am_I x3), some (am_I x4), some (am_I x5), some (am_I x6), some (am_I x7), some (am_I x8), u9], [], M, 1) P) (k2 : ¬ 4 ≤ x8 → am_ev sh C 45 (78, [some (am_R (some (0, 0, 0))), some (am_I x1), some (am_I x2), some (am_I x3), some (am_I x4), some (am_I x5), some (am_I x6), some (am_I x7), some (am_I x8), u9], [], M, 1) P) : am_ev sh C 45 (72, [some (am_R (some (0, 0, 0))), some (am_I x1), some (am_I x2), some (am_I x3), some (am_I x4), some (am_I x5), some (am_I x6), some (am_I x7), some (am_I x8), u9], [], M, 1) P := by
  refine am_e_iload dd_45_72 rfl rfl ?_
  refine am_e_iconst (v := 4) dd_45_74 rfl rfl ?_
  exact am_a_icmp_ge (tgt := 131) (pc' := 78) dd_45_75 rfl rfl k1 k2

theorem sg_45_78 {sh : am_Sh} {C : Nat → am_M → List am_V → am_O → Prop} {P : am_S ⊕ am_O → Prop} {M : am_M} {x1 : Int32} {x2 : Int32} {x3 : Int32} {x4 : Int32} {x5 : Int32} {x6 : Int32} {x7 : Int32} {x8 : Int32} {u9 : Option am_V}  (k1 : ((x6 * 4) + x8) < x1 → am_ev sh C 45 (125, [some (am_R (some (0, 0, 0))), some (am_I x1), some (am_I x2), some (am_I x3), some (am_I x4), some (am_I x5), some (am_I x6), some (am_I x7), some (am_I x8), some (am_I ((x6 * 4) + x8))], [], M, 1) P) (k2 : ¬ ((x6 * 4) + x8) < x1 → am_ev sh C 45 (93, [some (am_R (some (0, 0, 0))), some (am_I x1), some (am_I x2), some (am_I x3), some (am_I x4), some (am_I x5), some (am_I x6), some (am_I x7), some (am_I x8), some (am_I ((x6 * 4) + x8))], [], M, 1) P) : am_ev sh C 45 (78, [some (am_R (some (0, 0, 0))), some (am_I x1), some (am_I x2), some (am_I x3), some (am_I x4), some (am_I x5), some (am_I x6), some (am_I x7), some (am_I x8), u9], [], M, 1) P := by
  refine am_e_iload dd_45_78 rfl rfl ?_
  refine am_e_iconst (v := 4) dd_45_80 rfl rfl ?_
  refine am_e_imul dd_45_81 rfl ?_
  refine am_e_iload dd_45_82 rfl rfl ?_
  refine am_e_iadd dd_45_84 rfl ?_
  refine am_e_istore dd_45_85 (Nat.le_of_ble_eq_true rfl) rfl rfl ?_
  refine am_e_iload dd_45_87 rfl rfl ?_
  refine am_e_iload_n dd_45_89 rfl rfl ?_
  exact am_a_icmp_lt (tgt := 125) (pc' := 93) dd_45_90 rfl rfl k1 k2

theorem sg_45_93 {sh : am_Sh} {C : Nat → am_M → List am_V → am_O → Prop} {P : am_S ⊕ am_O → Prop} {M : am_M} {x1 : Int32} {x2 : Int32} {x3 : Int32} {x4 : Int32} {x5 : Int32} {x6 : Int32} {x7 : Int32} {x8 : Int32} {x9 : Int32}  (k1 : x5 < x9 → am_ev sh C 45 (125, [some (am_R (some (0, 0, 0))), some (am_I x1), some (am_I x2), some (am_I x3), some (am_I x4), some (am_I x5), some (am_I x6), some (am_I x7), some (am_I x8), some (am_I x9)], [], M, 1) P) (k2 : ¬ x5 < x9 → am_ev sh C 45 (100, [some (am_R (some (0, 0, 0))), some (am_I x1), some (am_I x2), some (am_I x3), some (am_I x4), some (am_I x5), some (am_I x6), some (am_I x7), some (am_I x8), some (am_I x9)], [], M, 1) P) : am_ev sh C 45 (93, [some (am_R (some (0, 0, 0))), some (am_I x1), some (am_I x2), some (am_I x3), some (am_I x4), some (am_I x5), some (am_I x6), some (am_I x7), some (am_I x8), some (am_I x9)], [], M, 1) P := by
  refine am_e_iload dd_45_93 rfl rfl ?_
  refine am_e_iload dd_45_95 rfl rfl ?_
  exact am_a_icmp_gt (tgt := 125) (pc' := 100) dd_45_97 rfl rfl k1 k2

theorem sg_45_100 {sh : am_Sh} {C : Nat → am_M → List am_V → am_O → Prop} {P : am_S ⊕ am_O → Prop} {M : am_M} {x1 : Int32} {x2 : Int32} {x3 : Int32} {x4 : Int32} {x5 : Int32} {x6 : Int32} {x7 : Int32} {x8 : Int32} {x9 : Int32} {j1 : Nat} (hx_j1 : x8 = nI j1) (hl_j1 : j1 < 4) (k : am_ev sh C 45 (125, [some (am_R (some (0, 0, 0))), some (am_I x1), some (am_I x2), some (am_I x3), some (am_I x4), some (am_I x5), some (am_I x6), some (am_I (x7 ||| ((1 : Int32) <<< (x8 &&& 31)))), some (am_I x8), some (am_I x9)], [], (am_up M (4, 0, 0) j1 (x3 + ((x9 - x1) * x4))), 1) P) : am_ev sh C 45 (100, [some (am_R (some (0, 0, 0))), some (am_I x1), some (am_I x2), some (am_I x3), some (am_I x4), some (am_I x5), some (am_I x6), some (am_I x7), some (am_I x8), some (am_I x9)], [], M, 1) P := by
  refine am_e_iload dd_45_100 rfl rfl ?_
  refine am_e_iconst (v := 1) dd_45_102 rfl rfl ?_
  refine am_e_iload dd_45_103 rfl rfl ?_
  refine am_e_ishl dd_45_105 rfl ?_
  refine am_e_ior dd_45_106 rfl ?_
  refine am_e_istore dd_45_107 (Nat.le_of_ble_eq_true rfl) rfl rfl ?_
  refine am_e_aload_n dd_45_109 rfl rfl ?_
  refine am_e_gf (ci := 2) (j := 3) (v := am_R (some (4, 0, 0))) dd_45_110 (by decide +kernel) rfl rfl rfl ?_
  refine am_e_iload dd_45_113 rfl rfl ?_
  refine am_e_iload_n dd_45_115 rfl rfl ?_
  refine am_e_iload dd_45_116 rfl rfl ?_
  refine am_e_iload_n dd_45_118 rfl rfl ?_
  refine am_e_isub dd_45_119 rfl ?_
  refine am_e_iload dd_45_120 rfl rfl ?_
  refine am_e_imul dd_45_122 rfl ?_
  refine am_e_iadd dd_45_123 rfl ?_
  refine am_a_iast dd_45_124 rfl hx_j1 hl_j1 (by decide) rfl ?_
  exact k

theorem sg_45_125 {sh : am_Sh} {C : Nat → am_M → List am_V → am_O → Prop} {P : am_S ⊕ am_O → Prop} {M : am_M} {x1 : Int32} {x2 : Int32} {x3 : Int32} {x4 : Int32} {x5 : Int32} {x6 : Int32} {x7 : Int32} {x8 : Int32} {x9 : Int32}  (k : am_ev sh C 45 (72, [some (am_R (some (0, 0, 0))), some (am_I x1), some (am_I x2), some (am_I x3), some (am_I x4), some (am_I x5), some (am_I x6), some (am_I x7), some (am_I (x8 + 1)), some (am_I x9)], [], M, 1) P) : am_ev sh C 45 (125, [some (am_R (some (0, 0, 0))), some (am_I x1), some (am_I x2), some (am_I x3), some (am_I x4), some (am_I x5), some (am_I x6), some (am_I x7), some (am_I x8), some (am_I x9)], [], M, 1) P := by
  refine am_e_iinc (v := x8 + 1) dd_45_125 rfl rfl rfl rfl ?_
  refine am_e_goto (pc' := 72) dd_45_128 rfl ?_
  exact k

theorem sg_45_131 {sh : am_Sh} {C : Nat → am_M → List am_V → am_O → Prop} {P : am_S ⊕ am_O → Prop} {M : am_M} {x1 : Int32} {x2 : Int32} {x3 : Int32} {x4 : Int32} {x5 : Int32} {x6 : Int32} {x7 : Int32} {x8 : Int32} {u9 : Option am_V} {M1 : am_M} (hc1 : C 39 M [am_R (some (0, 0, 0)), am_I 0, am_I x6, am_I x7, am_R (some (4, 0, 0))] (M1, Sum.inl none)) (k : am_ev sh C 45 (56, [some (am_R (some (0, 0, 0))), some (am_I x1), some (am_I x2), some (am_I x3), some (am_I x4), some (am_I x5), some (am_I (x6 + 1)), some (am_I x7), some (am_I x8), u9], [], M1, 1) P) : am_ev sh C 45 (131, [some (am_R (some (0, 0, 0))), some (am_I x1), some (am_I x2), some (am_I x3), some (am_I x4), some (am_I x5), some (am_I x6), some (am_I x7), some (am_I x8), u9], [], M, 1) P := by
  refine am_e_aload_n dd_45_131 rfl rfl ?_
  refine am_e_iconst (v := 0) dd_45_132 rfl rfl ?_
  refine am_e_iload dd_45_133 rfl rfl ?_
  refine am_e_iload dd_45_135 rfl rfl ?_
  refine am_e_aload_n dd_45_137 rfl rfl ?_
  refine am_e_gf (ci := 2) (j := 3) (v := am_R (some (4, 0, 0))) dd_45_138 (by decide +kernel) rfl rfl rfl ?_
  refine am_e_callV (c := 39) (k := 5) (as := [am_R (some (0, 0, 0)), am_I 0, am_I x6, am_I x7, am_R (some (4, 0, 0))]) (S' := []) (v := none) (M' := M1) (n' := 1) dd_45_141 (by decide +kernel) ⟨Nat.le_of_ble_eq_true rfl, Nat.le_of_ble_eq_true rfl, by decide +kernel, (Or.inr (am_rcv_of rfl))⟩ rfl rfl (by decide +kernel) hc1 rfl ?_
  refine am_e_iinc (v := x6 + 1) dd_45_144 rfl rfl rfl rfl ?_
  refine am_e_goto (pc' := 56) dd_45_147 rfl ?_
  exact k

theorem sg_45_150 {sh : am_Sh} {C : Nat → am_M → List am_V → am_O → Prop} {P : am_S ⊕ am_O → Prop} {M : am_M} {x1 : Int32} {x2 : Int32} {x3 : Int32} {x4 : Int32} {x5 : Int32} {x6 : Int32} {u7 : Option am_V} {u8 : Option am_V} {u9 : Option am_V}  (k : P (Sum.inr (M, Sum.inl none))) : am_ev sh C 45 (150, [some (am_R (some (0, 0, 0))), some (am_I x1), some (am_I x2), some (am_I x3), some (am_I x4), some (am_I x5), some (am_I x6), u7, u8, u9], [], M, 1) P := by
  exact am_e_vret dd_45_150 (by decide +kernel) rfl k

theorem sgt_45_16 {sh : am_Sh} {C : Nat → am_M → List am_V → am_O → Prop} {P : am_S ⊕ am_O → Prop} {M : am_M} {x1 : Int32} {x2 : Int32} {x3 : Int32} {x4 : Int32} {u5 : Option am_V} {u6 : Option am_V} {u7 : Option am_V} {u8 : Option am_V} {u9 : Option am_V} {M1 : am_M} {x_thr : Nat} (hc : C 28 M [am_I x1] (M1, Sum.inr x_thr)) (k : P (Sum.inr (M1, Sum.inr x_thr))) : am_ev sh C 45 (15, [some (am_R (some (0, 0, 0))), some (am_I x1), some (am_I x2), some (am_I x3), some (am_I x4), u5, u6, u7, u8, u9], [], M, 0) P := by
  refine am_e_iload_n dd_45_15 rfl rfl ?_
  exact am_e_thrS (c := 28) (k := 1) dd_45_16 (by decide +kernel) (by decide +kernel) ⟨Nat.le_of_ble_eq_true rfl, Nat.le_of_ble_eq_true rfl, by decide +kernel, (Or.inl rfl)⟩ rfl hc (by rfl) k

-- 46: CacheLadder.run(III)I
theorem dd_46_0 : decode (am_b 46) 0 = .ok (.iload_n 2, 1) := by decide +kernel
theorem dd_46_1 : decode (am_b 46) 1 = .ok (.ifCond .lt 10, 3) := by decide +kernel
theorem dd_46_4 : decode (am_b 46) 4 = .ok (.iload_n 2, 1) := by decide +kernel
theorem dd_46_5 : decode (am_b 46) 5 = .ok (.sipush 200, 3) := by decide +kernel
theorem dd_46_8 : decode (am_b 46) 8 = .ok (.if_icmp .le 13, 3) := by decide +kernel
theorem dd_46_11 : decode (am_b 46) 11 = .ok (.new 29, 3) := by decide +kernel
theorem dd_46_21 : decode (am_b 46) 21 = .ok (.iload_n 3, 1) := by decide +kernel
theorem dd_46_22 : decode (am_b 46) 22 = .ok (.iconst 1, 1) := by decide +kernel
theorem dd_46_23 : decode (am_b 46) 23 = .ok (.if_icmp .lt 10, 3) := by decide +kernel
theorem dd_46_26 : decode (am_b 46) 26 = .ok (.iload_n 3, 1) := by decide +kernel
theorem dd_46_27 : decode (am_b 46) 27 = .ok (.sipush 1024, 3) := by decide +kernel
theorem dd_46_30 : decode (am_b 46) 30 = .ok (.if_icmp .le 13, 3) := by decide +kernel
theorem dd_46_33 : decode (am_b 46) 33 = .ok (.new 29, 3) := by decide +kernel
theorem dd_46_43 : decode (am_b 46) 43 = .ok (.iload_n 1, 1) := by decide +kernel
theorem dd_46_44 : decode (am_b 46) 44 = .ok (.istore 4, 2) := by decide +kernel
theorem dd_46_46 : decode (am_b 46) 46 = .ok (.iconst 0, 1) := by decide +kernel
theorem dd_46_47 : decode (am_b 46) 47 = .ok (.istore 5, 2) := by decide +kernel
theorem dd_46_49 : decode (am_b 46) 49 = .ok (.iconst 0, 1) := by decide +kernel
theorem dd_46_50 : decode (am_b 46) 50 = .ok (.istore 6, 2) := by decide +kernel
theorem dd_46_52 : decode (am_b 46) 52 = .ok (.iload 6, 2) := by decide +kernel
theorem dd_46_54 : decode (am_b 46) 54 = .ok (.iload_n 2, 1) := by decide +kernel
theorem dd_46_55 : decode (am_b 46) 55 = .ok (.if_icmp .ge 61, 3) := by decide +kernel
theorem dd_46_58 : decode (am_b 46) 58 = .ok (.iload 4, 2) := by decide +kernel
theorem dd_46_60 : decode (am_b 46) 60 = .ok (.ldc 89, 2) := by decide +kernel
theorem dd_46_62 : decode (am_b 46) 62 = .ok (.imul, 1) := by decide +kernel
theorem dd_46_63 : decode (am_b 46) 63 = .ok (.sipush 12345, 3) := by decide +kernel
theorem dd_46_66 : decode (am_b 46) 66 = .ok (.iadd, 1) := by decide +kernel
theorem dd_46_67 : decode (am_b 46) 67 = .ok (.istore 4, 2) := by decide +kernel
theorem dd_46_69 : decode (am_b 46) 69 = .ok (.iload 4, 2) := by decide +kernel
theorem dd_46_71 : decode (am_b 46) 71 = .ok (.bipush 8, 2) := by decide +kernel
theorem dd_46_73 : decode (am_b 46) 73 = .ok (.iushr, 1) := by decide +kernel
theorem dd_46_74 : decode (am_b 46) 74 = .ok (.iload_n 3, 1) := by decide +kernel
theorem dd_46_75 : decode (am_b 46) 75 = .ok (.irem, 1) := by decide +kernel
theorem dd_46_76 : decode (am_b 46) 76 = .ok (.istore 7, 2) := by decide +kernel
theorem dd_46_78 : decode (am_b 46) 78 = .ok (.iload 4, 2) := by decide +kernel
theorem dd_46_80 : decode (am_b 46) 80 = .ok (.bipush 20, 2) := by decide +kernel
theorem dd_46_82 : decode (am_b 46) 82 = .ok (.iushr, 1) := by decide +kernel
theorem dd_46_83 : decode (am_b 46) 83 = .ok (.iconst 4, 1) := by decide +kernel
theorem dd_46_84 : decode (am_b 46) 84 = .ok (.irem, 1) := by decide +kernel
theorem dd_46_85 : decode (am_b 46) 85 = .ok (.ifCond .ne 14, 3) := by decide +kernel
theorem dd_46_88 : decode (am_b 46) 88 = .ok (.aload_n 0, 1) := by decide +kernel
theorem dd_46_89 : decode (am_b 46) 89 = .ok (.iload 7, 2) := by decide +kernel
theorem dd_46_91 : decode (am_b 46) 91 = .ok (.iload 4, 2) := by decide +kernel
theorem dd_46_93 : decode (am_b 46) 93 = .ok (.invokevirtual 67, 3) := by decide +kernel
theorem dd_46_96 : decode (am_b 46) 96 = .ok (.goto 14, 3) := by decide +kernel
theorem dd_46_99 : decode (am_b 46) 99 = .ok (.iload 5, 2) := by decide +kernel
theorem dd_46_101 : decode (am_b 46) 101 = .ok (.aload_n 0, 1) := by decide +kernel
theorem dd_46_102 : decode (am_b 46) 102 = .ok (.iload 7, 2) := by decide +kernel
theorem dd_46_104 : decode (am_b 46) 104 = .ok (.invokevirtual 63, 3) := by decide +kernel
theorem dd_46_107 : decode (am_b 46) 107 = .ok (.iadd, 1) := by decide +kernel
theorem dd_46_108 : decode (am_b 46) 108 = .ok (.istore 5, 2) := by decide +kernel
theorem dd_46_110 : decode (am_b 46) 110 = .ok (.iinc 6 1, 3) := by decide +kernel
theorem dd_46_113 : decode (am_b 46) 113 = .ok (.goto (-61), 3) := by decide +kernel
theorem dd_46_116 : decode (am_b 46) 116 = .ok (.iload 5, 2) := by decide +kernel
theorem dd_46_118 : decode (am_b 46) 118 = .ok (.ireturn, 1) := by decide +kernel
theorem sg_46_0 {sh : am_Sh} {C : Nat → am_M → List am_V → am_O → Prop} {P : am_S ⊕ am_O → Prop} {M : am_M} {x1 : Int32} {x2 : Int32} {x3 : Int32} {u4 : Option am_V} {u5 : Option am_V} {u6 : Option am_V} {u7 : Option am_V}  (k1 : x2 < 0 → am_ev sh C 46 (11, [some (am_R (some (0, 0, 0))), some (am_I x1), some (am_I x2), some (am_I x3), u4, u5, u6, u7], [], M, 0) P) (k2 : ¬ x2 < 0 → am_ev sh C 46 (4, [some (am_R (some (0, 0, 0))), some (am_I x1), some (am_I x2), some (am_I x3), u4, u5, u6, u7], [], M, 0) P) : am_ev sh C 46 (0, [some (am_R (some (0, 0, 0))), some (am_I x1), some (am_I x2), some (am_I x3), u4, u5, u6, u7], [], M, 0) P := by
  refine am_e_iload_n dd_46_0 rfl rfl ?_
  exact am_a_if_lt (tgt := 11) (pc' := 4) dd_46_1 rfl rfl k1 k2

theorem sg_46_4 {sh : am_Sh} {C : Nat → am_M → List am_V → am_O → Prop} {P : am_S ⊕ am_O → Prop} {M : am_M} {x1 : Int32} {x2 : Int32} {x3 : Int32} {u4 : Option am_V} {u5 : Option am_V} {u6 : Option am_V} {u7 : Option am_V}  (k1 : x2 ≤ 200 → am_ev sh C 46 (21, [some (am_R (some (0, 0, 0))), some (am_I x1), some (am_I x2), some (am_I x3), u4, u5, u6, u7], [], M, 0) P) (k2 : ¬ x2 ≤ 200 → am_ev sh C 46 (11, [some (am_R (some (0, 0, 0))), some (am_I x1), some (am_I x2), some (am_I x3), u4, u5, u6, u7], [], M, 0) P) : am_ev sh C 46 (4, [some (am_R (some (0, 0, 0))), some (am_I x1), some (am_I x2), some (am_I x3), u4, u5, u6, u7], [], M, 0) P := by
  refine am_e_iload_n dd_46_4 rfl rfl ?_
  refine am_e_sipush (v := 200) dd_46_5 (by decide) rfl ?_
  exact am_a_icmp_le (tgt := 21) (pc' := 11) dd_46_8 rfl rfl k1 k2

theorem sg_46_11 {sh : am_Sh} {C : Nat → am_M → List am_V → am_O → Prop} {P : am_S ⊕ am_O → Prop} {M : am_M} {x1 : Int32} {x2 : Int32} {x3 : Int32} {u4 : Option am_V} {u5 : Option am_V} {u6 : Option am_V} {u7 : Option am_V}  (k : P (Sum.inr (M, Sum.inr 0))) : am_ev sh C 46 (11, [some (am_R (some (0, 0, 0))), some (am_I x1), some (am_I x2), some (am_I x3), u4, u5, u6, u7], [], M, 0) P := by
  exact am_e_throw (x := 0) dd_46_11 (by decide +kernel) (by decide +kernel) k

theorem sg_46_21 {sh : am_Sh} {C : Nat → am_M → List am_V → am_O → Prop} {P : am_S ⊕ am_O → Prop} {M : am_M} {x1 : Int32} {x2 : Int32} {x3 : Int32} {u4 : Option am_V} {u5 : Option am_V} {u6 : Option am_V} {u7 : Option am_V}  (k1 : x3 < 1 → am_ev sh C 46 (33, [some (am_R (some (0, 0, 0))), some (am_I x1), some (am_I x2), some (am_I x3), u4, u5, u6, u7], [], M, 0) P) (k2 : ¬ x3 < 1 → am_ev sh C 46 (26, [some (am_R (some (0, 0, 0))), some (am_I x1), some (am_I x2), some (am_I x3), u4, u5, u6, u7], [], M, 0) P) : am_ev sh C 46 (21, [some (am_R (some (0, 0, 0))), some (am_I x1), some (am_I x2), some (am_I x3), u4, u5, u6, u7], [], M, 0) P := by
  refine am_e_iload_n dd_46_21 rfl rfl ?_
  refine am_e_iconst (v := 1) dd_46_22 rfl rfl ?_
  exact am_a_icmp_lt (tgt := 33) (pc' := 26) dd_46_23 rfl rfl k1 k2

theorem sg_46_26 {sh : am_Sh} {C : Nat → am_M → List am_V → am_O → Prop} {P : am_S ⊕ am_O → Prop} {M : am_M} {x1 : Int32} {x2 : Int32} {x3 : Int32} {u4 : Option am_V} {u5 : Option am_V} {u6 : Option am_V} {u7 : Option am_V}  (k1 : x3 ≤ 1024 → am_ev sh C 46 (43, [some (am_R (some (0, 0, 0))), some (am_I x1), some (am_I x2), some (am_I x3), u4, u5, u6, u7], [], M, 0) P) (k2 : ¬ x3 ≤ 1024 → am_ev sh C 46 (33, [some (am_R (some (0, 0, 0))), some (am_I x1), some (am_I x2), some (am_I x3), u4, u5, u6, u7], [], M, 0) P) : am_ev sh C 46 (26, [some (am_R (some (0, 0, 0))), some (am_I x1), some (am_I x2), some (am_I x3), u4, u5, u6, u7], [], M, 0) P := by
  refine am_e_iload_n dd_46_26 rfl rfl ?_
  refine am_e_sipush (v := 1024) dd_46_27 (by decide) rfl ?_
  exact am_a_icmp_le (tgt := 43) (pc' := 33) dd_46_30 rfl rfl k1 k2

theorem sg_46_33 {sh : am_Sh} {C : Nat → am_M → List am_V → am_O → Prop} {P : am_S ⊕ am_O → Prop} {M : am_M} {x1 : Int32} {x2 : Int32} {x3 : Int32} {u4 : Option am_V} {u5 : Option am_V} {u6 : Option am_V} {u7 : Option am_V}  (k : P (Sum.inr (M, Sum.inr 0))) : am_ev sh C 46 (33, [some (am_R (some (0, 0, 0))), some (am_I x1), some (am_I x2), some (am_I x3), u4, u5, u6, u7], [], M, 0) P := by
  exact am_e_throw (x := 0) dd_46_33 (by decide +kernel) (by decide +kernel) k

theorem sg_46_43 {sh : am_Sh} {C : Nat → am_M → List am_V → am_O → Prop} {P : am_S ⊕ am_O → Prop} {M : am_M} {x1 : Int32} {x2 : Int32} {x3 : Int32} {u4 : Option am_V} {u5 : Option am_V} {u6 : Option am_V} {u7 : Option am_V}  (k : am_ev sh C 46 (52, [some (am_R (some (0, 0, 0))), some (am_I x1), some (am_I x2), some (am_I x3), some (am_I x1), some (am_I 0), some (am_I 0), u7], [], M, 0) P) : am_ev sh C 46 (43, [some (am_R (some (0, 0, 0))), some (am_I x1), some (am_I x2), some (am_I x3), u4, u5, u6, u7], [], M, 0) P := by
  refine am_e_iload_n dd_46_43 rfl rfl ?_
  refine am_e_istore dd_46_44 (Nat.le_of_ble_eq_true rfl) rfl rfl ?_
  refine am_e_iconst (v := 0) dd_46_46 rfl rfl ?_
  refine am_e_istore dd_46_47 (Nat.le_of_ble_eq_true rfl) rfl rfl ?_
  refine am_e_iconst (v := 0) dd_46_49 rfl rfl ?_
  refine am_e_istore dd_46_50 (Nat.le_of_ble_eq_true rfl) rfl rfl ?_
  exact k

theorem sg_46_52 {sh : am_Sh} {C : Nat → am_M → List am_V → am_O → Prop} {P : am_S ⊕ am_O → Prop} {M : am_M} {x1 : Int32} {x2 : Int32} {x3 : Int32} {x4 : Int32} {x5 : Int32} {x6 : Int32} {u7 : Option am_V}  (k1 : x2 ≤ x6 → am_ev sh C 46 (116, [some (am_R (some (0, 0, 0))), some (am_I x1), some (am_I x2), some (am_I x3), some (am_I x4), some (am_I x5), some (am_I x6), u7], [], M, 0) P) (k2 : ¬ x2 ≤ x6 → am_ev sh C 46 (58, [some (am_R (some (0, 0, 0))), some (am_I x1), some (am_I x2), some (am_I x3), some (am_I x4), some (am_I x5), some (am_I x6), u7], [], M, 0) P) : am_ev sh C 46 (52, [some (am_R (some (0, 0, 0))), some (am_I x1), some (am_I x2), some (am_I x3), some (am_I x4), some (am_I x5), some (am_I x6), u7], [], M, 0) P := by
  refine am_e_iload dd_46_52 rfl rfl ?_
  refine am_e_iload_n dd_46_54 rfl rfl ?_
  exact am_a_icmp_ge (tgt := 116) (pc' := 58) dd_46_55 rfl rfl k1 k2

theorem sg_46_58 {sh : am_Sh} {C : Nat → am_M → List am_V → am_O → Prop} {P : am_S ⊕ am_O → Prop} {M : am_M} {x1 : Int32} {x2 : Int32} {x3 : Int32} {x4 : Int32} {x5 : Int32} {x6 : Int32} {u7 : Option am_V} (hd1 : ¬ x3 = 0) (k1 : ¬ (((((x4 * 1103515245) + 12345).toUInt32 >>> ((20 : Int32).toUInt32 &&& Int32.toUInt32 31)).toInt32) - ((((x4 * 1103515245) + 12345).toUInt32 >>> ((20 : Int32).toUInt32 &&& Int32.toUInt32 31)).toInt32) / 4 * 4) = 0 → am_ev sh C 46 (99, [some (am_R (some (0, 0, 0))), some (am_I x1), some (am_I x2), some (am_I x3), some (am_I ((x4 * 1103515245) + 12345)), some (am_I x5), some (am_I x6), some (am_I (((((x4 * 1103515245) + 12345).toUInt32 >>> ((8 : Int32).toUInt32 &&& Int32.toUInt32 31)).toInt32) - ((((x4 * 1103515245) + 12345).toUInt32 >>> ((8 : Int32).toUInt32 &&& Int32.toUInt32 31)).toInt32) / x3 * x3))], [], M, 0) P) (k2 : (((((x4 * 1103515245) + 12345).toUInt32 >>> ((20 : Int32).toUInt32 &&& Int32.toUInt32 31)).toInt32) - ((((x4 * 1103515245) + 12345).toUInt32 >>> ((20 : Int32).toUInt32 &&& Int32.toUInt32 31)).toInt32) / 4 * 4) = 0 → am_ev sh C 46 (88, [some (am_R (some (0, 0, 0))), some (am_I x1), some (am_I x2), some (am_I x3), some (am_I ((x4 * 1103515245) + 12345)), some (am_I x5), some (am_I x6), some (am_I (((((x4 * 1103515245) + 12345).toUInt32 >>> ((8 : Int32).toUInt32 &&& Int32.toUInt32 31)).toInt32) - ((((x4 * 1103515245) + 12345).toUInt32 >>> ((8 : Int32).toUInt32 &&& Int32.toUInt32 31)).toInt32) / x3 * x3))], [], M, 0) P) : am_ev sh C 46 (58, [some (am_R (some (0, 0, 0))), some (am_I x1), some (am_I x2), some (am_I x3), some (am_I x4), some (am_I x5), some (am_I x6), u7], [], M, 0) P := by
  refine am_e_iload dd_46_58 rfl rfl ?_
  refine am_e_ldc (v := 1103515245) dd_46_60 (by decide +kernel) rfl ?_
  refine am_e_imul dd_46_62 rfl ?_
  refine am_e_sipush (v := 12345) dd_46_63 (by decide) rfl ?_
  refine am_e_iadd dd_46_66 rfl ?_
  refine am_e_istore dd_46_67 (Nat.le_of_ble_eq_true rfl) rfl rfl ?_
  refine am_e_iload dd_46_69 rfl rfl ?_
  refine am_e_bipush (v := 8) dd_46_71 (by decide) rfl ?_
  refine am_e_iushr dd_46_73 rfl ?_
  refine am_e_iload_n dd_46_74 rfl rfl ?_
  refine am_e_irem dd_46_75 hd1 rfl ?_
  refine am_e_istore dd_46_76 (Nat.le_of_ble_eq_true rfl) rfl rfl ?_
  refine am_e_iload dd_46_78 rfl rfl ?_
  refine am_e_bipush (v := 20) dd_46_80 (by decide) rfl ?_
  refine am_e_iushr dd_46_82 rfl ?_
  refine am_e_iconst (v := 4) dd_46_83 rfl rfl ?_
  refine am_e_irem dd_46_84 (by decide) rfl ?_
  exact am_a_if_ne (tgt := 99) (pc' := 88) dd_46_85 rfl rfl k1 k2

theorem sg_46_88 {sh : am_Sh} {C : Nat → am_M → List am_V → am_O → Prop} {P : am_S ⊕ am_O → Prop} {M : am_M} {x1 : Int32} {x2 : Int32} {x3 : Int32} {x4 : Int32} {x5 : Int32} {x6 : Int32} {x7 : Int32} {M1 : am_M} (hc1 : C 44 M [am_R (some (0, 0, 0)), am_I x7, am_I x4] (M1, Sum.inl none)) (k : am_ev sh C 46 (110, [some (am_R (some (0, 0, 0))), some (am_I x1), some (am_I x2), some (am_I x3), some (am_I x4), some (am_I x5), some (am_I x6), some (am_I x7)], [], M1, 0) P) : am_ev sh C 46 (88, [some (am_R (some (0, 0, 0))), some (am_I x1), some (am_I x2), some (am_I x3), some (am_I x4), some (am_I x5), some (am_I x6), some (am_I x7)], [], M, 0) P := by
  refine am_e_aload_n dd_46_88 rfl rfl ?_
  refine am_e_iload dd_46_89 rfl rfl ?_
  refine am_e_iload dd_46_91 rfl rfl ?_
  refine am_e_callV (c := 44) (k := 3) (as := [am_R (some (0, 0, 0)), am_I x7, am_I x4]) (S' := []) (v := none) (M' := M1) (n' := 0) dd_46_93 (by decide +kernel) ⟨Nat.le_of_ble_eq_true rfl, Nat.le_of_ble_eq_true rfl, by decide +kernel, (Or.inr (am_rcv_of rfl))⟩ rfl rfl (by decide +kernel) hc1 rfl ?_
  refine am_e_goto (pc' := 110) dd_46_96 rfl ?_
  exact k

theorem sg_46_99 {sh : am_Sh} {C : Nat → am_M → List am_V → am_O → Prop} {P : am_S ⊕ am_O → Prop} {M : am_M} {x1 : Int32} {x2 : Int32} {x3 : Int32} {x4 : Int32} {x5 : Int32} {x6 : Int32} {x7 : Int32} {M1 : am_M} {r1 : Int32} (hc1 : C 29 M [am_R (some (0, 0, 0)), am_I x7] (M1, Sum.inl (some (am_I r1)))) (k : am_ev sh C 46 (110, [some (am_R (some (0, 0, 0))), some (am_I x1), some (am_I x2), some (am_I x3), some (am_I x4), some (am_I (x5 + r1)), some (am_I x6), some (am_I x7)], [], M1, 0) P) : am_ev sh C 46 (99, [some (am_R (some (0, 0, 0))), some (am_I x1), some (am_I x2), some (am_I x3), some (am_I x4), some (am_I x5), some (am_I x6), some (am_I x7)], [], M, 0) P := by
  refine am_e_iload dd_46_99 rfl rfl ?_
  refine am_e_aload_n dd_46_101 rfl rfl ?_
  refine am_e_iload dd_46_102 rfl rfl ?_
  refine am_e_callV (c := 29) (k := 2) (as := [am_R (some (0, 0, 0)), am_I x7]) (S' := [am_I r1, am_I x5]) (v := some (am_I r1)) (M' := M1) (n' := 0) dd_46_104 (by decide +kernel) ⟨Nat.le_of_ble_eq_true rfl, Nat.le_of_ble_eq_true rfl, by decide +kernel, (Or.inr (am_rcv_of rfl))⟩ rfl rfl (by decide +kernel) hc1 rfl ?_
  refine am_e_iadd dd_46_107 rfl ?_
  refine am_e_istore dd_46_108 (Nat.le_of_ble_eq_true rfl) rfl rfl ?_
  exact k

theorem sg_46_110 {sh : am_Sh} {C : Nat → am_M → List am_V → am_O → Prop} {P : am_S ⊕ am_O → Prop} {M : am_M} {x1 : Int32} {x2 : Int32} {x3 : Int32} {x4 : Int32} {x5 : Int32} {x6 : Int32} {x7 : Int32}  (k : am_ev sh C 46 (52, [some (am_R (some (0, 0, 0))), some (am_I x1), some (am_I x2), some (am_I x3), some (am_I x4), some (am_I x5), some (am_I (x6 + 1)), some (am_I x7)], [], M, 0) P) : am_ev sh C 46 (110, [some (am_R (some (0, 0, 0))), some (am_I x1), some (am_I x2), some (am_I x3), some (am_I x4), some (am_I x5), some (am_I x6), some (am_I x7)], [], M, 0) P := by
  refine am_e_iinc (v := x6 + 1) dd_46_110 rfl rfl rfl rfl ?_
  refine am_e_goto (pc' := 52) dd_46_113 rfl ?_
  exact k

theorem sg_46_116 {sh : am_Sh} {C : Nat → am_M → List am_V → am_O → Prop} {P : am_S ⊕ am_O → Prop} {M : am_M} {x1 : Int32} {x2 : Int32} {x3 : Int32} {x4 : Int32} {x5 : Int32} {x6 : Int32} {u7 : Option am_V}  (k : P (Sum.inr (M, Sum.inl (some (am_I x5))))) : am_ev sh C 46 (116, [some (am_R (some (0, 0, 0))), some (am_I x1), some (am_I x2), some (am_I x3), some (am_I x4), some (am_I x5), some (am_I x6), u7], [], M, 0) P := by
  refine am_e_iload dd_46_116 rfl rfl ?_
  exact am_e_iret dd_46_118 (by decide +kernel) (Or.inl rfl) k

-- 47: CacheLadder.peek(I)I
theorem dd_47_0 : decode (am_b 47) 0 = .ok (.iload_n 1, 1) := by decide +kernel
theorem dd_47_1 : decode (am_b 47) 1 = .ok (.invokestatic 59, 3) := by decide +kernel
theorem dd_47_4 : decode (am_b 47) 4 = .ok (.aload_n 0, 1) := by decide +kernel
theorem dd_47_5 : decode (am_b 47) 5 = .ok (.iload_n 1, 1) := by decide +kernel
theorem dd_47_6 : decode (am_b 47) 6 = .ok (.invokestatic 78, 3) := by decide +kernel
theorem dd_47_9 : decode (am_b 47) 9 = .ok (.invokevirtual 90, 3) := by decide +kernel
theorem dd_47_12 : decode (am_b 47) 12 = .ok (.astore_n 2, 1) := by decide +kernel
theorem dd_47_13 : decode (am_b 47) 13 = .ok (.aload_n 2, 1) := by decide +kernel
theorem dd_47_14 : decode (am_b 47) 14 = .ok (.ifnonnull 12, 3) := by decide +kernel
theorem dd_47_17 : decode (am_b 47) 17 = .ok (.aload_n 0, 1) := by decide +kernel
theorem dd_47_18 : decode (am_b 47) 18 = .ok (.getfield 9, 3) := by decide +kernel
theorem dd_47_21 : decode (am_b 47) 21 = .ok (.iload_n 1, 1) := by decide +kernel
theorem dd_47_22 : decode (am_b 47) 22 = .ok (.iaload, 1) := by decide +kernel
theorem dd_47_23 : decode (am_b 47) 23 = .ok (.goto 11, 3) := by decide +kernel
theorem dd_47_26 : decode (am_b 47) 26 = .ok (.aload_n 2, 1) := by decide +kernel
theorem dd_47_27 : decode (am_b 47) 27 = .ok (.getfield 94, 3) := by decide +kernel
theorem dd_47_30 : decode (am_b 47) 30 = .ok (.iload_n 1, 1) := by decide +kernel
theorem dd_47_31 : decode (am_b 47) 31 = .ok (.iconst 4, 1) := by decide +kernel
theorem dd_47_32 : decode (am_b 47) 32 = .ok (.irem, 1) := by decide +kernel
theorem dd_47_33 : decode (am_b 47) 33 = .ok (.iaload, 1) := by decide +kernel
theorem dd_47_34 : decode (am_b 47) 34 = .ok (.ireturn, 1) := by decide +kernel
theorem sg_47_0 {sh : am_Sh} {C : Nat → am_M → List am_V → am_O → Prop} {P : am_S ⊕ am_O → Prop} {M : am_M} {x1 : Int32} {u2 : Option am_V} {M1 : am_M} {M2 : am_M} {r1 : Int32} {M3 : am_M} {oq1 : Option am_K} (hc1 : C 28 M [am_I x1] (M1, Sum.inl none)) (hc2 : C 30 M1 [am_I x1] (M2, Sum.inl (some (am_I r1)))) (hc3 : C 18 M2 [am_R (some (0, 0, 0)), am_I r1] (M3, Sum.inl (some (am_R oq1)))) (k1 : ∀ k, oq1 = some k → am_ev sh C 47 (26, [some (am_R (some (0, 0, 0))), some (am_I x1), some (am_R oq1)], [], M3, 1) P) (k2 : oq1 = none → am_ev sh C 47 (17, [some (am_R (some (0, 0, 0))), some (am_I x1), some (am_R oq1)], [], M3, 1) P) : am_ev sh C 47 (0, [some (am_R (some (0, 0, 0))), some (am_I x1), u2], [], M, 0) P := by
  refine am_e_iload_n dd_47_0 rfl rfl ?_
  refine am_e_callS (c := 28) (k := 1) (as := [am_I x1]) (S' := []) (v := none) (M' := M1) (n' := 1) dd_47_1 (by decide +kernel) (by decide +kernel) ⟨Nat.le_of_ble_eq_true rfl, Nat.le_of_ble_eq_true rfl, by decide +kernel, (Or.inl rfl)⟩ rfl rfl (by decide +kernel) hc1 rfl ?_
  refine am_e_aload_n dd_47_4 rfl rfl ?_
  refine am_e_iload_n dd_47_5 rfl rfl ?_
  refine am_e_callS (c := 30) (k := 1) (as := [am_I x1]) (S' := [am_I r1, am_R (some (0, 0, 0))]) (v := some (am_I r1)) (M' := M2) (n' := 1) dd_47_6 (by decide +kernel) (by decide +kernel) ⟨Nat.le_of_ble_eq_true rfl, Nat.le_of_ble_eq_true rfl, by decide +kernel, (Or.inl rfl)⟩ rfl rfl (by decide +kernel) hc2 rfl ?_
  refine am_e_callV (c := 18) (k := 2) (as := [am_R (some (0, 0, 0)), am_I r1]) (S' := [am_R oq1]) (v := some (am_R oq1)) (M' := M3) (n' := 1) dd_47_9 (by decide +kernel) ⟨Nat.le_of_ble_eq_true rfl, Nat.le_of_ble_eq_true rfl, by decide +kernel, (Or.inr (am_rcv_of rfl))⟩ rfl rfl (by decide +kernel) hc3 rfl ?_
  refine am_e_astore_n dd_47_12 (Nat.le_of_ble_eq_true rfl) rfl rfl ?_
  refine am_e_aload_n dd_47_13 rfl rfl ?_
  exact am_e_ifnonnull (tgt := 26) (pc' := 17) dd_47_14 rfl rfl k1 k2

theorem sg_47_17 {sh : am_Sh} {C : Nat → am_M → List am_V → am_O → Prop} {P : am_S ⊕ am_O → Prop} {M : am_M} {x1 : Int32} {o2 : Option am_K} {j1 : Nat} (hx_j1 : x1 = nI j1) (hl_j1 : j1 < 1024) (k : am_ev sh C 47 (34, [some (am_R (some (0, 0, 0))), some (am_I x1), some (am_R o2)], [am_I (M (1, 0, 0) j1)], M, 1) P) : am_ev sh C 47 (17, [some (am_R (some (0, 0, 0))), some (am_I x1), some (am_R o2)], [], M, 1) P := by
  refine am_e_aload_n dd_47_17 rfl rfl ?_
  refine am_e_gf (ci := 2) (j := 0) (v := am_R (some (1, 0, 0))) dd_47_18 (by decide +kernel) rfl rfl rfl ?_
  refine am_e_iload_n dd_47_21 rfl rfl ?_
  refine am_a_iald dd_47_22 rfl hx_j1 hl_j1 (by decide) rfl ?_
  refine am_e_goto (pc' := 34) dd_47_23 rfl ?_
  exact k

theorem sg_47_26 {sh : am_Sh} {C : Nat → am_M → List am_V → am_O → Prop} {P : am_S ⊕ am_O → Prop} {M : am_M} {x1 : Int32} {t2 : Nat} {i2 : Nat} {j1 : Nat} (ht2 : t2 < sh.1) (ht2_i2 : i2 < sh.2.1 t2) (hx_j1 : x1 - x1 / 4 * 4 = nI j1) (hl_j1 : j1 < 4) (k : am_ev sh C 47 (34, [some (am_R (some (0, 0, 0))), some (am_I x1), some (am_R (some (9, t2, i2)))], [am_I (M (10, t2, i2) j1)], M, 1) P) : am_ev sh C 47 (26, [some (am_R (some (0, 0, 0))), some (am_I x1), some (am_R (some (9, t2, i2)))], [], M, 1) P := by
  refine am_e_aload_n dd_47_26 rfl rfl ?_
  refine am_e_gf (ci := 0) (j := 0) (v := am_R (some (10, t2, i2))) dd_47_27 (by decide +kernel) (am_ct9 ht2 ht2_i2) rfl rfl ?_
  refine am_e_iload_n dd_47_30 rfl rfl ?_
  refine am_e_iconst (v := 4) dd_47_31 rfl rfl ?_
  refine am_e_irem dd_47_32 (by decide) rfl ?_
  refine am_a_iald dd_47_33 (am_ct10 ht2 ht2_i2) hx_j1 hl_j1 (by decide) rfl ?_
  exact k

theorem sg_47_34 {sh : am_Sh} {C : Nat → am_M → List am_V → am_O → Prop} {P : am_S ⊕ am_O → Prop} {M : am_M} {x1 : Int32} {o2 : Option am_K} {xs0 : Int32}  (k : P (Sum.inr (M, Sum.inl (some (am_I xs0))))) : am_ev sh C 47 (34, [some (am_R (some (0, 0, 0))), some (am_I x1), some (am_R o2)], [am_I xs0], M, 1) P := by
  exact am_e_iret dd_47_34 (by decide +kernel) (Or.inl rfl) k

theorem sgt_47_1 {sh : am_Sh} {C : Nat → am_M → List am_V → am_O → Prop} {P : am_S ⊕ am_O → Prop} {M : am_M} {x1 : Int32} {u2 : Option am_V} {M1 : am_M} {x_thr : Nat} (hc : C 28 M [am_I x1] (M1, Sum.inr x_thr)) (k : P (Sum.inr (M1, Sum.inr x_thr))) : am_ev sh C 47 (0, [some (am_R (some (0, 0, 0))), some (am_I x1), u2], [], M, 0) P := by
  refine am_e_iload_n dd_47_0 rfl rfl ?_
  exact am_e_thrS (c := 28) (k := 1) dd_47_1 (by decide +kernel) (by decide +kernel) ⟨Nat.le_of_ble_eq_true rfl, Nat.le_of_ble_eq_true rfl, by decide +kernel, (Or.inl rfl)⟩ rfl hc (by rfl) k

-- 48: CacheLadder.stored(I)I
theorem dd_48_0 : decode (am_b 48) 0 = .ok (.iload_n 1, 1) := by decide +kernel
theorem dd_48_1 : decode (am_b 48) 1 = .ok (.invokestatic 59, 3) := by decide +kernel
theorem dd_48_4 : decode (am_b 48) 4 = .ok (.aload_n 0, 1) := by decide +kernel
theorem dd_48_5 : decode (am_b 48) 5 = .ok (.getfield 9, 3) := by decide +kernel
theorem dd_48_8 : decode (am_b 48) 8 = .ok (.iload_n 1, 1) := by decide +kernel
theorem dd_48_9 : decode (am_b 48) 9 = .ok (.iaload, 1) := by decide +kernel
theorem dd_48_10 : decode (am_b 48) 10 = .ok (.ireturn, 1) := by decide +kernel
theorem sg_48_0 {sh : am_Sh} {C : Nat → am_M → List am_V → am_O → Prop} {P : am_S ⊕ am_O → Prop} {M : am_M} {x1 : Int32} {M1 : am_M} {j1 : Nat} (hc1 : C 28 M [am_I x1] (M1, Sum.inl none)) (hx_j1 : x1 = nI j1) (hl_j1 : j1 < 1024) (k : P (Sum.inr (M1, Sum.inl (some (am_I (M1 (1, 0, 0) j1)))))) : am_ev sh C 48 (0, [some (am_R (some (0, 0, 0))), some (am_I x1)], [], M, 0) P := by
  refine am_e_iload_n dd_48_0 rfl rfl ?_
  refine am_e_callS (c := 28) (k := 1) (as := [am_I x1]) (S' := []) (v := none) (M' := M1) (n' := 1) dd_48_1 (by decide +kernel) (by decide +kernel) ⟨Nat.le_of_ble_eq_true rfl, Nat.le_of_ble_eq_true rfl, by decide +kernel, (Or.inl rfl)⟩ rfl rfl (by decide +kernel) hc1 rfl ?_
  refine am_e_aload_n dd_48_4 rfl rfl ?_
  refine am_e_gf (ci := 2) (j := 0) (v := am_R (some (1, 0, 0))) dd_48_5 (by decide +kernel) rfl rfl rfl ?_
  refine am_e_iload_n dd_48_8 rfl rfl ?_
  refine am_a_iald dd_48_9 rfl hx_j1 hl_j1 (by decide) rfl ?_
  exact am_e_iret dd_48_10 (by decide +kernel) (Or.inl rfl) k

theorem sgt_48_1 {sh : am_Sh} {C : Nat → am_M → List am_V → am_O → Prop} {P : am_S ⊕ am_O → Prop} {M : am_M} {x1 : Int32} {M1 : am_M} {x_thr : Nat} (hc : C 28 M [am_I x1] (M1, Sum.inr x_thr)) (k : P (Sum.inr (M1, Sum.inr x_thr))) : am_ev sh C 48 (0, [some (am_R (some (0, 0, 0))), some (am_I x1)], [], M, 0) P := by
  refine am_e_iload_n dd_48_0 rfl rfl ?_
  exact am_e_thrS (c := 28) (k := 1) dd_48_1 (by decide +kernel) (by decide +kernel) ⟨Nat.le_of_ble_eq_true rfl, Nat.le_of_ble_eq_true rfl, by decide +kernel, (Or.inl rfl)⟩ rfl hc (by rfl) k

-- 49: CacheLadder.flush(I)I
theorem dd_49_0 : decode (am_b 49) 0 = .ok (.aload_n 0, 1) := by decide +kernel
theorem dd_49_1 : decode (am_b 49) 1 = .ok (.iload_n 1, 1) := by decide +kernel
theorem dd_49_2 : decode (am_b 49) 2 = .ok (.invokevirtual 99, 3) := by decide +kernel
theorem dd_49_5 : decode (am_b 49) 5 = .ok (.aload_n 0, 1) := by decide +kernel
theorem dd_49_6 : decode (am_b 49) 6 = .ok (.getfield 15, 3) := by decide +kernel
theorem dd_49_9 : decode (am_b 49) 9 = .ok (.iload_n 1, 1) := by decide +kernel
theorem dd_49_10 : decode (am_b 49) 10 = .ok (.aaload, 1) := by decide +kernel
theorem dd_49_11 : decode (am_b 49) 11 = .ok (.getfield 102, 3) := by decide +kernel
theorem dd_49_14 : decode (am_b 49) 14 = .ok (.astore_n 2, 1) := by decide +kernel
theorem dd_49_15 : decode (am_b 49) 15 = .ok (.iconst 0, 1) := by decide +kernel
theorem dd_49_16 : decode (am_b 49) 16 = .ok (.istore_n 3, 1) := by decide +kernel
theorem dd_49_17 : decode (am_b 49) 17 = .ok (.iconst 0, 1) := by decide +kernel
theorem dd_49_18 : decode (am_b 49) 18 = .ok (.istore 4, 2) := by decide +kernel
theorem dd_49_20 : decode (am_b 49) 20 = .ok (.iload 4, 2) := by decide +kernel
theorem dd_49_22 : decode (am_b 49) 22 = .ok (.aload_n 2, 1) := by decide +kernel
theorem dd_49_23 : decode (am_b 49) 23 = .ok (.arraylength, 1) := by decide +kernel
theorem dd_49_24 : decode (am_b 49) 24 = .ok (.if_icmp .ge 31, 3) := by decide +kernel
theorem dd_49_27 : decode (am_b 49) 27 = .ok (.aload_n 2, 1) := by decide +kernel
theorem dd_49_28 : decode (am_b 49) 28 = .ok (.iload 4, 2) := by decide +kernel
theorem dd_49_30 : decode (am_b 49) 30 = .ok (.aaload, 1) := by decide +kernel
theorem dd_49_31 : decode (am_b 49) 31 = .ok (.invokevirtual 106, 3) := by decide +kernel
theorem dd_49_34 : decode (am_b 49) 34 = .ok (.ifCond .eq 15, 3) := by decide +kernel
theorem dd_49_37 : decode (am_b 49) 37 = .ok (.iload_n 3, 1) := by decide +kernel
theorem dd_49_38 : decode (am_b 49) 38 = .ok (.aload_n 0, 1) := by decide +kernel
theorem dd_49_39 : decode (am_b 49) 39 = .ok (.iload_n 1, 1) := by decide +kernel
theorem dd_49_40 : decode (am_b 49) 40 = .ok (.aload_n 2, 1) := by decide +kernel
theorem dd_49_41 : decode (am_b 49) 41 = .ok (.iload 4, 2) := by decide +kernel
theorem dd_49_43 : decode (am_b 49) 43 = .ok (.aaload, 1) := by decide +kernel
theorem dd_49_44 : decode (am_b 49) 44 = .ok (.invokevirtual 110, 3) := by decide +kernel
theorem dd_49_47 : decode (am_b 49) 47 = .ok (.iadd, 1) := by decide +kernel
theorem dd_49_48 : decode (am_b 49) 48 = .ok (.istore_n 3, 1) := by decide +kernel
theorem dd_49_49 : decode (am_b 49) 49 = .ok (.iinc 4 1, 3) := by decide +kernel
theorem dd_49_52 : decode (am_b 49) 52 = .ok (.goto (-32), 3) := by decide +kernel
theorem dd_49_55 : decode (am_b 49) 55 = .ok (.iload_n 3, 1) := by decide +kernel
theorem dd_49_56 : decode (am_b 49) 56 = .ok (.ireturn, 1) := by decide +kernel
theorem sg_49_0 {sh : am_Sh} {C : Nat → am_M → List am_V → am_O → Prop} {P : am_S ⊕ am_O → Prop} {M : am_M} {x1 : Int32} {u2 : Option am_V} {u3 : Option am_V} {u4 : Option am_V} {M1 : am_M} {t91 : Nat} (hc1 : C 50 M [am_R (some (0, 0, 0)), am_I x1] (M1, Sum.inl none)) (hx_t91 : x1 = nI t91) (ht91 : t91 < sh.1) (hh4 : sh.1 ≤ 4) (k : am_ev sh C 49 (20, [some (am_R (some (0, 0, 0))), some (am_I x1), some (am_R (some (6, t91, 0))), some (am_I 0), some (am_I 0)], [], M1, 1) P) : am_ev sh C 49 (0, [some (am_R (some (0, 0, 0))), some (am_I x1), u2, u3, u4], [], M, 0) P := by
  refine am_e_aload_n dd_49_0 rfl rfl ?_
  refine am_e_iload_n dd_49_1 rfl rfl ?_
  refine am_e_callV (c := 50) (k := 2) (as := [am_R (some (0, 0, 0)), am_I x1]) (S' := []) (v := none) (M' := M1) (n' := 1) dd_49_2 (by decide +kernel) ⟨Nat.le_of_ble_eq_true rfl, Nat.le_of_ble_eq_true rfl, by decide +kernel, (Or.inr (am_rcv_of rfl))⟩ rfl rfl (by decide +kernel) hc1 rfl ?_
  refine am_e_aload_n dd_49_5 rfl rfl ?_
  refine am_e_gf (ci := 2) (j := 1) (v := am_R (some (2, 0, 0))) dd_49_6 (by decide +kernel) rfl rfl rfl ?_
  refine am_e_iload_n dd_49_9 rfl rfl ?_
  refine am_a_rald dd_49_10 rfl (Or.inl rfl) hx_t91 (Nat.lt_of_lt_of_le ht91 hh4) (by decide) (am_rf2 ht91) rfl ?_
  refine am_e_gf (ci := 1) (j := 5) (v := am_R (some (6, t91, 0))) dd_49_11 (by decide +kernel) (am_ct5 ht91) rfl rfl ?_
  refine am_e_astore_n dd_49_14 (Nat.le_of_ble_eq_true rfl) rfl rfl ?_
  refine am_e_iconst (v := 0) dd_49_15 rfl rfl ?_
  refine am_e_istore_n dd_49_16 (Nat.le_of_ble_eq_true rfl) rfl rfl ?_
  refine am_e_iconst (v := 0) dd_49_17 rfl rfl ?_
  refine am_e_istore dd_49_18 (Nat.le_of_ble_eq_true rfl) rfl rfl ?_
  exact k

theorem sg_49_20 {sh : am_Sh} {C : Nat → am_M → List am_V → am_O → Prop} {P : am_S ⊕ am_O → Prop} {M : am_M} {x1 : Int32} {t2 : Nat} {x3 : Int32} {x4 : Int32} (hok : am_shok sh) (ht2 : t2 < sh.1) (k1 : (nI (sh.2.1 t2)) ≤ x4 → am_ev sh C 49 (55, [some (am_R (some (0, 0, 0))), some (am_I x1), some (am_R (some (6, t2, 0))), some (am_I x3), some (am_I x4)], [], M, 1) P) (k2 : ¬ (nI (sh.2.1 t2)) ≤ x4 → am_ev sh C 49 (27, [some (am_R (some (0, 0, 0))), some (am_I x1), some (am_R (some (6, t2, 0))), some (am_I x3), some (am_I x4)], [], M, 1) P) : am_ev sh C 49 (20, [some (am_R (some (0, 0, 0))), some (am_I x1), some (am_R (some (6, t2, 0))), some (am_I x3), some (am_I x4)], [], M, 1) P := by
  refine am_e_iload dd_49_20 rfl rfl ?_
  refine am_e_aload_n dd_49_22 rfl rfl ?_
  refine am_e_len dd_49_23 (am_ct6 ht2) rfl ?_
  exact am_a_icmp_ge (tgt := 55) (pc' := 27) dd_49_24 rfl rfl k1 k2

theorem sg_49_27 {sh : am_Sh} {C : Nat → am_M → List am_V → am_O → Prop} {P : am_S ⊕ am_O → Prop} {M : am_M} {x1 : Int32} {t2 : Nat} {x3 : Int32} {x4 : Int32} {j1 : Nat} {M1 : am_M} {r1 : Int32} (hok : am_shok sh) (hx_j1 : x4 = nI j1) (ht2_j1 : j1 < (sh.2.1 t2)) (ht2 : t2 < sh.1) (ht2_j1 : j1 < sh.2.1 t2) (hc1 : C 1 M [am_R (some (9, t2, j1))] (M1, Sum.inl (some (am_I r1)))) (k1 : r1 = 0 → am_ev sh C 49 (49, [some (am_R (some (0, 0, 0))), some (am_I x1), some (am_R (some (6, t2, 0))), some (am_I x3), some (am_I x4)], [], M1, 1) P) (k2 : ¬ r1 = 0 → am_ev sh C 49 (37, [some (am_R (some (0, 0, 0))), some (am_I x1), some (am_R (some (6, t2, 0))), some (am_I x3), some (am_I x4)], [], M1, 1) P) : am_ev sh C 49 (27, [some (am_R (some (0, 0, 0))), some (am_I x1), some (am_R (some (6, t2, 0))), some (am_I x3), some (am_I x4)], [], M, 1) P := by
  refine am_e_aload_n dd_49_27 rfl rfl ?_
  refine am_e_iload dd_49_28 rfl rfl ?_
  refine am_a_rald dd_49_30 (am_ct6 ht2) (Or.inr rfl) hx_j1 ht2_j1 (Nat.lt_of_le_of_lt (hok t2).1 (by decide)) (am_rf6 ht2_j1) rfl ?_
  refine am_e_callV (c := 1) (k := 1) (as := [am_R (some (9, t2, j1))]) (S' := [am_I r1]) (v := some (am_I r1)) (M' := M1) (n' := 1) dd_49_31 (by decide +kernel) ⟨Nat.le_of_ble_eq_true rfl, Nat.le_of_ble_eq_true rfl, by decide +kernel, (Or.inr (am_rcv_of (am_ct9 ht2 ht2_j1)))⟩ rfl rfl (by decide +kernel) hc1 rfl ?_
  exact am_a_if_eq (tgt := 49) (pc' := 37) dd_49_34 rfl rfl k1 k2

theorem sg_49_37 {sh : am_Sh} {C : Nat → am_M → List am_V → am_O → Prop} {P : am_S ⊕ am_O → Prop} {M : am_M} {x1 : Int32} {t2 : Nat} {x3 : Int32} {x4 : Int32} {j1 : Nat} {M1 : am_M} {r1 : Int32} (hok : am_shok sh) (hx_j1 : x4 = nI j1) (ht2_j1 : j1 < (sh.2.1 t2)) (ht2 : t2 < sh.1) (hc1 : C 37 M [am_R (some (0, 0, 0)), am_I x1, am_R (some (9, t2, j1))] (M1, Sum.inl (some (am_I r1)))) (k : am_ev sh C 49 (49, [some (am_R (some (0, 0, 0))), some (am_I x1), some (am_R (some (6, t2, 0))), some (am_I (x3 + r1)), some (am_I x4)], [], M1, 1) P) : am_ev sh C 49 (37, [some (am_R (some (0, 0, 0))), some (am_I x1), some (am_R (some (6, t2, 0))), some (am_I x3), some (am_I x4)], [], M, 1) P := by
  refine am_e_iload_n dd_49_37 rfl rfl ?_
  refine am_e_aload_n dd_49_38 rfl rfl ?_
  refine am_e_iload_n dd_49_39 rfl rfl ?_
  refine am_e_aload_n dd_49_40 rfl rfl ?_
  refine am_e_iload dd_49_41 rfl rfl ?_
  refine am_a_rald dd_49_43 (am_ct6 ht2) (Or.inr rfl) hx_j1 ht2_j1 (Nat.lt_of_le_of_lt (hok t2).1 (by decide)) (am_rf6 ht2_j1) rfl ?_
  refine am_e_callV (c := 37) (k := 3) (as := [am_R (some (0, 0, 0)), am_I x1, am_R (some (9, t2, j1))]) (S' := [am_I r1, am_I x3]) (v := some (am_I r1)) (M' := M1) (n' := 1) dd_49_44 (by decide +kernel) ⟨Nat.le_of_ble_eq_true rfl, Nat.le_of_ble_eq_true rfl, by decide +kernel, (Or.inr (am_rcv_of rfl))⟩ rfl rfl (by decide +kernel) hc1 rfl ?_
  refine am_e_iadd dd_49_47 rfl ?_
  refine am_e_istore_n dd_49_48 (Nat.le_of_ble_eq_true rfl) rfl rfl ?_
  exact k

theorem sg_49_49 {sh : am_Sh} {C : Nat → am_M → List am_V → am_O → Prop} {P : am_S ⊕ am_O → Prop} {M : am_M} {x1 : Int32} {t2 : Nat} {x3 : Int32} {x4 : Int32}  (k : am_ev sh C 49 (20, [some (am_R (some (0, 0, 0))), some (am_I x1), some (am_R (some (6, t2, 0))), some (am_I x3), some (am_I (x4 + 1))], [], M, 1) P) : am_ev sh C 49 (49, [some (am_R (some (0, 0, 0))), some (am_I x1), some (am_R (some (6, t2, 0))), some (am_I x3), some (am_I x4)], [], M, 1) P := by
  refine am_e_iinc (v := x4 + 1) dd_49_49 rfl rfl rfl rfl ?_
  refine am_e_goto (pc' := 20) dd_49_52 rfl ?_
  exact k

theorem sg_49_55 {sh : am_Sh} {C : Nat → am_M → List am_V → am_O → Prop} {P : am_S ⊕ am_O → Prop} {M : am_M} {x1 : Int32} {t2 : Nat} {x3 : Int32} {x4 : Int32}  (k : P (Sum.inr (M, Sum.inl (some (am_I x3))))) : am_ev sh C 49 (55, [some (am_R (some (0, 0, 0))), some (am_I x1), some (am_R (some (6, t2, 0))), some (am_I x3), some (am_I x4)], [], M, 1) P := by
  refine am_e_iload_n dd_49_55 rfl rfl ?_
  exact am_e_iret dd_49_56 (by decide +kernel) (Or.inl rfl) k

theorem sgt_49_2 {sh : am_Sh} {C : Nat → am_M → List am_V → am_O → Prop} {P : am_S ⊕ am_O → Prop} {M : am_M} {x1 : Int32} {u2 : Option am_V} {u3 : Option am_V} {u4 : Option am_V} {M1 : am_M} {x_thr : Nat} (hc : C 50 M [am_R (some (0, 0, 0)), am_I x1] (M1, Sum.inr x_thr)) (k : P (Sum.inr (M1, Sum.inr x_thr))) : am_ev sh C 49 (0, [some (am_R (some (0, 0, 0))), some (am_I x1), u2, u3, u4], [], M, 0) P := by
  refine am_e_aload_n dd_49_0 rfl rfl ?_
  refine am_e_iload_n dd_49_1 rfl rfl ?_
  exact am_e_thrV (c := 50) (k := 2) dd_49_2 (by decide +kernel) ⟨Nat.le_of_ble_eq_true rfl, Nat.le_of_ble_eq_true rfl, by decide +kernel, (Or.inr (am_rcv_of rfl))⟩ rfl hc (by rfl) k

-- 50: CacheLadder.needTier(I)V
theorem dd_50_0 : decode (am_b 50) 0 = .ok (.iload_n 1, 1) := by decide +kernel
theorem dd_50_1 : decode (am_b 50) 1 = .ok (.ifCond .lt 11, 3) := by decide +kernel
theorem dd_50_4 : decode (am_b 50) 4 = .ok (.iload_n 1, 1) := by decide +kernel
theorem dd_50_5 : decode (am_b 50) 5 = .ok (.aload_n 0, 1) := by decide +kernel
theorem dd_50_6 : decode (am_b 50) 6 = .ok (.getfield 38, 3) := by decide +kernel
theorem dd_50_9 : decode (am_b 50) 9 = .ok (.if_icmp .lt 13, 3) := by decide +kernel
theorem dd_50_12 : decode (am_b 50) 12 = .ok (.new 73, 3) := by decide +kernel
theorem dd_50_22 : decode (am_b 50) 22 = .ok (.return_, 1) := by decide +kernel
theorem sg_50_0 {sh : am_Sh} {C : Nat → am_M → List am_V → am_O → Prop} {P : am_S ⊕ am_O → Prop} {M : am_M} {x1 : Int32}  (k1 : x1 < 0 → am_ev sh C 50 (12, [some (am_R (some (0, 0, 0))), some (am_I x1)], [], M, 0) P) (k2 : ¬ x1 < 0 → am_ev sh C 50 (4, [some (am_R (some (0, 0, 0))), some (am_I x1)], [], M, 0) P) : am_ev sh C 50 (0, [some (am_R (some (0, 0, 0))), some (am_I x1)], [], M, 0) P := by
  refine am_e_iload_n dd_50_0 rfl rfl ?_
  exact am_a_if_lt (tgt := 12) (pc' := 4) dd_50_1 rfl rfl k1 k2

theorem sg_50_4 {sh : am_Sh} {C : Nat → am_M → List am_V → am_O → Prop} {P : am_S ⊕ am_O → Prop} {M : am_M} {x1 : Int32}  (k1 : x1 < (M (0, 0, 0) 4) → am_ev sh C 50 (22, [some (am_R (some (0, 0, 0))), some (am_I x1)], [], M, 0) P) (k2 : ¬ x1 < (M (0, 0, 0) 4) → am_ev sh C 50 (12, [some (am_R (some (0, 0, 0))), some (am_I x1)], [], M, 0) P) : am_ev sh C 50 (4, [some (am_R (some (0, 0, 0))), some (am_I x1)], [], M, 0) P := by
  refine am_e_iload_n dd_50_4 rfl rfl ?_
  refine am_e_aload_n dd_50_5 rfl rfl ?_
  refine am_e_gf (ci := 2) (j := 4) (v := am_I (M (0, 0, 0) 4)) dd_50_6 (by decide +kernel) rfl rfl rfl ?_
  exact am_a_icmp_lt (tgt := 22) (pc' := 12) dd_50_9 rfl rfl k1 k2

theorem sg_50_12 {sh : am_Sh} {C : Nat → am_M → List am_V → am_O → Prop} {P : am_S ⊕ am_O → Prop} {M : am_M} {x1 : Int32}  (k : P (Sum.inr (M, Sum.inr 3))) : am_ev sh C 50 (12, [some (am_R (some (0, 0, 0))), some (am_I x1)], [], M, 0) P := by
  exact am_e_throw (x := 3) dd_50_12 (by decide +kernel) (by decide +kernel) k

theorem sg_50_22 {sh : am_Sh} {C : Nat → am_M → List am_V → am_O → Prop} {P : am_S ⊕ am_O → Prop} {M : am_M} {x1 : Int32}  (k : P (Sum.inr (M, Sum.inl none))) : am_ev sh C 50 (22, [some (am_R (some (0, 0, 0))), some (am_I x1)], [], M, 0) P := by
  exact am_e_vret dd_50_22 (by decide +kernel) rfl k

-- 51: CacheLadder.empty(I)I
theorem dd_51_0 : decode (am_b 51) 0 = .ok (.aload_n 0, 1) := by decide +kernel
theorem dd_51_1 : decode (am_b 51) 1 = .ok (.iload_n 1, 1) := by decide +kernel
theorem dd_51_2 : decode (am_b 51) 2 = .ok (.invokevirtual 99, 3) := by decide +kernel
theorem dd_51_5 : decode (am_b 51) 5 = .ok (.aload_n 0, 1) := by decide +kernel
theorem dd_51_6 : decode (am_b 51) 6 = .ok (.getfield 15, 3) := by decide +kernel
theorem dd_51_9 : decode (am_b 51) 9 = .ok (.iload_n 1, 1) := by decide +kernel
theorem dd_51_10 : decode (am_b 51) 10 = .ok (.aaload, 1) := by decide +kernel
theorem dd_51_11 : decode (am_b 51) 11 = .ok (.getfield 102, 3) := by decide +kernel
theorem dd_51_14 : decode (am_b 51) 14 = .ok (.astore_n 2, 1) := by decide +kernel
theorem dd_51_15 : decode (am_b 51) 15 = .ok (.iconst 0, 1) := by decide +kernel
theorem dd_51_16 : decode (am_b 51) 16 = .ok (.istore_n 3, 1) := by decide +kernel
theorem dd_51_17 : decode (am_b 51) 17 = .ok (.iconst 0, 1) := by decide +kernel
theorem dd_51_18 : decode (am_b 51) 18 = .ok (.istore 4, 2) := by decide +kernel
theorem dd_51_20 : decode (am_b 51) 20 = .ok (.iload 4, 2) := by decide +kernel
theorem dd_51_22 : decode (am_b 51) 22 = .ok (.aload_n 2, 1) := by decide +kernel
theorem dd_51_23 : decode (am_b 51) 23 = .ok (.arraylength, 1) := by decide +kernel
theorem dd_51_24 : decode (am_b 51) 24 = .ok (.if_icmp .ge 31, 3) := by decide +kernel
theorem dd_51_27 : decode (am_b 51) 27 = .ok (.aload_n 2, 1) := by decide +kernel
theorem dd_51_28 : decode (am_b 51) 28 = .ok (.iload 4, 2) := by decide +kernel
theorem dd_51_30 : decode (am_b 51) 30 = .ok (.aaload, 1) := by decide +kernel
theorem dd_51_31 : decode (am_b 51) 31 = .ok (.invokevirtual 106, 3) := by decide +kernel
theorem dd_51_34 : decode (am_b 51) 34 = .ok (.ifCond .eq 15, 3) := by decide +kernel
theorem dd_51_37 : decode (am_b 51) 37 = .ok (.aload_n 0, 1) := by decide +kernel
theorem dd_51_38 : decode (am_b 51) 38 = .ok (.iload_n 1, 1) := by decide +kernel
theorem dd_51_39 : decode (am_b 51) 39 = .ok (.aload_n 2, 1) := by decide +kernel
theorem dd_51_40 : decode (am_b 51) 40 = .ok (.iload 4, 2) := by decide +kernel
theorem dd_51_42 : decode (am_b 51) 42 = .ok (.aaload, 1) := by decide +kernel
theorem dd_51_43 : decode (am_b 51) 43 = .ok (.invokevirtual 114, 3) := by decide +kernel
theorem dd_51_46 : decode (am_b 51) 46 = .ok (.iinc 3 1, 3) := by decide +kernel
theorem dd_51_49 : decode (am_b 51) 49 = .ok (.iinc 4 1, 3) := by decide +kernel
theorem dd_51_52 : decode (am_b 51) 52 = .ok (.goto (-32), 3) := by decide +kernel
theorem dd_51_55 : decode (am_b 51) 55 = .ok (.iload_n 3, 1) := by decide +kernel
theorem dd_51_56 : decode (am_b 51) 56 = .ok (.ireturn, 1) := by decide +kernel
theorem sg_51_0 {sh : am_Sh} {C : Nat → am_M → List am_V → am_O → Prop} {P : am_S ⊕ am_O → Prop} {M : am_M} {x1 : Int32} {u2 : Option am_V} {u3 : Option am_V} {u4 : Option am_V} {M1 : am_M} {t91 : Nat} (hc1 : C 50 M [am_R (some (0, 0, 0)), am_I x1] (M1, Sum.inl none)) (hx_t91 : x1 = nI t91) (ht91 : t91 < sh.1) (hh4 : sh.1 ≤ 4) (k : am_ev sh C 51 (20, [some (am_R (some (0, 0, 0))), some (am_I x1), some (am_R (some (6, t91, 0))), some (am_I 0), some (am_I 0)], [], M1, 1) P) : am_ev sh C 51 (0, [some (am_R (some (0, 0, 0))), some (am_I x1), u2, u3, u4], [], M, 0) P := by
  refine am_e_aload_n dd_51_0 rfl rfl ?_
  refine am_e_iload_n dd_51_1 rfl rfl ?_
  refine am_e_callV (c := 50) (k := 2) (as := [am_R (some (0, 0, 0)), am_I x1]) (S' := []) (v := none) (M' := M1) (n' := 1) dd_51_2 (by decide +kernel) ⟨Nat.le_of_ble_eq_true rfl, Nat.le_of_ble_eq_true rfl, by decide +kernel, (Or.inr (am_rcv_of rfl))⟩ rfl rfl (by decide +kernel) hc1 rfl ?_
  refine am_e_aload_n dd_51_5 rfl rfl ?_
  refine am_e_gf (ci := 2) (j := 1) (v := am_R (some (2, 0, 0))) dd_51_6 (by decide +kernel) rfl rfl rfl ?_
  refine am_e_iload_n dd_51_9 rfl rfl ?_
  refine am_a_rald dd_51_10 rfl (Or.inl rfl) hx_t91 (Nat.lt_of_lt_of_le ht91 hh4) (by decide) (am_rf2 ht91) rfl ?_
  refine am_e_gf (ci := 1) (j := 5) (v := am_R (some (6, t91, 0))) dd_51_11 (by decide +kernel) (am_ct5 ht91) rfl rfl ?_
  refine am_e_astore_n dd_51_14 (Nat.le_of_ble_eq_true rfl) rfl rfl ?_
  refine am_e_iconst (v := 0) dd_51_15 rfl rfl ?_
  refine am_e_istore_n dd_51_16 (Nat.le_of_ble_eq_true rfl) rfl rfl ?_
  refine am_e_iconst (v := 0) dd_51_17 rfl rfl ?_
  refine am_e_istore dd_51_18 (Nat.le_of_ble_eq_true rfl) rfl rfl ?_
  exact k

theorem sg_51_20 {sh : am_Sh} {C : Nat → am_M → List am_V → am_O → Prop} {P : am_S ⊕ am_O → Prop} {M : am_M} {x1 : Int32} {t2 : Nat} {x3 : Int32} {x4 : Int32} (hok : am_shok sh) (ht2 : t2 < sh.1) (k1 : (nI (sh.2.1 t2)) ≤ x4 → am_ev sh C 51 (55, [some (am_R (some (0, 0, 0))), some (am_I x1), some (am_R (some (6, t2, 0))), some (am_I x3), some (am_I x4)], [], M, 1) P) (k2 : ¬ (nI (sh.2.1 t2)) ≤ x4 → am_ev sh C 51 (27, [some (am_R (some (0, 0, 0))), some (am_I x1), some (am_R (some (6, t2, 0))), some (am_I x3), some (am_I x4)], [], M, 1) P) : am_ev sh C 51 (20, [some (am_R (some (0, 0, 0))), some (am_I x1), some (am_R (some (6, t2, 0))), some (am_I x3), some (am_I x4)], [], M, 1) P := by
  refine am_e_iload dd_51_20 rfl rfl ?_
  refine am_e_aload_n dd_51_22 rfl rfl ?_
  refine am_e_len dd_51_23 (am_ct6 ht2) rfl ?_
  exact am_a_icmp_ge (tgt := 55) (pc' := 27) dd_51_24 rfl rfl k1 k2

theorem sg_51_27 {sh : am_Sh} {C : Nat → am_M → List am_V → am_O → Prop} {P : am_S ⊕ am_O → Prop} {M : am_M} {x1 : Int32} {t2 : Nat} {x3 : Int32} {x4 : Int32} {j1 : Nat} {M1 : am_M} {r1 : Int32} (hok : am_shok sh) (hx_j1 : x4 = nI j1) (ht2_j1 : j1 < (sh.2.1 t2)) (ht2 : t2 < sh.1) (ht2_j1 : j1 < sh.2.1 t2) (hc1 : C 1 M [am_R (some (9, t2, j1))] (M1, Sum.inl (some (am_I r1)))) (k1 : r1 = 0 → am_ev sh C 51 (49, [some (am_R (some (0, 0, 0))), some (am_I x1), some (am_R (some (6, t2, 0))), some (am_I x3), some (am_I x4)], [], M1, 1) P) (k2 : ¬ r1 = 0 → am_ev sh C 51 (37, [some (am_R (some (0, 0, 0))), some (am_I x1), some (am_R (some (6, t2, 0))), some (am_I x3), some (am_I x4)], [], M1, 1) P) : am_ev sh C 51 (27, [some (am_R (some (0, 0, 0))), some (am_I x1), some (am_R (some (6, t2, 0))), some (am_I x3), some (am_I x4)], [], M, 1) P := by
  refine am_e_aload_n dd_51_27 rfl rfl ?_
  refine am_e_iload dd_51_28 rfl rfl ?_
  refine am_a_rald dd_51_30 (am_ct6 ht2) (Or.inr rfl) hx_j1 ht2_j1 (Nat.lt_of_le_of_lt (hok t2).1 (by decide)) (am_rf6 ht2_j1) rfl ?_
  refine am_e_callV (c := 1) (k := 1) (as := [am_R (some (9, t2, j1))]) (S' := [am_I r1]) (v := some (am_I r1)) (M' := M1) (n' := 1) dd_51_31 (by decide +kernel) ⟨Nat.le_of_ble_eq_true rfl, Nat.le_of_ble_eq_true rfl, by decide +kernel, (Or.inr (am_rcv_of (am_ct9 ht2 ht2_j1)))⟩ rfl rfl (by decide +kernel) hc1 rfl ?_
  exact am_a_if_eq (tgt := 49) (pc' := 37) dd_51_34 rfl rfl k1 k2

theorem sg_51_37 {sh : am_Sh} {C : Nat → am_M → List am_V → am_O → Prop} {P : am_S ⊕ am_O → Prop} {M : am_M} {x1 : Int32} {t2 : Nat} {x3 : Int32} {x4 : Int32} {j1 : Nat} {M1 : am_M} (hok : am_shok sh) (hx_j1 : x4 = nI j1) (ht2_j1 : j1 < (sh.2.1 t2)) (ht2 : t2 < sh.1) (hc1 : C 34 M [am_R (some (0, 0, 0)), am_I x1, am_R (some (9, t2, j1))] (M1, Sum.inl none)) (k : am_ev sh C 51 (49, [some (am_R (some (0, 0, 0))), some (am_I x1), some (am_R (some (6, t2, 0))), some (am_I (x3 + 1)), some (am_I x4)], [], M1, 1) P) : am_ev sh C 51 (37, [some (am_R (some (0, 0, 0))), some (am_I x1), some (am_R (some (6, t2, 0))), some (am_I x3), some (am_I x4)], [], M, 1) P := by
  refine am_e_aload_n dd_51_37 rfl rfl ?_
  refine am_e_iload_n dd_51_38 rfl rfl ?_
  refine am_e_aload_n dd_51_39 rfl rfl ?_
  refine am_e_iload dd_51_40 rfl rfl ?_
  refine am_a_rald dd_51_42 (am_ct6 ht2) (Or.inr rfl) hx_j1 ht2_j1 (Nat.lt_of_le_of_lt (hok t2).1 (by decide)) (am_rf6 ht2_j1) rfl ?_
  refine am_e_callV (c := 34) (k := 3) (as := [am_R (some (0, 0, 0)), am_I x1, am_R (some (9, t2, j1))]) (S' := []) (v := none) (M' := M1) (n' := 1) dd_51_43 (by decide +kernel) ⟨Nat.le_of_ble_eq_true rfl, Nat.le_of_ble_eq_true rfl, by decide +kernel, (Or.inr (am_rcv_of rfl))⟩ rfl rfl (by decide +kernel) hc1 rfl ?_
  refine am_e_iinc (v := x3 + 1) dd_51_46 rfl rfl rfl rfl ?_
  exact k

theorem sg_51_49 {sh : am_Sh} {C : Nat → am_M → List am_V → am_O → Prop} {P : am_S ⊕ am_O → Prop} {M : am_M} {x1 : Int32} {t2 : Nat} {x3 : Int32} {x4 : Int32}  (k : am_ev sh C 51 (20, [some (am_R (some (0, 0, 0))), some (am_I x1), some (am_R (some (6, t2, 0))), some (am_I x3), some (am_I (x4 + 1))], [], M, 1) P) : am_ev sh C 51 (49, [some (am_R (some (0, 0, 0))), some (am_I x1), some (am_R (some (6, t2, 0))), some (am_I x3), some (am_I x4)], [], M, 1) P := by
  refine am_e_iinc (v := x4 + 1) dd_51_49 rfl rfl rfl rfl ?_
  refine am_e_goto (pc' := 20) dd_51_52 rfl ?_
  exact k

theorem sg_51_55 {sh : am_Sh} {C : Nat → am_M → List am_V → am_O → Prop} {P : am_S ⊕ am_O → Prop} {M : am_M} {x1 : Int32} {t2 : Nat} {x3 : Int32} {x4 : Int32}  (k : P (Sum.inr (M, Sum.inl (some (am_I x3))))) : am_ev sh C 51 (55, [some (am_R (some (0, 0, 0))), some (am_I x1), some (am_R (some (6, t2, 0))), some (am_I x3), some (am_I x4)], [], M, 1) P := by
  refine am_e_iload_n dd_51_55 rfl rfl ?_
  exact am_e_iret dd_51_56 (by decide +kernel) (Or.inl rfl) k

theorem sgt_51_2 {sh : am_Sh} {C : Nat → am_M → List am_V → am_O → Prop} {P : am_S ⊕ am_O → Prop} {M : am_M} {x1 : Int32} {u2 : Option am_V} {u3 : Option am_V} {u4 : Option am_V} {M1 : am_M} {x_thr : Nat} (hc : C 50 M [am_R (some (0, 0, 0)), am_I x1] (M1, Sum.inr x_thr)) (k : P (Sum.inr (M1, Sum.inr x_thr))) : am_ev sh C 51 (0, [some (am_R (some (0, 0, 0))), some (am_I x1), u2, u3, u4], [], M, 0) P := by
  refine am_e_aload_n dd_51_0 rfl rfl ?_
  refine am_e_iload_n dd_51_1 rfl rfl ?_
  exact am_e_thrV (c := 50) (k := 2) dd_51_2 (by decide +kernel) ⟨Nat.le_of_ble_eq_true rfl, Nat.le_of_ble_eq_true rfl, by decide +kernel, (Or.inr (am_rcv_of rfl))⟩ rfl hc (by rfl) k

-- 52: CacheLadder.count(II)I
theorem dd_52_0 : decode (am_b 52) 0 = .ok (.aload_n 0, 1) := by decide +kernel
theorem dd_52_1 : decode (am_b 52) 1 = .ok (.iload_n 1, 1) := by decide +kernel
theorem dd_52_2 : decode (am_b 52) 2 = .ok (.invokevirtual 99, 3) := by decide +kernel
theorem dd_52_5 : decode (am_b 52) 5 = .ok (.iload_n 2, 1) := by decide +kernel
theorem dd_52_6 : decode (am_b 52) 6 = .ok (.ifCond .lt 9, 3) := by decide +kernel
theorem dd_52_9 : decode (am_b 52) 9 = .ok (.iload_n 2, 1) := by decide +kernel
theorem dd_52_10 : decode (am_b 52) 10 = .ok (.bipush 6, 2) := by decide +kernel
theorem dd_52_12 : decode (am_b 52) 12 = .ok (.if_icmp .lt 13, 3) := by decide +kernel
theorem dd_52_15 : decode (am_b 52) 15 = .ok (.new 29, 3) := by decide +kernel
theorem dd_52_25 : decode (am_b 52) 25 = .ok (.aload_n 0, 1) := by decide +kernel
theorem dd_52_26 : decode (am_b 52) 26 = .ok (.getfield 15, 3) := by decide +kernel
theorem dd_52_29 : decode (am_b 52) 29 = .ok (.iload_n 1, 1) := by decide +kernel
theorem dd_52_30 : decode (am_b 52) 30 = .ok (.aaload, 1) := by decide +kernel
theorem dd_52_31 : decode (am_b 52) 31 = .ok (.getfield 127, 3) := by decide +kernel
theorem dd_52_34 : decode (am_b 52) 34 = .ok (.iload_n 2, 1) := by decide +kernel
theorem dd_52_35 : decode (am_b 52) 35 = .ok (.iaload, 1) := by decide +kernel
theorem dd_52_36 : decode (am_b 52) 36 = .ok (.ireturn, 1) := by decide +kernel
theorem sg_52_0 {sh : am_Sh} {C : Nat → am_M → List am_V → am_O → Prop} {P : am_S ⊕ am_O → Prop} {M : am_M} {x1 : Int32} {x2 : Int32} {M1 : am_M} (hc1 : C 50 M [am_R (some (0, 0, 0)), am_I x1] (M1, Sum.inl none)) (k1 : x2 < 0 → am_ev sh C 52 (15, [some (am_R (some (0, 0, 0))), some (am_I x1), some (am_I x2)], [], M1, 1) P) (k2 : ¬ x2 < 0 → am_ev sh C 52 (9, [some (am_R (some (0, 0, 0))), some (am_I x1), some (am_I x2)], [], M1, 1) P) : am_ev sh C 52 (0, [some (am_R (some (0, 0, 0))), some (am_I x1), some (am_I x2)], [], M, 0) P := by
  refine am_e_aload_n dd_52_0 rfl rfl ?_
  refine am_e_iload_n dd_52_1 rfl rfl ?_
  refine am_e_callV (c := 50) (k := 2) (as := [am_R (some (0, 0, 0)), am_I x1]) (S' := []) (v := none) (M' := M1) (n' := 1) dd_52_2 (by decide +kernel) ⟨Nat.le_of_ble_eq_true rfl, Nat.le_of_ble_eq_true rfl, by decide +kernel, (Or.inr (am_rcv_of rfl))⟩ rfl rfl (by decide +kernel) hc1 rfl ?_
  refine am_e_iload_n dd_52_5 rfl rfl ?_
  exact am_a_if_lt (tgt := 15) (pc' := 9) dd_52_6 rfl rfl k1 k2

theorem sg_52_9 {sh : am_Sh} {C : Nat → am_M → List am_V → am_O → Prop} {P : am_S ⊕ am_O → Prop} {M : am_M} {x1 : Int32} {x2 : Int32}  (k1 : x2 < 6 → am_ev sh C 52 (25, [some (am_R (some (0, 0, 0))), some (am_I x1), some (am_I x2)], [], M, 1) P) (k2 : ¬ x2 < 6 → am_ev sh C 52 (15, [some (am_R (some (0, 0, 0))), some (am_I x1), some (am_I x2)], [], M, 1) P) : am_ev sh C 52 (9, [some (am_R (some (0, 0, 0))), some (am_I x1), some (am_I x2)], [], M, 1) P := by
  refine am_e_iload_n dd_52_9 rfl rfl ?_
  refine am_e_bipush (v := 6) dd_52_10 (by decide) rfl ?_
  exact am_a_icmp_lt (tgt := 25) (pc' := 15) dd_52_12 rfl rfl k1 k2

theorem sg_52_15 {sh : am_Sh} {C : Nat → am_M → List am_V → am_O → Prop} {P : am_S ⊕ am_O → Prop} {M : am_M} {x1 : Int32} {x2 : Int32}  (k : P (Sum.inr (M, Sum.inr 0))) : am_ev sh C 52 (15, [some (am_R (some (0, 0, 0))), some (am_I x1), some (am_I x2)], [], M, 1) P := by
  exact am_e_throw (x := 0) dd_52_15 (by decide +kernel) (by decide +kernel) k

theorem sg_52_25 {sh : am_Sh} {C : Nat → am_M → List am_V → am_O → Prop} {P : am_S ⊕ am_O → Prop} {M : am_M} {x1 : Int32} {x2 : Int32} {t91 : Nat} {j1 : Nat} (hx_t91 : x1 = nI t91) (ht91 : t91 < sh.1) (hh4 : sh.1 ≤ 4) (hx_j1 : x2 = nI j1) (hl_j1 : j1 < 6) (k : P (Sum.inr (M, Sum.inl (some (am_I (M (8, t91, 0) j1)))))) : am_ev sh C 52 (25, [some (am_R (some (0, 0, 0))), some (am_I x1), some (am_I x2)], [], M, 1) P := by
  refine am_e_aload_n dd_52_25 rfl rfl ?_
  refine am_e_gf (ci := 2) (j := 1) (v := am_R (some (2, 0, 0))) dd_52_26 (by decide +kernel) rfl rfl rfl ?_
  refine am_e_iload_n dd_52_29 rfl rfl ?_
  refine am_a_rald dd_52_30 rfl (Or.inl rfl) hx_t91 (Nat.lt_of_lt_of_le ht91 hh4) (by decide) (am_rf2 ht91) rfl ?_
  refine am_e_gf (ci := 1) (j := 7) (v := am_R (some (8, t91, 0))) dd_52_31 (by decide +kernel) (am_ct5 ht91) rfl rfl ?_
  refine am_e_iload_n dd_52_34 rfl rfl ?_
  refine am_a_iald dd_52_35 (am_ct8 ht91) hx_j1 hl_j1 (by decide) rfl ?_
  exact am_e_iret dd_52_36 (by decide +kernel) (Or.inl rfl) k

theorem sgt_52_2 {sh : am_Sh} {C : Nat → am_M → List am_V → am_O → Prop} {P : am_S ⊕ am_O → Prop} {M : am_M} {x1 : Int32} {x2 : Int32} {M1 : am_M} {x_thr : Nat} (hc : C 50 M [am_R (some (0, 0, 0)), am_I x1] (M1, Sum.inr x_thr)) (k : P (Sum.inr (M1, Sum.inr x_thr))) : am_ev sh C 52 (0, [some (am_R (some (0, 0, 0))), some (am_I x1), some (am_I x2)], [], M, 0) P := by
  refine am_e_aload_n dd_52_0 rfl rfl ?_
  refine am_e_iload_n dd_52_1 rfl rfl ?_
  exact am_e_thrV (c := 50) (k := 2) dd_52_2 (by decide +kernel) ⟨Nat.le_of_ble_eq_true rfl, Nat.le_of_ble_eq_true rfl, by decide +kernel, (Or.inr (am_rcv_of rfl))⟩ rfl hc (by rfl) k

-- 53: CacheLadder.line(III)I
theorem dd_53_0 : decode (am_b 53) 0 = .ok (.aload_n 0, 1) := by decide +kernel
theorem dd_53_1 : decode (am_b 53) 1 = .ok (.iload_n 1, 1) := by decide +kernel
theorem dd_53_2 : decode (am_b 53) 2 = .ok (.iload_n 2, 1) := by decide +kernel
theorem dd_53_3 : decode (am_b 53) 3 = .ok (.invokevirtual 136, 3) := by decide +kernel
theorem dd_53_6 : decode (am_b 53) 6 = .ok (.iload_n 3, 1) := by decide +kernel
theorem dd_53_7 : decode (am_b 53) 7 = .ok (.ifCond .lt 16, 3) := by decide +kernel
theorem dd_53_10 : decode (am_b 53) 10 = .ok (.iload_n 3, 1) := by decide +kernel
theorem dd_53_11 : decode (am_b 53) 11 = .ok (.aload_n 0, 1) := by decide +kernel
theorem dd_53_12 : decode (am_b 53) 12 = .ok (.getfield 15, 3) := by decide +kernel
theorem dd_53_15 : decode (am_b 53) 15 = .ok (.iload_n 1, 1) := by decide +kernel
theorem dd_53_16 : decode (am_b 53) 16 = .ok (.aaload, 1) := by decide +kernel
theorem dd_53_17 : decode (am_b 53) 17 = .ok (.getfield 139, 3) := by decide +kernel
theorem dd_53_20 : decode (am_b 53) 20 = .ok (.if_icmp .lt 13, 3) := by decide +kernel
theorem dd_53_23 : decode (am_b 53) 23 = .ok (.new 73, 3) := by decide +kernel
theorem dd_53_33 : decode (am_b 53) 33 = .ok (.aload_n 0, 1) := by decide +kernel
theorem dd_53_34 : decode (am_b 53) 34 = .ok (.getfield 15, 3) := by decide +kernel
theorem dd_53_37 : decode (am_b 53) 37 = .ok (.iload_n 1, 1) := by decide +kernel
theorem dd_53_38 : decode (am_b 53) 38 = .ok (.aaload, 1) := by decide +kernel
theorem dd_53_39 : decode (am_b 53) 39 = .ok (.iload_n 2, 1) := by decide +kernel
theorem dd_53_40 : decode (am_b 53) 40 = .ok (.iload_n 3, 1) := by decide +kernel
theorem dd_53_41 : decode (am_b 53) 41 = .ok (.invokevirtual 144, 3) := by decide +kernel
theorem dd_53_44 : decode (am_b 53) 44 = .ok (.getfield 148, 3) := by decide +kernel
theorem dd_53_47 : decode (am_b 53) 47 = .ok (.ireturn, 1) := by decide +kernel
theorem sg_53_0 {sh : am_Sh} {C : Nat → am_M → List am_V → am_O → Prop} {P : am_S ⊕ am_O → Prop} {M : am_M} {x1 : Int32} {x2 : Int32} {x3 : Int32} {M1 : am_M} (hc1 : C 54 M [am_R (some (0, 0, 0)), am_I x1, am_I x2] (M1, Sum.inl none)) (k1 : x3 < 0 → am_ev sh C 53 (23, [some (am_R (some (0, 0, 0))), some (am_I x1), some (am_I x2), some (am_I x3)], [], M1, 2) P) (k2 : ¬ x3 < 0 → am_ev sh C 53 (10, [some (am_R (some (0, 0, 0))), some (am_I x1), some (am_I x2), some (am_I x3)], [], M1, 2) P) : am_ev sh C 53 (0, [some (am_R (some (0, 0, 0))), some (am_I x1), some (am_I x2), some (am_I x3)], [], M, 0) P := by
  refine am_e_aload_n dd_53_0 rfl rfl ?_
  refine am_e_iload_n dd_53_1 rfl rfl ?_
  refine am_e_iload_n dd_53_2 rfl rfl ?_
  refine am_e_callV (c := 54) (k := 3) (as := [am_R (some (0, 0, 0)), am_I x1, am_I x2]) (S' := []) (v := none) (M' := M1) (n' := 2) dd_53_3 (by decide +kernel) ⟨Nat.le_of_ble_eq_true rfl, Nat.le_of_ble_eq_true rfl, by decide +kernel, (Or.inr (am_rcv_of rfl))⟩ rfl rfl (by decide +kernel) hc1 rfl ?_
  refine am_e_iload_n dd_53_6 rfl rfl ?_
  exact am_a_if_lt (tgt := 23) (pc' := 10) dd_53_7 rfl rfl k1 k2

theorem sg_53_10 {sh : am_Sh} {C : Nat → am_M → List am_V → am_O → Prop} {P : am_S ⊕ am_O → Prop} {M : am_M} {x1 : Int32} {x2 : Int32} {x3 : Int32} {t91 : Nat} (hx_t91 : x1 = nI t91) (ht91 : t91 < sh.1) (hh4 : sh.1 ≤ 4) (k1 : x3 < (M (5, t91, 0) 1) → am_ev sh C 53 (33, [some (am_R (some (0, 0, 0))), some (am_I x1), some (am_I x2), some (am_I x3)], [], M, 2) P) (k2 : ¬ x3 < (M (5, t91, 0) 1) → am_ev sh C 53 (23, [some (am_R (some (0, 0, 0))), some (am_I x1), some (am_I x2), some (am_I x3)], [], M, 2) P) : am_ev sh C 53 (10, [some (am_R (some (0, 0, 0))), some (am_I x1), some (am_I x2), some (am_I x3)], [], M, 2) P := by
  refine am_e_iload_n dd_53_10 rfl rfl ?_
  refine am_e_aload_n dd_53_11 rfl rfl ?_
  refine am_e_gf (ci := 2) (j := 1) (v := am_R (some (2, 0, 0))) dd_53_12 (by decide +kernel) rfl rfl rfl ?_
  refine am_e_iload_n dd_53_15 rfl rfl ?_
  refine am_a_rald dd_53_16 rfl (Or.inl rfl) hx_t91 (Nat.lt_of_lt_of_le ht91 hh4) (by decide) (am_rf2 ht91) rfl ?_
  refine am_e_gf (ci := 1) (j := 1) (v := am_I (M (5, t91, 0) 1)) dd_53_17 (by decide +kernel) (am_ct5 ht91) rfl rfl ?_
  exact am_a_icmp_lt (tgt := 33) (pc' := 23) dd_53_20 rfl rfl k1 k2

theorem sg_53_23 {sh : am_Sh} {C : Nat → am_M → List am_V → am_O → Prop} {P : am_S ⊕ am_O → Prop} {M : am_M} {x1 : Int32} {x2 : Int32} {x3 : Int32}  (k : P (Sum.inr (M, Sum.inr 3))) : am_ev sh C 53 (23, [some (am_R (some (0, 0, 0))), some (am_I x1), some (am_I x2), some (am_I x3)], [], M, 2) P := by
  exact am_e_throw (x := 3) dd_53_23 (by decide +kernel) (by decide +kernel) k

theorem sg_53_33 {sh : am_Sh} {C : Nat → am_M → List am_V → am_O → Prop} {P : am_S ⊕ am_O → Prop} {M : am_M} {x1 : Int32} {x2 : Int32} {x3 : Int32} {t91 : Nat} {M1 : am_M} {tq1 : Nat} {iq1 : Nat} (hx_t91 : x1 = nI t91) (ht91 : t91 < sh.1) (hh4 : sh.1 ≤ 4) (hc1 : C 5 M [am_R (some (5, t91, 0)), am_I x2, am_I x3] (M1, Sum.inl (some (am_R (some (9, tq1, iq1)))))) (ht_tq1 : tq1 < sh.1) (htq1_iq1 : iq1 < sh.2.1 tq1) (k : P (Sum.inr (M1, Sum.inl (some (am_I (M1 (9, tq1, iq1) 1)))))) : am_ev sh C 53 (33, [some (am_R (some (0, 0, 0))), some (am_I x1), some (am_I x2), some (am_I x3)], [], M, 2) P := by
  refine am_e_aload_n dd_53_33 rfl rfl ?_
  refine am_e_gf (ci := 2) (j := 1) (v := am_R (some (2, 0, 0))) dd_53_34 (by decide +kernel) rfl rfl rfl ?_
  refine am_e_iload_n dd_53_37 rfl rfl ?_
  refine am_a_rald dd_53_38 rfl (Or.inl rfl) hx_t91 (Nat.lt_of_lt_of_le ht91 hh4) (by decide) (am_rf2 ht91) rfl ?_
  refine am_e_iload_n dd_53_39 rfl rfl ?_
  refine am_e_iload_n dd_53_40 rfl rfl ?_
  refine am_e_callV (c := 5) (k := 3) (as := [am_R (some (5, t91, 0)), am_I x2, am_I x3]) (S' := [am_R (some (9, tq1, iq1))]) (v := some (am_R (some (9, tq1, iq1)))) (M' := M1) (n' := 2) dd_53_41 (by decide +kernel) ⟨Nat.le_of_ble_eq_true rfl, Nat.le_of_ble_eq_true rfl, by decide +kernel, (Or.inr (am_rcv_of (am_ct5 ht91)))⟩ rfl rfl (by decide +kernel) hc1 rfl ?_
  refine am_e_gf (ci := 0) (j := 1) (v := am_I (M1 (9, tq1, iq1) 1)) dd_53_44 (by decide +kernel) (am_ct9 ht_tq1 htq1_iq1) rfl rfl ?_
  exact am_e_iret dd_53_47 (by decide +kernel) (Or.inl rfl) k

theorem sgt_53_3 {sh : am_Sh} {C : Nat → am_M → List am_V → am_O → Prop} {P : am_S ⊕ am_O → Prop} {M : am_M} {x1 : Int32} {x2 : Int32} {x3 : Int32} {M1 : am_M} {x_thr : Nat} (hc : C 54 M [am_R (some (0, 0, 0)), am_I x1, am_I x2] (M1, Sum.inr x_thr)) (k : P (Sum.inr (M1, Sum.inr x_thr))) : am_ev sh C 53 (0, [some (am_R (some (0, 0, 0))), some (am_I x1), some (am_I x2), some (am_I x3)], [], M, 0) P := by
  refine am_e_aload_n dd_53_0 rfl rfl ?_
  refine am_e_iload_n dd_53_1 rfl rfl ?_
  refine am_e_iload_n dd_53_2 rfl rfl ?_
  exact am_e_thrV (c := 54) (k := 3) dd_53_3 (by decide +kernel) ⟨Nat.le_of_ble_eq_true rfl, Nat.le_of_ble_eq_true rfl, by decide +kernel, (Or.inr (am_rcv_of rfl))⟩ rfl hc (by rfl) k

-- 54: CacheLadder.needSet(II)V
theorem dd_54_0 : decode (am_b 54) 0 = .ok (.aload_n 0, 1) := by decide +kernel
theorem dd_54_1 : decode (am_b 54) 1 = .ok (.iload_n 1, 1) := by decide +kernel
theorem dd_54_2 : decode (am_b 54) 2 = .ok (.invokevirtual 99, 3) := by decide +kernel
theorem dd_54_5 : decode (am_b 54) 5 = .ok (.iload_n 2, 1) := by decide +kernel
theorem dd_54_6 : decode (am_b 54) 6 = .ok (.ifCond .lt 16, 3) := by decide +kernel
theorem dd_54_9 : decode (am_b 54) 9 = .ok (.iload_n 2, 1) := by decide +kernel
theorem dd_54_10 : decode (am_b 54) 10 = .ok (.aload_n 0, 1) := by decide +kernel
theorem dd_54_11 : decode (am_b 54) 11 = .ok (.getfield 15, 3) := by decide +kernel
theorem dd_54_14 : decode (am_b 54) 14 = .ok (.iload_n 1, 1) := by decide +kernel
theorem dd_54_15 : decode (am_b 54) 15 = .ok (.aaload, 1) := by decide +kernel
theorem dd_54_16 : decode (am_b 54) 16 = .ok (.getfield 182, 3) := by decide +kernel
theorem dd_54_19 : decode (am_b 54) 19 = .ok (.if_icmp .lt 13, 3) := by decide +kernel
theorem dd_54_22 : decode (am_b 54) 22 = .ok (.new 73, 3) := by decide +kernel
theorem dd_54_32 : decode (am_b 54) 32 = .ok (.return_, 1) := by decide +kernel
theorem sg_54_0 {sh : am_Sh} {C : Nat → am_M → List am_V → am_O → Prop} {P : am_S ⊕ am_O → Prop} {M : am_M} {x1 : Int32} {x2 : Int32} {M1 : am_M} (hc1 : C 50 M [am_R (some (0, 0, 0)), am_I x1] (M1, Sum.inl none)) (k1 : x2 < 0 → am_ev sh C 54 (22, [some (am_R (some (0, 0, 0))), some (am_I x1), some (am_I x2)], [], M1, 1) P) (k2 : ¬ x2 < 0 → am_ev sh C 54 (9, [some (am_R (some (0, 0, 0))), some (am_I x1), some (am_I x2)], [], M1, 1) P) : am_ev sh C 54 (0, [some (am_R (some (0, 0, 0))), some (am_I x1), some (am_I x2)], [], M, 0) P := by
  refine am_e_aload_n dd_54_0 rfl rfl ?_
  refine am_e_iload_n dd_54_1 rfl rfl ?_
  refine am_e_callV (c := 50) (k := 2) (as := [am_R (some (0, 0, 0)), am_I x1]) (S' := []) (v := none) (M' := M1) (n' := 1) dd_54_2 (by decide +kernel) ⟨Nat.le_of_ble_eq_true rfl, Nat.le_of_ble_eq_true rfl, by decide +kernel, (Or.inr (am_rcv_of rfl))⟩ rfl rfl (by decide +kernel) hc1 rfl ?_
  refine am_e_iload_n dd_54_5 rfl rfl ?_
  exact am_a_if_lt (tgt := 22) (pc' := 9) dd_54_6 rfl rfl k1 k2

theorem sg_54_9 {sh : am_Sh} {C : Nat → am_M → List am_V → am_O → Prop} {P : am_S ⊕ am_O → Prop} {M : am_M} {x1 : Int32} {x2 : Int32} {t91 : Nat} (hx_t91 : x1 = nI t91) (ht91 : t91 < sh.1) (hh4 : sh.1 ≤ 4) (k1 : x2 < (M (5, t91, 0) 0) → am_ev sh C 54 (32, [some (am_R (some (0, 0, 0))), some (am_I x1), some (am_I x2)], [], M, 1) P) (k2 : ¬ x2 < (M (5, t91, 0) 0) → am_ev sh C 54 (22, [some (am_R (some (0, 0, 0))), some (am_I x1), some (am_I x2)], [], M, 1) P) : am_ev sh C 54 (9, [some (am_R (some (0, 0, 0))), some (am_I x1), some (am_I x2)], [], M, 1) P := by
  refine am_e_iload_n dd_54_9 rfl rfl ?_
  refine am_e_aload_n dd_54_10 rfl rfl ?_
  refine am_e_gf (ci := 2) (j := 1) (v := am_R (some (2, 0, 0))) dd_54_11 (by decide +kernel) rfl rfl rfl ?_
  refine am_e_iload_n dd_54_14 rfl rfl ?_
  refine am_a_rald dd_54_15 rfl (Or.inl rfl) hx_t91 (Nat.lt_of_lt_of_le ht91 hh4) (by decide) (am_rf2 ht91) rfl ?_
  refine am_e_gf (ci := 1) (j := 0) (v := am_I (M (5, t91, 0) 0)) dd_54_16 (by decide +kernel) (am_ct5 ht91) rfl rfl ?_
  exact am_a_icmp_lt (tgt := 32) (pc' := 22) dd_54_19 rfl rfl k1 k2

theorem sg_54_22 {sh : am_Sh} {C : Nat → am_M → List am_V → am_O → Prop} {P : am_S ⊕ am_O → Prop} {M : am_M} {x1 : Int32} {x2 : Int32}  (k : P (Sum.inr (M, Sum.inr 3))) : am_ev sh C 54 (22, [some (am_R (some (0, 0, 0))), some (am_I x1), some (am_I x2)], [], M, 1) P := by
  exact am_e_throw (x := 3) dd_54_22 (by decide +kernel) (by decide +kernel) k

theorem sg_54_32 {sh : am_Sh} {C : Nat → am_M → List am_V → am_O → Prop} {P : am_S ⊕ am_O → Prop} {M : am_M} {x1 : Int32} {x2 : Int32}  (k : P (Sum.inr (M, Sum.inl none))) : am_ev sh C 54 (32, [some (am_R (some (0, 0, 0))), some (am_I x1), some (am_I x2)], [], M, 1) P := by
  exact am_e_vret dd_54_32 (by decide +kernel) rfl k

theorem sgt_54_2 {sh : am_Sh} {C : Nat → am_M → List am_V → am_O → Prop} {P : am_S ⊕ am_O → Prop} {M : am_M} {x1 : Int32} {x2 : Int32} {M1 : am_M} {x_thr : Nat} (hc : C 50 M [am_R (some (0, 0, 0)), am_I x1] (M1, Sum.inr x_thr)) (k : P (Sum.inr (M1, Sum.inr x_thr))) : am_ev sh C 54 (0, [some (am_R (some (0, 0, 0))), some (am_I x1), some (am_I x2)], [], M, 0) P := by
  refine am_e_aload_n dd_54_0 rfl rfl ?_
  refine am_e_iload_n dd_54_1 rfl rfl ?_
  exact am_e_thrV (c := 50) (k := 2) dd_54_2 (by decide +kernel) ⟨Nat.le_of_ble_eq_true rfl, Nat.le_of_ble_eq_true rfl, by decide +kernel, (Or.inr (am_rcv_of rfl))⟩ rfl hc (by rfl) k

-- 55: CacheLadder.way(II)I
theorem dd_55_0 : decode (am_b 55) 0 = .ok (.aload_n 0, 1) := by decide +kernel
theorem dd_55_1 : decode (am_b 55) 1 = .ok (.iload_n 1, 1) := by decide +kernel
theorem dd_55_2 : decode (am_b 55) 2 = .ok (.iload_n 2, 1) := by decide +kernel
theorem dd_55_3 : decode (am_b 55) 3 = .ok (.invokevirtual 151, 3) := by decide +kernel
theorem dd_55_6 : decode (am_b 55) 6 = .ok (.aload_n 0, 1) := by decide +kernel
theorem dd_55_7 : decode (am_b 55) 7 = .ok (.getfield 15, 3) := by decide +kernel
theorem dd_55_10 : decode (am_b 55) 10 = .ok (.iload_n 1, 1) := by decide +kernel
theorem dd_55_11 : decode (am_b 55) 11 = .ok (.aaload, 1) := by decide +kernel
theorem dd_55_12 : decode (am_b 55) 12 = .ok (.iload_n 2, 1) := by decide +kernel
theorem dd_55_13 : decode (am_b 55) 13 = .ok (.invokevirtual 154, 3) := by decide +kernel
theorem dd_55_16 : decode (am_b 55) 16 = .ok (.ireturn, 1) := by decide +kernel
theorem sg_55_0 {sh : am_Sh} {C : Nat → am_M → List am_V → am_O → Prop} {P : am_S ⊕ am_O → Prop} {M : am_M} {x1 : Int32} {x2 : Int32} {M1 : am_M} {t91 : Nat} {M2 : am_M} {r1 : Int32} (hc1 : C 56 M [am_R (some (0, 0, 0)), am_I x1, am_I x2] (M1, Sum.inl none)) (hx_t91 : x1 = nI t91) (ht91 : t91 < sh.1) (hh4 : sh.1 ≤ 4) (hc2 : C 3 M1 [am_R (some (5, t91, 0)), am_I x2] (M2, Sum.inl (some (am_I r1)))) (k : P (Sum.inr (M2, Sum.inl (some (am_I r1))))) : am_ev sh C 55 (0, [some (am_R (some (0, 0, 0))), some (am_I x1), some (am_I x2)], [], M, 0) P := by
  refine am_e_aload_n dd_55_0 rfl rfl ?_
  refine am_e_iload_n dd_55_1 rfl rfl ?_
  refine am_e_iload_n dd_55_2 rfl rfl ?_
  refine am_e_callV (c := 56) (k := 3) (as := [am_R (some (0, 0, 0)), am_I x1, am_I x2]) (S' := []) (v := none) (M' := M1) (n' := 2) dd_55_3 (by decide +kernel) ⟨Nat.le_of_ble_eq_true rfl, Nat.le_of_ble_eq_true rfl, by decide +kernel, (Or.inr (am_rcv_of rfl))⟩ rfl rfl (by decide +kernel) hc1 rfl ?_
  refine am_e_aload_n dd_55_6 rfl rfl ?_
  refine am_e_gf (ci := 2) (j := 1) (v := am_R (some (2, 0, 0))) dd_55_7 (by decide +kernel) rfl rfl rfl ?_
  refine am_e_iload_n dd_55_10 rfl rfl ?_
  refine am_a_rald dd_55_11 rfl (Or.inl rfl) hx_t91 (Nat.lt_of_lt_of_le ht91 hh4) (by decide) (am_rf2 ht91) rfl ?_
  refine am_e_iload_n dd_55_12 rfl rfl ?_
  refine am_e_callV (c := 3) (k := 2) (as := [am_R (some (5, t91, 0)), am_I x2]) (S' := [am_I r1]) (v := some (am_I r1)) (M' := M2) (n' := 2) dd_55_13 (by decide +kernel) ⟨Nat.le_of_ble_eq_true rfl, Nat.le_of_ble_eq_true rfl, by decide +kernel, (Or.inr (am_rcv_of (am_ct5 ht91)))⟩ rfl rfl (by decide +kernel) hc2 rfl ?_
  exact am_e_iret dd_55_16 (by decide +kernel) (Or.inl rfl) k

theorem sgt_55_3 {sh : am_Sh} {C : Nat → am_M → List am_V → am_O → Prop} {P : am_S ⊕ am_O → Prop} {M : am_M} {x1 : Int32} {x2 : Int32} {M1 : am_M} {x_thr : Nat} (hc : C 56 M [am_R (some (0, 0, 0)), am_I x1, am_I x2] (M1, Sum.inr x_thr)) (k : P (Sum.inr (M1, Sum.inr x_thr))) : am_ev sh C 55 (0, [some (am_R (some (0, 0, 0))), some (am_I x1), some (am_I x2)], [], M, 0) P := by
  refine am_e_aload_n dd_55_0 rfl rfl ?_
  refine am_e_iload_n dd_55_1 rfl rfl ?_
  refine am_e_iload_n dd_55_2 rfl rfl ?_
  exact am_e_thrV (c := 56) (k := 3) dd_55_3 (by decide +kernel) ⟨Nat.le_of_ble_eq_true rfl, Nat.le_of_ble_eq_true rfl, by decide +kernel, (Or.inr (am_rcv_of rfl))⟩ rfl hc (by rfl) k

-- 56: CacheLadder.needBlock(II)V
theorem dd_56_0 : decode (am_b 56) 0 = .ok (.aload_n 0, 1) := by decide +kernel
theorem dd_56_1 : decode (am_b 56) 1 = .ok (.iload_n 1, 1) := by decide +kernel
theorem dd_56_2 : decode (am_b 56) 2 = .ok (.invokevirtual 99, 3) := by decide +kernel
theorem dd_56_5 : decode (am_b 56) 5 = .ok (.iload_n 2, 1) := by decide +kernel
theorem dd_56_6 : decode (am_b 56) 6 = .ok (.ifCond .lt 10, 3) := by decide +kernel
theorem dd_56_9 : decode (am_b 56) 9 = .ok (.iload_n 2, 1) := by decide +kernel
theorem dd_56_10 : decode (am_b 56) 10 = .ok (.sipush 256, 3) := by decide +kernel
theorem dd_56_13 : decode (am_b 56) 13 = .ok (.if_icmp .lt 13, 3) := by decide +kernel
theorem dd_56_16 : decode (am_b 56) 16 = .ok (.new 73, 3) := by decide +kernel
theorem dd_56_26 : decode (am_b 56) 26 = .ok (.return_, 1) := by decide +kernel
theorem sg_56_0 {sh : am_Sh} {C : Nat → am_M → List am_V → am_O → Prop} {P : am_S ⊕ am_O → Prop} {M : am_M} {x1 : Int32} {x2 : Int32} {M1 : am_M} (hc1 : C 50 M [am_R (some (0, 0, 0)), am_I x1] (M1, Sum.inl none)) (k1 : x2 < 0 → am_ev sh C 56 (16, [some (am_R (some (0, 0, 0))), some (am_I x1), some (am_I x2)], [], M1, 1) P) (k2 : ¬ x2 < 0 → am_ev sh C 56 (9, [some (am_R (some (0, 0, 0))), some (am_I x1), some (am_I x2)], [], M1, 1) P) : am_ev sh C 56 (0, [some (am_R (some (0, 0, 0))), some (am_I x1), some (am_I x2)], [], M, 0) P := by
  refine am_e_aload_n dd_56_0 rfl rfl ?_
  refine am_e_iload_n dd_56_1 rfl rfl ?_
  refine am_e_callV (c := 50) (k := 2) (as := [am_R (some (0, 0, 0)), am_I x1]) (S' := []) (v := none) (M' := M1) (n' := 1) dd_56_2 (by decide +kernel) ⟨Nat.le_of_ble_eq_true rfl, Nat.le_of_ble_eq_true rfl, by decide +kernel, (Or.inr (am_rcv_of rfl))⟩ rfl rfl (by decide +kernel) hc1 rfl ?_
  refine am_e_iload_n dd_56_5 rfl rfl ?_
  exact am_a_if_lt (tgt := 16) (pc' := 9) dd_56_6 rfl rfl k1 k2

theorem sg_56_9 {sh : am_Sh} {C : Nat → am_M → List am_V → am_O → Prop} {P : am_S ⊕ am_O → Prop} {M : am_M} {x1 : Int32} {x2 : Int32}  (k1 : x2 < 256 → am_ev sh C 56 (26, [some (am_R (some (0, 0, 0))), some (am_I x1), some (am_I x2)], [], M, 1) P) (k2 : ¬ x2 < 256 → am_ev sh C 56 (16, [some (am_R (some (0, 0, 0))), some (am_I x1), some (am_I x2)], [], M, 1) P) : am_ev sh C 56 (9, [some (am_R (some (0, 0, 0))), some (am_I x1), some (am_I x2)], [], M, 1) P := by
  refine am_e_iload_n dd_56_9 rfl rfl ?_
  refine am_e_sipush (v := 256) dd_56_10 (by decide) rfl ?_
  exact am_a_icmp_lt (tgt := 26) (pc' := 16) dd_56_13 rfl rfl k1 k2

theorem sg_56_16 {sh : am_Sh} {C : Nat → am_M → List am_V → am_O → Prop} {P : am_S ⊕ am_O → Prop} {M : am_M} {x1 : Int32} {x2 : Int32}  (k : P (Sum.inr (M, Sum.inr 3))) : am_ev sh C 56 (16, [some (am_R (some (0, 0, 0))), some (am_I x1), some (am_I x2)], [], M, 1) P := by
  exact am_e_throw (x := 3) dd_56_16 (by decide +kernel) (by decide +kernel) k

theorem sg_56_26 {sh : am_Sh} {C : Nat → am_M → List am_V → am_O → Prop} {P : am_S ⊕ am_O → Prop} {M : am_M} {x1 : Int32} {x2 : Int32}  (k : P (Sum.inr (M, Sum.inl none))) : am_ev sh C 56 (26, [some (am_R (some (0, 0, 0))), some (am_I x1), some (am_I x2)], [], M, 1) P := by
  exact am_e_vret dd_56_26 (by decide +kernel) rfl k

theorem sgt_56_2 {sh : am_Sh} {C : Nat → am_M → List am_V → am_O → Prop} {P : am_S ⊕ am_O → Prop} {M : am_M} {x1 : Int32} {x2 : Int32} {M1 : am_M} {x_thr : Nat} (hc : C 50 M [am_R (some (0, 0, 0)), am_I x1] (M1, Sum.inr x_thr)) (k : P (Sum.inr (M1, Sum.inr x_thr))) : am_ev sh C 56 (0, [some (am_R (some (0, 0, 0))), some (am_I x1), some (am_I x2)], [], M, 0) P := by
  refine am_e_aload_n dd_56_0 rfl rfl ?_
  refine am_e_iload_n dd_56_1 rfl rfl ?_
  exact am_e_thrV (c := 50) (k := 2) dd_56_2 (by decide +kernel) ⟨Nat.le_of_ble_eq_true rfl, Nat.le_of_ble_eq_true rfl, by decide +kernel, (Or.inr (am_rcv_of rfl))⟩ rfl hc (by rfl) k

-- 57: CacheLadder.dirty(II)I
theorem dd_57_0 : decode (am_b 57) 0 = .ok (.aload_n 0, 1) := by decide +kernel
theorem dd_57_1 : decode (am_b 57) 1 = .ok (.iload_n 1, 1) := by decide +kernel
theorem dd_57_2 : decode (am_b 57) 2 = .ok (.iload_n 2, 1) := by decide +kernel
theorem dd_57_3 : decode (am_b 57) 3 = .ok (.invokevirtual 151, 3) := by decide +kernel
theorem dd_57_6 : decode (am_b 57) 6 = .ok (.aload_n 0, 1) := by decide +kernel
theorem dd_57_7 : decode (am_b 57) 7 = .ok (.getfield 15, 3) := by decide +kernel
theorem dd_57_10 : decode (am_b 57) 10 = .ok (.iload_n 1, 1) := by decide +kernel
theorem dd_57_11 : decode (am_b 57) 11 = .ok (.aaload, 1) := by decide +kernel
theorem dd_57_12 : decode (am_b 57) 12 = .ok (.iload_n 2, 1) := by decide +kernel
theorem dd_57_13 : decode (am_b 57) 13 = .ok (.invokevirtual 157, 3) := by decide +kernel
theorem dd_57_16 : decode (am_b 57) 16 = .ok (.astore_n 3, 1) := by decide +kernel
theorem dd_57_17 : decode (am_b 57) 17 = .ok (.aload_n 3, 1) := by decide +kernel
theorem dd_57_18 : decode (am_b 57) 18 = .ok (.ifnonnull 7, 3) := by decide +kernel
theorem dd_57_21 : decode (am_b 57) 21 = .ok (.iconst (-1), 1) := by decide +kernel
theorem dd_57_22 : decode (am_b 57) 22 = .ok (.goto 7, 3) := by decide +kernel
theorem dd_57_25 : decode (am_b 57) 25 = .ok (.aload_n 3, 1) := by decide +kernel
theorem dd_57_26 : decode (am_b 57) 26 = .ok (.getfield 160, 3) := by decide +kernel
theorem dd_57_29 : decode (am_b 57) 29 = .ok (.ireturn, 1) := by decide +kernel
theorem sg_57_0 {sh : am_Sh} {C : Nat → am_M → List am_V → am_O → Prop} {P : am_S ⊕ am_O → Prop} {M : am_M} {x1 : Int32} {x2 : Int32} {u3 : Option am_V} {M1 : am_M} {t91 : Nat} {M2 : am_M} {oq1 : Option am_K} (hc1 : C 56 M [am_R (some (0, 0, 0)), am_I x1, am_I x2] (M1, Sum.inl none)) (hx_t91 : x1 = nI t91) (ht91 : t91 < sh.1) (hh4 : sh.1 ≤ 4) (hc2 : C 2 M1 [am_R (some (5, t91, 0)), am_I x2] (M2, Sum.inl (some (am_R oq1)))) (k1 : ∀ k, oq1 = some k → am_ev sh C 57 (25, [some (am_R (some (0, 0, 0))), some (am_I x1), some (am_I x2), some (am_R oq1)], [], M2, 2) P) (k2 : oq1 = none → am_ev sh C 57 (21, [some (am_R (some (0, 0, 0))), some (am_I x1), some (am_I x2), some (am_R oq1)], [], M2, 2) P) : am_ev sh C 57 (0, [some (am_R (some (0, 0, 0))), some (am_I x1), some (am_I x2), u3], [], M, 0) P := by
  refine am_e_aload_n dd_57_0 rfl rfl ?_
  refine am_e_iload_n dd_57_1 rfl rfl ?_
  refine am_e_iload_n dd_57_2 rfl rfl ?_
  refine am_e_callV (c := 56) (k := 3) (as := [am_R (some (0, 0, 0)), am_I x1, am_I x2]) (S' := []) (v := none) (M' := M1) (n' := 2) dd_57_3 (by decide +kernel) ⟨Nat.le_of_ble_eq_true rfl, Nat.le_of_ble_eq_true rfl, by decide +kernel, (Or.inr (am_rcv_of rfl))⟩ rfl rfl (by decide +kernel) hc1 rfl ?_
  refine am_e_aload_n dd_57_6 rfl rfl ?_
  refine am_e_gf (ci := 2) (j := 1) (v := am_R (some (2, 0, 0))) dd_57_7 (by decide +kernel) rfl rfl rfl ?_
  refine am_e_iload_n dd_57_10 rfl rfl ?_
  refine am_a_rald dd_57_11 rfl (Or.inl rfl) hx_t91 (Nat.lt_of_lt_of_le ht91 hh4) (by decide) (am_rf2 ht91) rfl ?_
  refine am_e_iload_n dd_57_12 rfl rfl ?_
  refine am_e_callV (c := 2) (k := 2) (as := [am_R (some (5, t91, 0)), am_I x2]) (S' := [am_R oq1]) (v := some (am_R oq1)) (M' := M2) (n' := 2) dd_57_13 (by decide +kernel) ⟨Nat.le_of_ble_eq_true rfl, Nat.le_of_ble_eq_true rfl, by decide +kernel, (Or.inr (am_rcv_of (am_ct5 ht91)))⟩ rfl rfl (by decide +kernel) hc2 rfl ?_
  refine am_e_astore_n dd_57_16 (Nat.le_of_ble_eq_true rfl) rfl rfl ?_
  refine am_e_aload_n dd_57_17 rfl rfl ?_
  exact am_e_ifnonnull (tgt := 25) (pc' := 21) dd_57_18 rfl rfl k1 k2

theorem sg_57_21 {sh : am_Sh} {C : Nat → am_M → List am_V → am_O → Prop} {P : am_S ⊕ am_O → Prop} {M : am_M} {x1 : Int32} {x2 : Int32} {o3 : Option am_K}  (k : am_ev sh C 57 (29, [some (am_R (some (0, 0, 0))), some (am_I x1), some (am_I x2), some (am_R o3)], [am_I (-1)], M, 2) P) : am_ev sh C 57 (21, [some (am_R (some (0, 0, 0))), some (am_I x1), some (am_I x2), some (am_R o3)], [], M, 2) P := by
  refine am_e_iconst (v := (-1)) dd_57_21 rfl rfl ?_
  refine am_e_goto (pc' := 29) dd_57_22 rfl ?_
  exact k

theorem sg_57_25 {sh : am_Sh} {C : Nat → am_M → List am_V → am_O → Prop} {P : am_S ⊕ am_O → Prop} {M : am_M} {x1 : Int32} {x2 : Int32} {t3 : Nat} {i3 : Nat} (ht3 : t3 < sh.1) (ht3_i3 : i3 < sh.2.1 t3) (k : am_ev sh C 57 (29, [some (am_R (some (0, 0, 0))), some (am_I x1), some (am_I x2), some (am_R (some (9, t3, i3)))], [am_I (M (9, t3, i3) 2)], M, 2) P) : am_ev sh C 57 (25, [some (am_R (some (0, 0, 0))), some (am_I x1), some (am_I x2), some (am_R (some (9, t3, i3)))], [], M, 2) P := by
  refine am_e_aload_n dd_57_25 rfl rfl ?_
  refine am_e_gf (ci := 0) (j := 2) (v := am_I (M (9, t3, i3) 2)) dd_57_26 (by decide +kernel) (am_ct9 ht3 ht3_i3) rfl rfl ?_
  exact k

theorem sg_57_29 {sh : am_Sh} {C : Nat → am_M → List am_V → am_O → Prop} {P : am_S ⊕ am_O → Prop} {M : am_M} {x1 : Int32} {x2 : Int32} {o3 : Option am_K} {xs0 : Int32}  (k : P (Sum.inr (M, Sum.inl (some (am_I xs0))))) : am_ev sh C 57 (29, [some (am_R (some (0, 0, 0))), some (am_I x1), some (am_I x2), some (am_R o3)], [am_I xs0], M, 2) P := by
  exact am_e_iret dd_57_29 (by decide +kernel) (Or.inl rfl) k

theorem sgt_57_3 {sh : am_Sh} {C : Nat → am_M → List am_V → am_O → Prop} {P : am_S ⊕ am_O → Prop} {M : am_M} {x1 : Int32} {x2 : Int32} {u3 : Option am_V} {M1 : am_M} {x_thr : Nat} (hc : C 56 M [am_R (some (0, 0, 0)), am_I x1, am_I x2] (M1, Sum.inr x_thr)) (k : P (Sum.inr (M1, Sum.inr x_thr))) : am_ev sh C 57 (0, [some (am_R (some (0, 0, 0))), some (am_I x1), some (am_I x2), u3], [], M, 0) P := by
  refine am_e_aload_n dd_57_0 rfl rfl ?_
  refine am_e_iload_n dd_57_1 rfl rfl ?_
  refine am_e_iload_n dd_57_2 rfl rfl ?_
  exact am_e_thrV (c := 56) (k := 3) dd_57_3 (by decide +kernel) ⟨Nat.le_of_ble_eq_true rfl, Nat.le_of_ble_eq_true rfl, by decide +kernel, (Or.inr (am_rcv_of rfl))⟩ rfl hc (by rfl) k

-- 58: CacheLadder.next(II)I
theorem dd_58_0 : decode (am_b 58) 0 = .ok (.aload_n 0, 1) := by decide +kernel
theorem dd_58_1 : decode (am_b 58) 1 = .ok (.iload_n 1, 1) := by decide +kernel
theorem dd_58_2 : decode (am_b 58) 2 = .ok (.iload_n 2, 1) := by decide +kernel
theorem dd_58_3 : decode (am_b 58) 3 = .ok (.invokevirtual 136, 3) := by decide +kernel
theorem dd_58_6 : decode (am_b 58) 6 = .ok (.aload_n 0, 1) := by decide +kernel
theorem dd_58_7 : decode (am_b 58) 7 = .ok (.getfield 15, 3) := by decide +kernel
theorem dd_58_10 : decode (am_b 58) 10 = .ok (.iload_n 1, 1) := by decide +kernel
theorem dd_58_11 : decode (am_b 58) 11 = .ok (.aaload, 1) := by decide +kernel
theorem dd_58_12 : decode (am_b 58) 12 = .ok (.iload_n 2, 1) := by decide +kernel
theorem dd_58_13 : decode (am_b 58) 13 = .ok (.invokevirtual 163, 3) := by decide +kernel
theorem dd_58_16 : decode (am_b 58) 16 = .ok (.ifnull 5, 3) := by decide +kernel
theorem dd_58_19 : decode (am_b 58) 19 = .ok (.iconst (-1), 1) := by decide +kernel
theorem dd_58_20 : decode (am_b 58) 20 = .ok (.ireturn, 1) := by decide +kernel
theorem dd_58_21 : decode (am_b 58) 21 = .ok (.aload_n 0, 1) := by decide +kernel
theorem dd_58_22 : decode (am_b 58) 22 = .ok (.getfield 15, 3) := by decide +kernel
theorem dd_58_25 : decode (am_b 58) 25 = .ok (.iload_n 1, 1) := by decide +kernel
theorem dd_58_26 : decode (am_b 58) 26 = .ok (.aaload, 1) := by decide +kernel
theorem dd_58_27 : decode (am_b 58) 27 = .ok (.iload_n 2, 1) := by decide +kernel
theorem dd_58_28 : decode (am_b 58) 28 = .ok (.invokevirtual 166, 3) := by decide +kernel
theorem dd_58_31 : decode (am_b 58) 31 = .ok (.getfield 148, 3) := by decide +kernel
theorem dd_58_34 : decode (am_b 58) 34 = .ok (.ireturn, 1) := by decide +kernel
theorem sg_58_0 {sh : am_Sh} {C : Nat → am_M → List am_V → am_O → Prop} {P : am_S ⊕ am_O → Prop} {M : am_M} {x1 : Int32} {x2 : Int32} {M1 : am_M} {t91 : Nat} {M2 : am_M} {oq1 : Option am_K} (hc1 : C 54 M [am_R (some (0, 0, 0)), am_I x1, am_I x2] (M1, Sum.inl none)) (hx_t91 : x1 = nI t91) (ht91 : t91 < sh.1) (hh4 : sh.1 ≤ 4) (hc2 : C 7 M1 [am_R (some (5, t91, 0)), am_I x2] (M2, Sum.inl (some (am_R oq1)))) (k1 : (oq1 = none → am_ev sh C 58 (21, [some (am_R (some (0, 0, 0))), some (am_I x1), some (am_I x2)], [], M2, 2) P)) (k2 : ∀ k, oq1 = some k → am_ev sh C 58 (19, [some (am_R (some (0, 0, 0))), some (am_I x1), some (am_I x2)], [], M2, 2) P) : am_ev sh C 58 (0, [some (am_R (some (0, 0, 0))), some (am_I x1), some (am_I x2)], [], M, 0) P := by
  refine am_e_aload_n dd_58_0 rfl rfl ?_
  refine am_e_iload_n dd_58_1 rfl rfl ?_
  refine am_e_iload_n dd_58_2 rfl rfl ?_
  refine am_e_callV (c := 54) (k := 3) (as := [am_R (some (0, 0, 0)), am_I x1, am_I x2]) (S' := []) (v := none) (M' := M1) (n' := 2) dd_58_3 (by decide +kernel) ⟨Nat.le_of_ble_eq_true rfl, Nat.le_of_ble_eq_true rfl, by decide +kernel, (Or.inr (am_rcv_of rfl))⟩ rfl rfl (by decide +kernel) hc1 rfl ?_
  refine am_e_aload_n dd_58_6 rfl rfl ?_
  refine am_e_gf (ci := 2) (j := 1) (v := am_R (some (2, 0, 0))) dd_58_7 (by decide +kernel) rfl rfl rfl ?_
  refine am_e_iload_n dd_58_10 rfl rfl ?_
  refine am_a_rald dd_58_11 rfl (Or.inl rfl) hx_t91 (Nat.lt_of_lt_of_le ht91 hh4) (by decide) (am_rf2 ht91) rfl ?_
  refine am_e_iload_n dd_58_12 rfl rfl ?_
  refine am_e_callV (c := 7) (k := 2) (as := [am_R (some (5, t91, 0)), am_I x2]) (S' := [am_R oq1]) (v := some (am_R oq1)) (M' := M2) (n' := 2) dd_58_13 (by decide +kernel) ⟨Nat.le_of_ble_eq_true rfl, Nat.le_of_ble_eq_true rfl, by decide +kernel, (Or.inr (am_rcv_of (am_ct5 ht91)))⟩ rfl rfl (by decide +kernel) hc2 rfl ?_
  exact am_e_ifnull (tgt := 21) (pc' := 19) dd_58_16 rfl rfl k1 k2

theorem sg_58_19 {sh : am_Sh} {C : Nat → am_M → List am_V → am_O → Prop} {P : am_S ⊕ am_O → Prop} {M : am_M} {x1 : Int32} {x2 : Int32}  (k : P (Sum.inr (M, Sum.inl (some (am_I (-1)))))) : am_ev sh C 58 (19, [some (am_R (some (0, 0, 0))), some (am_I x1), some (am_I x2)], [], M, 2) P := by
  refine am_e_iconst (v := (-1)) dd_58_19 rfl rfl ?_
  exact am_e_iret dd_58_20 (by decide +kernel) (Or.inl rfl) k

theorem sg_58_21 {sh : am_Sh} {C : Nat → am_M → List am_V → am_O → Prop} {P : am_S ⊕ am_O → Prop} {M : am_M} {x1 : Int32} {x2 : Int32} {t91 : Nat} {M1 : am_M} {tq1 : Nat} {iq1 : Nat} (hx_t91 : x1 = nI t91) (ht91 : t91 < sh.1) (hh4 : sh.1 ≤ 4) (hc1 : C 15 M [am_R (some (5, t91, 0)), am_I x2] (M1, Sum.inl (some (am_R (some (9, tq1, iq1)))))) (ht_tq1 : tq1 < sh.1) (htq1_iq1 : iq1 < sh.2.1 tq1) (k : P (Sum.inr (M1, Sum.inl (some (am_I (M1 (9, tq1, iq1) 1)))))) : am_ev sh C 58 (21, [some (am_R (some (0, 0, 0))), some (am_I x1), some (am_I x2)], [], M, 2) P := by
  refine am_e_aload_n dd_58_21 rfl rfl ?_
  refine am_e_gf (ci := 2) (j := 1) (v := am_R (some (2, 0, 0))) dd_58_22 (by decide +kernel) rfl rfl rfl ?_
  refine am_e_iload_n dd_58_25 rfl rfl ?_
  refine am_a_rald dd_58_26 rfl (Or.inl rfl) hx_t91 (Nat.lt_of_lt_of_le ht91 hh4) (by decide) (am_rf2 ht91) rfl ?_
  refine am_e_iload_n dd_58_27 rfl rfl ?_
  refine am_e_callV (c := 15) (k := 2) (as := [am_R (some (5, t91, 0)), am_I x2]) (S' := [am_R (some (9, tq1, iq1))]) (v := some (am_R (some (9, tq1, iq1)))) (M' := M1) (n' := 2) dd_58_28 (by decide +kernel) ⟨Nat.le_of_ble_eq_true rfl, Nat.le_of_ble_eq_true rfl, by decide +kernel, (Or.inr (am_rcv_of (am_ct5 ht91)))⟩ rfl rfl (by decide +kernel) hc1 rfl ?_
  refine am_e_gf (ci := 0) (j := 1) (v := am_I (M1 (9, tq1, iq1) 1)) dd_58_31 (by decide +kernel) (am_ct9 ht_tq1 htq1_iq1) rfl rfl ?_
  exact am_e_iret dd_58_34 (by decide +kernel) (Or.inl rfl) k

theorem sgt_58_3 {sh : am_Sh} {C : Nat → am_M → List am_V → am_O → Prop} {P : am_S ⊕ am_O → Prop} {M : am_M} {x1 : Int32} {x2 : Int32} {M1 : am_M} {x_thr : Nat} (hc : C 54 M [am_R (some (0, 0, 0)), am_I x1, am_I x2] (M1, Sum.inr x_thr)) (k : P (Sum.inr (M1, Sum.inr x_thr))) : am_ev sh C 58 (0, [some (am_R (some (0, 0, 0))), some (am_I x1), some (am_I x2)], [], M, 0) P := by
  refine am_e_aload_n dd_58_0 rfl rfl ?_
  refine am_e_iload_n dd_58_1 rfl rfl ?_
  refine am_e_iload_n dd_58_2 rfl rfl ?_
  exact am_e_thrV (c := 54) (k := 3) dd_58_3 (by decide +kernel) ⟨Nat.le_of_ble_eq_true rfl, Nat.le_of_ble_eq_true rfl, by decide +kernel, (Or.inr (am_rcv_of rfl))⟩ rfl hc (by rfl) k

-- 59: java/lang/Integer.bitCount(I)I
theorem dd_59_0 : decode (am_b 59) 0 = .ok (.iload_n 0, 1) := by decide +kernel
theorem dd_59_1 : decode (am_b 59) 1 = .ok (.iload_n 0, 1) := by decide +kernel
theorem dd_59_2 : decode (am_b 59) 2 = .ok (.iconst 1, 1) := by decide +kernel
theorem dd_59_3 : decode (am_b 59) 3 = .ok (.iushr, 1) := by decide +kernel
theorem dd_59_4 : decode (am_b 59) 4 = .ok (.ldc_w 265, 3) := by decide +kernel
theorem dd_59_7 : decode (am_b 59) 7 = .ok (.iand, 1) := by decide +kernel
theorem dd_59_8 : decode (am_b 59) 8 = .ok (.isub, 1) := by decide +kernel
theorem dd_59_9 : decode (am_b 59) 9 = .ok (.istore_n 0, 1) := by decide +kernel
theorem dd_59_10 : decode (am_b 59) 10 = .ok (.iload_n 0, 1) := by decide +kernel
theorem dd_59_11 : decode (am_b 59) 11 = .ok (.ldc_w 266, 3) := by decide +kernel
theorem dd_59_14 : decode (am_b 59) 14 = .ok (.iand, 1) := by decide +kernel
theorem dd_59_15 : decode (am_b 59) 15 = .ok (.iload_n 0, 1) := by decide +kernel
theorem dd_59_16 : decode (am_b 59) 16 = .ok (.iconst 2, 1) := by decide +kernel
theorem dd_59_17 : decode (am_b 59) 17 = .ok (.iushr, 1) := by decide +kernel
theorem dd_59_18 : decode (am_b 59) 18 = .ok (.ldc_w 266, 3) := by decide +kernel
theorem dd_59_21 : decode (am_b 59) 21 = .ok (.iand, 1) := by decide +kernel
theorem dd_59_22 : decode (am_b 59) 22 = .ok (.iadd, 1) := by decide +kernel
theorem dd_59_23 : decode (am_b 59) 23 = .ok (.istore_n 0, 1) := by decide +kernel
theorem dd_59_24 : decode (am_b 59) 24 = .ok (.iload_n 0, 1) := by decide +kernel
theorem dd_59_25 : decode (am_b 59) 25 = .ok (.iload_n 0, 1) := by decide +kernel
theorem dd_59_26 : decode (am_b 59) 26 = .ok (.iconst 4, 1) := by decide +kernel
theorem dd_59_27 : decode (am_b 59) 27 = .ok (.iushr, 1) := by decide +kernel
theorem dd_59_28 : decode (am_b 59) 28 = .ok (.iadd, 1) := by decide +kernel
theorem dd_59_29 : decode (am_b 59) 29 = .ok (.ldc_w 267, 3) := by decide +kernel
theorem dd_59_32 : decode (am_b 59) 32 = .ok (.iand, 1) := by decide +kernel
theorem dd_59_33 : decode (am_b 59) 33 = .ok (.istore_n 0, 1) := by decide +kernel
theorem dd_59_34 : decode (am_b 59) 34 = .ok (.iload_n 0, 1) := by decide +kernel
theorem dd_59_35 : decode (am_b 59) 35 = .ok (.iload_n 0, 1) := by decide +kernel
theorem dd_59_36 : decode (am_b 59) 36 = .ok (.bipush 8, 2) := by decide +kernel
theorem dd_59_38 : decode (am_b 59) 38 = .ok (.iushr, 1) := by decide +kernel
theorem dd_59_39 : decode (am_b 59) 39 = .ok (.iadd, 1) := by decide +kernel
theorem dd_59_40 : decode (am_b 59) 40 = .ok (.istore_n 0, 1) := by decide +kernel
theorem dd_59_41 : decode (am_b 59) 41 = .ok (.iload_n 0, 1) := by decide +kernel
theorem dd_59_42 : decode (am_b 59) 42 = .ok (.iload_n 0, 1) := by decide +kernel
theorem dd_59_43 : decode (am_b 59) 43 = .ok (.bipush 16, 2) := by decide +kernel
theorem dd_59_45 : decode (am_b 59) 45 = .ok (.iushr, 1) := by decide +kernel
theorem dd_59_46 : decode (am_b 59) 46 = .ok (.iadd, 1) := by decide +kernel
theorem dd_59_47 : decode (am_b 59) 47 = .ok (.istore_n 0, 1) := by decide +kernel
theorem dd_59_48 : decode (am_b 59) 48 = .ok (.iload_n 0, 1) := by decide +kernel
theorem dd_59_49 : decode (am_b 59) 49 = .ok (.bipush 63, 2) := by decide +kernel
theorem dd_59_51 : decode (am_b 59) 51 = .ok (.iand, 1) := by decide +kernel
theorem dd_59_52 : decode (am_b 59) 52 = .ok (.ireturn, 1) := by decide +kernel
theorem sg_59_0 {sh : am_Sh} {C : Nat → am_M → List am_V → am_O → Prop} {P : am_S ⊕ am_O → Prop} {M : am_M} {x0 : Int32}  (k : P (Sum.inr (M, Sum.inl (some (am_I ((((((((x0 - (((x0.toUInt32 >>> ((1 : Int32).toUInt32 &&& Int32.toUInt32 31)).toInt32) &&& 1431655765)) &&& 858993459) + ((((x0 - (((x0.toUInt32 >>> ((1 : Int32).toUInt32 &&& Int32.toUInt32 31)).toInt32) &&& 1431655765)).toUInt32 >>> ((2 : Int32).toUInt32 &&& Int32.toUInt32 31)).toInt32) &&& 858993459)) + (((((x0 - (((x0.toUInt32 >>> ((1 : Int32).toUInt32 &&& Int32.toUInt32 31)).toInt32) &&& 1431655765)) &&& 858993459) + ((((x0 - (((x0.toUInt32 >>> ((1 : Int32).toUInt32 &&& Int32.toUInt32 31)).toInt32) &&& 1431655765)).toUInt32 >>> ((2 : Int32).toUInt32 &&& Int32.toUInt32 31)).toInt32) &&& 858993459)).toUInt32 >>> ((4 : Int32).toUInt32 &&& Int32.toUInt32 31)).toInt32)) &&& 252645135) + (((((((x0 - (((x0.toUInt32 >>> ((1 : Int32).toUInt32 &&& Int32.toUInt32 31)).toInt32) &&& 1431655765)) &&& 858993459) + ((((x0 - (((x0.toUInt32 >>> ((1 : Int32).toUInt32 &&& Int32.toUInt32 31)).toInt32) &&& 1431655765)).toUInt32 >>> ((2 : Int32).toUInt32 &&& Int32.toUInt32 31)).toInt32) &&& 858993459)) + (((((x0 - (((x0.toUInt32 >>> ((1 : Int32).toUInt32 &&& Int32.toUInt32 31)).toInt32) &&& 1431655765)) &&& 858993459) + ((((x0 - (((x0.toUInt32 >>> ((1 : Int32).toUInt32 &&& Int32.toUInt32 31)).toInt32) &&& 1431655765)).toUInt32 >>> ((2 : Int32).toUInt32 &&& Int32.toUInt32 31)).toInt32) &&& 858993459)).toUInt32 >>> ((4 : Int32).toUInt32 &&& Int32.toUInt32 31)).toInt32)) &&& 252645135).toUInt32 >>> ((8 : Int32).toUInt32 &&& Int32.toUInt32 31)).toInt32)) + ((((((((x0 - (((x0.toUInt32 >>> ((1 : Int32).toUInt32 &&& Int32.toUInt32 31)).toInt32) &&& 1431655765)) &&& 858993459) + ((((x0 - (((x0.toUInt32 >>> ((1 : Int32).toUInt32 &&& Int32.toUInt32 31)).toInt32) &&& 1431655765)).toUInt32 >>> ((2 : Int32).toUInt32 &&& Int32.toUInt32 31)).toInt32) &&& 858993459)) + (((((x0 - (((x0.toUInt32 >>> ((1 : Int32).toUInt32 &&& Int32.toUInt32 31)).toInt32) &&& 1431655765)) &&& 858993459) + ((((x0 - (((x0.toUInt32 >>> ((1 : Int32).toUInt32 &&& Int32.toUInt32 31)).toInt32) &&& 1431655765)).toUInt32 >>> ((2 : Int32).toUInt32 &&& Int32.toUInt32 31)).toInt32) &&& 858993459)).toUInt32 >>> ((4 : Int32).toUInt32 &&& Int32.toUInt32 31)).toInt32)) &&& 252645135) + (((((((x0 - (((x0.toUInt32 >>> ((1 : Int32).toUInt32 &&& Int32.toUInt32 31)).toInt32) &&& 1431655765)) &&& 858993459) + ((((x0 - (((x0.toUInt32 >>> ((1 : Int32).toUInt32 &&& Int32.toUInt32 31)).toInt32) &&& 1431655765)).toUInt32 >>> ((2 : Int32).toUInt32 &&& Int32.toUInt32 31)).toInt32) &&& 858993459)) + (((((x0 - (((x0.toUInt32 >>> ((1 : Int32).toUInt32 &&& Int32.toUInt32 31)).toInt32) &&& 1431655765)) &&& 858993459) + ((((x0 - (((x0.toUInt32 >>> ((1 : Int32).toUInt32 &&& Int32.toUInt32 31)).toInt32) &&& 1431655765)).toUInt32 >>> ((2 : Int32).toUInt32 &&& Int32.toUInt32 31)).toInt32) &&& 858993459)).toUInt32 >>> ((4 : Int32).toUInt32 &&& Int32.toUInt32 31)).toInt32)) &&& 252645135).toUInt32 >>> ((8 : Int32).toUInt32 &&& Int32.toUInt32 31)).toInt32)).toUInt32 >>> ((16 : Int32).toUInt32 &&& Int32.toUInt32 31)).toInt32)) &&& 63)))))) : am_ev sh C 59 (0, [some (am_I x0)], [], M, 0) P := by
  refine am_e_iload_n dd_59_0 rfl rfl ?_
  refine am_e_iload_n dd_59_1 rfl rfl ?_
  refine am_e_iconst (v := 1) dd_59_2 rfl rfl ?_
  refine am_e_iushr dd_59_3 rfl ?_
  refine am_e_ldcw (v := 1431655765) dd_59_4 (by decide +kernel) rfl ?_
  refine am_e_iand dd_59_7 rfl ?_
  refine am_e_isub dd_59_8 rfl ?_
  refine am_e_istore_n dd_59_9 (Nat.le_of_ble_eq_true rfl) rfl rfl ?_
  refine am_e_iload_n dd_59_10 rfl rfl ?_
  refine am_e_ldcw (v := 858993459) dd_59_11 (by decide +kernel) rfl ?_
  refine am_e_iand dd_59_14 rfl ?_
  refine am_e_iload_n dd_59_15 rfl rfl ?_
  refine am_e_iconst (v := 2) dd_59_16 rfl rfl ?_
  refine am_e_iushr dd_59_17 rfl ?_
  refine am_e_ldcw (v := 858993459) dd_59_18 (by decide +kernel) rfl ?_
  refine am_e_iand dd_59_21 rfl ?_
  refine am_e_iadd dd_59_22 rfl ?_
  refine am_e_istore_n dd_59_23 (Nat.le_of_ble_eq_true rfl) rfl rfl ?_
  refine am_e_iload_n dd_59_24 rfl rfl ?_
  refine am_e_iload_n dd_59_25 rfl rfl ?_
  refine am_e_iconst (v := 4) dd_59_26 rfl rfl ?_
  refine am_e_iushr dd_59_27 rfl ?_
  refine am_e_iadd dd_59_28 rfl ?_
  refine am_e_ldcw (v := 252645135) dd_59_29 (by decide +kernel) rfl ?_
  refine am_e_iand dd_59_32 rfl ?_
  refine am_e_istore_n dd_59_33 (Nat.le_of_ble_eq_true rfl) rfl rfl ?_
  refine am_e_iload_n dd_59_34 rfl rfl ?_
  refine am_e_iload_n dd_59_35 rfl rfl ?_
  refine am_e_bipush (v := 8) dd_59_36 (by decide) rfl ?_
  refine am_e_iushr dd_59_38 rfl ?_
  refine am_e_iadd dd_59_39 rfl ?_
  refine am_e_istore_n dd_59_40 (Nat.le_of_ble_eq_true rfl) rfl rfl ?_
  refine am_e_iload_n dd_59_41 rfl rfl ?_
  refine am_e_iload_n dd_59_42 rfl rfl ?_
  refine am_e_bipush (v := 16) dd_59_43 (by decide) rfl ?_
  refine am_e_iushr dd_59_45 rfl ?_
  refine am_e_iadd dd_59_46 rfl ?_
  refine am_e_istore_n dd_59_47 (Nat.le_of_ble_eq_true rfl) rfl rfl ?_
  refine am_e_iload_n dd_59_48 rfl rfl ?_
  refine am_e_bipush (v := 63) dd_59_49 (by decide) rfl ?_
  refine am_e_iand dd_59_51 rfl ?_
  exact am_e_iret dd_59_52 (by decide +kernel) (Or.inl rfl) k

