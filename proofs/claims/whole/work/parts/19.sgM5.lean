-- the law, its loop (5)
theorem dd_121_1044 : decode (am_b 121) 1044 = .ok (.iconst 0, 1) := by decide +kernel
theorem dd_121_1045 : decode (am_b 121) 1045 = .ok (.ireturn, 1) := by decide +kernel
theorem dd_121_1046 : decode (am_b 121) 1046 = .ok (.iload 5, 2) := by decide +kernel
theorem dd_121_1048 : decode (am_b 121) 1048 = .ok (.ifCond .ne 15, 3) := by decide +kernel
theorem dd_121_1051 : decode (am_b 121) 1051 = .ok (.aload_n 3, 1) := by decide +kernel
theorem dd_121_1052 : decode (am_b 121) 1052 = .ok (.iconst 0, 1) := by decide +kernel
theorem dd_121_1053 : decode (am_b 121) 1053 = .ok (.laload, 1) := by decide +kernel
theorem dd_121_1054 : decode (am_b 121) 1054 = .ok (.iload 6, 2) := by decide +kernel
theorem dd_121_1056 : decode (am_b 121) 1056 = .ok (.i2l, 1) := by decide +kernel
theorem dd_121_1057 : decode (am_b 121) 1057 = .ok (.lcmp, 1) := by decide +kernel
theorem dd_121_1058 : decode (am_b 121) 1058 = .ok (.ifCond .eq 5, 3) := by decide +kernel
theorem dd_121_1061 : decode (am_b 121) 1061 = .ok (.iconst 0, 1) := by decide +kernel
theorem dd_121_1062 : decode (am_b 121) 1062 = .ok (.ireturn, 1) := by decide +kernel
theorem dd_121_1063 : decode (am_b 121) 1063 = .ok (.goto 97, 3) := by decide +kernel
theorem dd_121_1066 : decode (am_b 121) 1066 = .ok (.aload_n 1, 1) := by decide +kernel
theorem dd_121_1067 : decode (am_b 121) 1067 = .ok (.aload_n 0, 1) := by decide +kernel
theorem dd_121_1068 : decode (am_b 121) 1068 = .ok (.iload 4, 2) := by decide +kernel
theorem dd_121_1070 : decode (am_b 121) 1070 = .ok (.iconst 1, 1) := by decide +kernel
theorem dd_121_1071 : decode (am_b 121) 1071 = .ok (.iadd, 1) := by decide +kernel
theorem dd_121_1072 : decode (am_b 121) 1072 = .ok (.iaload, 1) := by decide +kernel
theorem dd_121_1073 : decode (am_b 121) 1073 = .ok (.aload_n 0, 1) := by decide +kernel
theorem dd_121_1074 : decode (am_b 121) 1074 = .ok (.iload 4, 2) := by decide +kernel
theorem dd_121_1076 : decode (am_b 121) 1076 = .ok (.iconst 2, 1) := by decide +kernel
theorem dd_121_1077 : decode (am_b 121) 1077 = .ok (.iadd, 1) := by decide +kernel
theorem dd_121_1078 : decode (am_b 121) 1078 = .ok (.iaload, 1) := by decide +kernel
theorem dd_121_1079 : decode (am_b 121) 1079 = .ok (.aload_n 3, 1) := by decide +kernel
theorem dd_121_1080 : decode (am_b 121) 1080 = .ok (.invokestatic 129, 3) := by decide +kernel
theorem dd_121_1083 : decode (am_b 121) 1083 = .ok (.istore 5, 2) := by decide +kernel
theorem dd_121_1085 : decode (am_b 121) 1085 = .ok (.aload_n 2, 1) := by decide +kernel
theorem dd_121_1086 : decode (am_b 121) 1086 = .ok (.aload_n 0, 1) := by decide +kernel
theorem dd_121_1087 : decode (am_b 121) 1087 = .ok (.iload 4, 2) := by decide +kernel
theorem dd_121_1089 : decode (am_b 121) 1089 = .ok (.iconst 1, 1) := by decide +kernel
theorem dd_121_1090 : decode (am_b 121) 1090 = .ok (.iadd, 1) := by decide +kernel
theorem dd_121_1091 : decode (am_b 121) 1091 = .ok (.iaload, 1) := by decide +kernel
theorem dd_121_1092 : decode (am_b 121) 1092 = .ok (.aload_n 0, 1) := by decide +kernel
theorem dd_121_1093 : decode (am_b 121) 1093 = .ok (.iload 4, 2) := by decide +kernel
theorem dd_121_1095 : decode (am_b 121) 1095 = .ok (.iconst 2, 1) := by decide +kernel
theorem dd_121_1096 : decode (am_b 121) 1096 = .ok (.iadd, 1) := by decide +kernel
theorem dd_121_1097 : decode (am_b 121) 1097 = .ok (.iaload, 1) := by decide +kernel
theorem dd_121_1098 : decode (am_b 121) 1098 = .ok (.invokevirtual 131, 3) := by decide +kernel
theorem dd_121_1101 : decode (am_b 121) 1101 = .ok (.istore 6, 2) := by decide +kernel
theorem dd_121_1103 : decode (am_b 121) 1103 = .ok (.aload_n 2, 1) := by decide +kernel
theorem dd_121_1104 : decode (am_b 121) 1104 = .ok (.invokevirtual 75, 3) := by decide +kernel
theorem dd_121_1107 : decode (am_b 121) 1107 = .ok (.iload 5, 2) := by decide +kernel
theorem dd_121_1109 : decode (am_b 121) 1109 = .ok (.if_icmp .eq 5, 3) := by decide +kernel
theorem dd_121_1112 : decode (am_b 121) 1112 = .ok (.iconst 0, 1) := by decide +kernel
theorem dd_121_1113 : decode (am_b 121) 1113 = .ok (.ireturn, 1) := by decide +kernel
theorem dd_121_1114 : decode (am_b 121) 1114 = .ok (.iload 5, 2) := by decide +kernel
theorem dd_121_1116 : decode (am_b 121) 1116 = .ok (.ifCond .ne 15, 3) := by decide +kernel
theorem dd_121_1119 : decode (am_b 121) 1119 = .ok (.aload_n 3, 1) := by decide +kernel
theorem dd_121_1120 : decode (am_b 121) 1120 = .ok (.iconst 0, 1) := by decide +kernel
theorem dd_121_1121 : decode (am_b 121) 1121 = .ok (.laload, 1) := by decide +kernel
theorem dd_121_1122 : decode (am_b 121) 1122 = .ok (.iload 6, 2) := by decide +kernel
theorem dd_121_1124 : decode (am_b 121) 1124 = .ok (.i2l, 1) := by decide +kernel
theorem dd_121_1125 : decode (am_b 121) 1125 = .ok (.lcmp, 1) := by decide +kernel
theorem dd_121_1126 : decode (am_b 121) 1126 = .ok (.ifCond .eq 5, 3) := by decide +kernel
theorem dd_121_1129 : decode (am_b 121) 1129 = .ok (.iconst 0, 1) := by decide +kernel
theorem dd_121_1130 : decode (am_b 121) 1130 = .ok (.ireturn, 1) := by decide +kernel
theorem dd_121_1131 : decode (am_b 121) 1131 = .ok (.goto 29, 3) := by decide +kernel
theorem dd_121_1134 : decode (am_b 121) 1134 = .ok (.aload_n 1, 1) := by decide +kernel
theorem dd_121_1135 : decode (am_b 121) 1135 = .ok (.invokevirtual 132, 3) := by decide +kernel
theorem dd_121_1138 : decode (am_b 121) 1138 = .ok (.aload_n 2, 1) := by decide +kernel
theorem dd_121_1139 : decode (am_b 121) 1139 = .ok (.invokevirtual 135, 3) := by decide +kernel
theorem dd_121_1142 : decode (am_b 121) 1142 = .ok (.if_icmp .eq 18, 3) := by decide +kernel
theorem dd_121_1145 : decode (am_b 121) 1145 = .ok (.iconst 0, 1) := by decide +kernel
theorem dd_121_1146 : decode (am_b 121) 1146 = .ok (.ireturn, 1) := by decide +kernel
theorem dd_121_1147 : decode (am_b 121) 1147 = .ok (.aload_n 1, 1) := by decide +kernel
theorem dd_121_1148 : decode (am_b 121) 1148 = .ok (.invokevirtual 136, 3) := by decide +kernel
theorem dd_121_1151 : decode (am_b 121) 1151 = .ok (.aload_n 2, 1) := by decide +kernel
theorem dd_121_1152 : decode (am_b 121) 1152 = .ok (.invokevirtual 139, 3) := by decide +kernel
theorem dd_121_1155 : decode (am_b 121) 1155 = .ok (.if_icmp .eq 5, 3) := by decide +kernel
theorem dd_121_1158 : decode (am_b 121) 1158 = .ok (.iconst 0, 1) := by decide +kernel
theorem dd_121_1159 : decode (am_b 121) 1159 = .ok (.ireturn, 1) := by decide +kernel
theorem dd_121_1166 : decode (am_b 121) 1166 = .ok (.iconst 1, 1) := by decide +kernel
theorem dd_121_1167 : decode (am_b 121) 1167 = .ok (.ireturn, 1) := by decide +kernel
theorem sg_121_1044 {sh : am_Sh} {C : Nat → am_M → List am_V → am_O → Prop} {P : am_S ⊕ am_O → Prop} {M : am_M} {x4 : Int32} {x5 : Int32} {x6 : Int32}  (k : P (Sum.inr (M, Sum.inl (some (am_I 0))))) : am_ev sh C 121 (1044, [some (am_R (some (31, 0, 0))), some (am_R (some (0, 0, 0))), some (am_R (some (20, 0, 0))), some (am_R (some (30, 0, 0))), some (am_I x4), some (am_I x5), some (am_I x6)], [], M, 2) P := by
  refine am_e_iconst (v := 0) dd_121_1044 rfl rfl ?_
  exact am_e_iret dd_121_1045 (by decide +kernel) (Or.inr ⟨rfl, Or.inl rfl⟩) k

theorem sg_121_1046 {sh : am_Sh} {C : Nat → am_M → List am_V → am_O → Prop} {P : am_S ⊕ am_O → Prop} {M : am_M} {x4 : Int32} {x5 : Int32} {x6 : Int32}  (k1 : ¬ x5 = 0 → am_ev sh C 121 (1063, [some (am_R (some (31, 0, 0))), some (am_R (some (0, 0, 0))), some (am_R (some (20, 0, 0))), some (am_R (some (30, 0, 0))), some (am_I x4), some (am_I x5), some (am_I x6)], [], M, 2) P) (k2 : x5 = 0 → am_ev sh C 121 (1051, [some (am_R (some (31, 0, 0))), some (am_R (some (0, 0, 0))), some (am_R (some (20, 0, 0))), some (am_R (some (30, 0, 0))), some (am_I x4), some (am_I x5), some (am_I x6)], [], M, 2) P) : am_ev sh C 121 (1046, [some (am_R (some (31, 0, 0))), some (am_R (some (0, 0, 0))), some (am_R (some (20, 0, 0))), some (am_R (some (30, 0, 0))), some (am_I x4), some (am_I x5), some (am_I x6)], [], M, 2) P := by
  refine am_e_iload dd_121_1046 rfl rfl ?_
  exact am_a_if_ne (tgt := 1063) (pc' := 1051) dd_121_1048 rfl rfl k1 k2

theorem sg_121_1051 {sh : am_Sh} {C : Nat → am_M → List am_V → am_O → Prop} {P : am_S ⊕ am_O → Prop} {M : am_M} {x4 : Int32} {x5 : Int32} {x6 : Int32}  (k1 : (lg_cmp (M (30, 0, 0) 0).toInt64 (x6).toInt64) = 0 → am_ev sh C 121 (1063, [some (am_R (some (31, 0, 0))), some (am_R (some (0, 0, 0))), some (am_R (some (20, 0, 0))), some (am_R (some (30, 0, 0))), some (am_I x4), some (am_I x5), some (am_I x6)], [], M, 2) P) (k2 : ¬ (lg_cmp (M (30, 0, 0) 0).toInt64 (x6).toInt64) = 0 → am_ev sh C 121 (1061, [some (am_R (some (31, 0, 0))), some (am_R (some (0, 0, 0))), some (am_R (some (20, 0, 0))), some (am_R (some (30, 0, 0))), some (am_I x4), some (am_I x5), some (am_I x6)], [], M, 2) P) : am_ev sh C 121 (1051, [some (am_R (some (31, 0, 0))), some (am_R (some (0, 0, 0))), some (am_R (some (20, 0, 0))), some (am_R (some (30, 0, 0))), some (am_I x4), some (am_I x5), some (am_I x6)], [], M, 2) P := by
  refine am_e_aload_n dd_121_1051 rfl rfl ?_
  refine am_e_iconst (v := 0) dd_121_1052 rfl rfl ?_
  refine am_a_lald dd_121_1053 rfl rfl (by decide) (by decide) rfl ?_
  refine am_e_iload dd_121_1054 rfl rfl ?_
  refine am_e_i2l dd_121_1056 rfl ?_
  refine am_e_lcmp dd_121_1057 rfl ?_
  exact am_a_if_eq (tgt := 1063) (pc' := 1061) dd_121_1058 rfl rfl k1 k2

theorem sg_121_1061 {sh : am_Sh} {C : Nat → am_M → List am_V → am_O → Prop} {P : am_S ⊕ am_O → Prop} {M : am_M} {x4 : Int32} {x5 : Int32} {x6 : Int32}  (k : P (Sum.inr (M, Sum.inl (some (am_I 0))))) : am_ev sh C 121 (1061, [some (am_R (some (31, 0, 0))), some (am_R (some (0, 0, 0))), some (am_R (some (20, 0, 0))), some (am_R (some (30, 0, 0))), some (am_I x4), some (am_I x5), some (am_I x6)], [], M, 2) P := by
  refine am_e_iconst (v := 0) dd_121_1061 rfl rfl ?_
  exact am_e_iret dd_121_1062 (by decide +kernel) (Or.inr ⟨rfl, Or.inl rfl⟩) k

theorem sg_121_1063 {sh : am_Sh} {C : Nat → am_M → List am_V → am_O → Prop} {P : am_S ⊕ am_O → Prop} {M : am_M} {x4 : Int32} {x5 : Int32} {x6 : Int32}  (k : am_ev sh C 121 (1160, [some (am_R (some (31, 0, 0))), some (am_R (some (0, 0, 0))), some (am_R (some (20, 0, 0))), some (am_R (some (30, 0, 0))), some (am_I x4), some (am_I x5), some (am_I x6)], [], M, 2) P) : am_ev sh C 121 (1063, [some (am_R (some (31, 0, 0))), some (am_R (some (0, 0, 0))), some (am_R (some (20, 0, 0))), some (am_R (some (30, 0, 0))), some (am_I x4), some (am_I x5), some (am_I x6)], [], M, 2) P := by
  refine am_e_goto (pc' := 1160) dd_121_1063 rfl ?_
  exact k

theorem sg_121_1066 {sh : am_Sh} {C : Nat → am_M → List am_V → am_O → Prop} {P : am_S ⊕ am_O → Prop} {M : am_M} {x4 : Int32} {u5 : Option am_V} {u6 : Option am_V} {j1 : Nat} {j2 : Nat} {M1 : am_M} {r1 : Int32} {M2 : am_M} {r2 : Int32} {M3 : am_M} {r3 : Int32} (hL : sh.2.2.2 < 2147483648) (hx_j1 : x4 + 1 = nI j1) (hl_j1 : j1 < sh.2.2.2) (hx_j2 : x4 + 2 = nI j2) (hl_j2 : j2 < sh.2.2.2) (hc1 : C 120 M [am_R (some (0, 0, 0)), am_I (M (31, 0, 0) j1), am_I (M (31, 0, 0) j2), am_R (some (30, 0, 0))] (M1, Sum.inl (some (am_I r1)))) (hc2 : C 104 M1 [am_R (some (20, 0, 0)), am_I (M1 (31, 0, 0) j1), am_I (M1 (31, 0, 0) j2)] (M2, Sum.inl (some (am_I r2)))) (hc3 : C 60 M2 [am_R (some (20, 0, 0))] (M3, Sum.inl (some (am_I r3)))) (k1 : r3 = r1 → am_ev sh C 121 (1114, [some (am_R (some (31, 0, 0))), some (am_R (some (0, 0, 0))), some (am_R (some (20, 0, 0))), some (am_R (some (30, 0, 0))), some (am_I x4), some (am_I r1), some (am_I r2)], [], M3, 2) P) (k2 : ¬ r3 = r1 → am_ev sh C 121 (1112, [some (am_R (some (31, 0, 0))), some (am_R (some (0, 0, 0))), some (am_R (some (20, 0, 0))), some (am_R (some (30, 0, 0))), some (am_I x4), some (am_I r1), some (am_I r2)], [], M3, 2) P) : am_ev sh C 121 (1066, [some (am_R (some (31, 0, 0))), some (am_R (some (0, 0, 0))), some (am_R (some (20, 0, 0))), some (am_R (some (30, 0, 0))), some (am_I x4), u5, u6], [], M, 0) P := by
  refine am_e_aload_n dd_121_1066 rfl rfl ?_
  refine am_e_aload_n dd_121_1067 rfl rfl ?_
  refine am_e_iload dd_121_1068 rfl rfl ?_
  refine am_e_iconst (v := 1) dd_121_1070 rfl rfl ?_
  refine am_e_iadd dd_121_1071 rfl ?_
  refine am_a_sald dd_121_1072 rfl hx_j1 hl_j1 hL rfl ?_
  refine am_e_aload_n dd_121_1073 rfl rfl ?_
  refine am_e_iload dd_121_1074 rfl rfl ?_
  refine am_e_iconst (v := 2) dd_121_1076 rfl rfl ?_
  refine am_e_iadd dd_121_1077 rfl ?_
  refine am_a_sald dd_121_1078 rfl hx_j2 hl_j2 hL rfl ?_
  refine am_e_aload_n dd_121_1079 rfl rfl ?_
  refine am_e_callS (c := 120) (k := 4) (as := [am_R (some (0, 0, 0)), am_I (M (31, 0, 0) j1), am_I (M (31, 0, 0) j2), am_R (some (30, 0, 0))]) (S' := [am_I r1]) (v := some (am_I r1)) (M' := M1) (n' := 2) dd_121_1080 (by decide +kernel) (by decide +kernel) ⟨Nat.le_of_ble_eq_true rfl, Nat.le_of_ble_eq_true rfl, by decide +kernel, (Or.inl rfl)⟩ rfl rfl (by decide +kernel) hc1 rfl ?_
  refine am_e_istore dd_121_1083 (Nat.le_of_ble_eq_true rfl) rfl rfl ?_
  refine am_e_aload_n dd_121_1085 rfl rfl ?_
  refine am_e_aload_n dd_121_1086 rfl rfl ?_
  refine am_e_iload dd_121_1087 rfl rfl ?_
  refine am_e_iconst (v := 1) dd_121_1089 rfl rfl ?_
  refine am_e_iadd dd_121_1090 rfl ?_
  refine am_a_sald dd_121_1091 rfl hx_j1 hl_j1 hL rfl ?_
  refine am_e_aload_n dd_121_1092 rfl rfl ?_
  refine am_e_iload dd_121_1093 rfl rfl ?_
  refine am_e_iconst (v := 2) dd_121_1095 rfl rfl ?_
  refine am_e_iadd dd_121_1096 rfl ?_
  refine am_a_sald dd_121_1097 rfl hx_j2 hl_j2 hL rfl ?_
  refine am_e_callV (c := 104) (k := 3) (as := [am_R (some (20, 0, 0)), am_I (M1 (31, 0, 0) j1), am_I (M1 (31, 0, 0) j2)]) (S' := [am_I r2]) (v := some (am_I r2)) (M' := M2) (n' := 2) dd_121_1098 (by decide +kernel) ⟨Nat.le_of_ble_eq_true rfl, Nat.le_of_ble_eq_true rfl, by decide +kernel, (Or.inr (am_rcv_of rfl))⟩ rfl rfl (by decide +kernel) hc2 rfl ?_
  refine am_e_istore dd_121_1101 (Nat.le_of_ble_eq_true rfl) rfl rfl ?_
  refine am_e_aload_n dd_121_1103 rfl rfl ?_
  refine am_e_callV (c := 60) (k := 1) (as := [am_R (some (20, 0, 0))]) (S' := [am_I r3]) (v := some (am_I r3)) (M' := M3) (n' := 2) dd_121_1104 (by decide +kernel) ⟨Nat.le_of_ble_eq_true rfl, Nat.le_of_ble_eq_true rfl, by decide +kernel, (Or.inr (am_rcv_of rfl))⟩ rfl rfl (by decide +kernel) hc3 rfl ?_
  refine am_e_iload dd_121_1107 rfl rfl ?_
  exact am_a_icmp_eq (tgt := 1114) (pc' := 1112) dd_121_1109 rfl rfl k1 k2

theorem sg_121_1112 {sh : am_Sh} {C : Nat → am_M → List am_V → am_O → Prop} {P : am_S ⊕ am_O → Prop} {M : am_M} {x4 : Int32} {x5 : Int32} {x6 : Int32}  (k : P (Sum.inr (M, Sum.inl (some (am_I 0))))) : am_ev sh C 121 (1112, [some (am_R (some (31, 0, 0))), some (am_R (some (0, 0, 0))), some (am_R (some (20, 0, 0))), some (am_R (some (30, 0, 0))), some (am_I x4), some (am_I x5), some (am_I x6)], [], M, 2) P := by
  refine am_e_iconst (v := 0) dd_121_1112 rfl rfl ?_
  exact am_e_iret dd_121_1113 (by decide +kernel) (Or.inr ⟨rfl, Or.inl rfl⟩) k

theorem sg_121_1114 {sh : am_Sh} {C : Nat → am_M → List am_V → am_O → Prop} {P : am_S ⊕ am_O → Prop} {M : am_M} {x4 : Int32} {x5 : Int32} {x6 : Int32}  (k1 : ¬ x5 = 0 → am_ev sh C 121 (1131, [some (am_R (some (31, 0, 0))), some (am_R (some (0, 0, 0))), some (am_R (some (20, 0, 0))), some (am_R (some (30, 0, 0))), some (am_I x4), some (am_I x5), some (am_I x6)], [], M, 2) P) (k2 : x5 = 0 → am_ev sh C 121 (1119, [some (am_R (some (31, 0, 0))), some (am_R (some (0, 0, 0))), some (am_R (some (20, 0, 0))), some (am_R (some (30, 0, 0))), some (am_I x4), some (am_I x5), some (am_I x6)], [], M, 2) P) : am_ev sh C 121 (1114, [some (am_R (some (31, 0, 0))), some (am_R (some (0, 0, 0))), some (am_R (some (20, 0, 0))), some (am_R (some (30, 0, 0))), some (am_I x4), some (am_I x5), some (am_I x6)], [], M, 2) P := by
  refine am_e_iload dd_121_1114 rfl rfl ?_
  exact am_a_if_ne (tgt := 1131) (pc' := 1119) dd_121_1116 rfl rfl k1 k2

theorem sg_121_1119 {sh : am_Sh} {C : Nat → am_M → List am_V → am_O → Prop} {P : am_S ⊕ am_O → Prop} {M : am_M} {x4 : Int32} {x5 : Int32} {x6 : Int32}  (k1 : (lg_cmp (M (30, 0, 0) 0).toInt64 (x6).toInt64) = 0 → am_ev sh C 121 (1131, [some (am_R (some (31, 0, 0))), some (am_R (some (0, 0, 0))), some (am_R (some (20, 0, 0))), some (am_R (some (30, 0, 0))), some (am_I x4), some (am_I x5), some (am_I x6)], [], M, 2) P) (k2 : ¬ (lg_cmp (M (30, 0, 0) 0).toInt64 (x6).toInt64) = 0 → am_ev sh C 121 (1129, [some (am_R (some (31, 0, 0))), some (am_R (some (0, 0, 0))), some (am_R (some (20, 0, 0))), some (am_R (some (30, 0, 0))), some (am_I x4), some (am_I x5), some (am_I x6)], [], M, 2) P) : am_ev sh C 121 (1119, [some (am_R (some (31, 0, 0))), some (am_R (some (0, 0, 0))), some (am_R (some (20, 0, 0))), some (am_R (some (30, 0, 0))), some (am_I x4), some (am_I x5), some (am_I x6)], [], M, 2) P := by
  refine am_e_aload_n dd_121_1119 rfl rfl ?_
  refine am_e_iconst (v := 0) dd_121_1120 rfl rfl ?_
  refine am_a_lald dd_121_1121 rfl rfl (by decide) (by decide) rfl ?_
  refine am_e_iload dd_121_1122 rfl rfl ?_
  refine am_e_i2l dd_121_1124 rfl ?_
  refine am_e_lcmp dd_121_1125 rfl ?_
  exact am_a_if_eq (tgt := 1131) (pc' := 1129) dd_121_1126 rfl rfl k1 k2

theorem sg_121_1129 {sh : am_Sh} {C : Nat → am_M → List am_V → am_O → Prop} {P : am_S ⊕ am_O → Prop} {M : am_M} {x4 : Int32} {x5 : Int32} {x6 : Int32}  (k : P (Sum.inr (M, Sum.inl (some (am_I 0))))) : am_ev sh C 121 (1129, [some (am_R (some (31, 0, 0))), some (am_R (some (0, 0, 0))), some (am_R (some (20, 0, 0))), some (am_R (some (30, 0, 0))), some (am_I x4), some (am_I x5), some (am_I x6)], [], M, 2) P := by
  refine am_e_iconst (v := 0) dd_121_1129 rfl rfl ?_
  exact am_e_iret dd_121_1130 (by decide +kernel) (Or.inr ⟨rfl, Or.inl rfl⟩) k

theorem sg_121_1131 {sh : am_Sh} {C : Nat → am_M → List am_V → am_O → Prop} {P : am_S ⊕ am_O → Prop} {M : am_M} {x4 : Int32} {x5 : Int32} {x6 : Int32}  (k : am_ev sh C 121 (1160, [some (am_R (some (31, 0, 0))), some (am_R (some (0, 0, 0))), some (am_R (some (20, 0, 0))), some (am_R (some (30, 0, 0))), some (am_I x4), some (am_I x5), some (am_I x6)], [], M, 2) P) : am_ev sh C 121 (1131, [some (am_R (some (31, 0, 0))), some (am_R (some (0, 0, 0))), some (am_R (some (20, 0, 0))), some (am_R (some (30, 0, 0))), some (am_I x4), some (am_I x5), some (am_I x6)], [], M, 2) P := by
  refine am_e_goto (pc' := 1160) dd_121_1131 rfl ?_
  exact k

theorem sg_121_1134 {sh : am_Sh} {C : Nat → am_M → List am_V → am_O → Prop} {P : am_S ⊕ am_O → Prop} {M : am_M} {x4 : Int32} {u5 : Option am_V} {u6 : Option am_V} {M1 : am_M} {r1 : Int32} {M2 : am_M} {r2 : Int32} (hc1 : C 21 M [am_R (some (0, 0, 0))] (M1, Sum.inl (some (am_I r1)))) (hc2 : C 105 M1 [am_R (some (20, 0, 0))] (M2, Sum.inl (some (am_I r2)))) (k1 : r1 = r2 → am_ev sh C 121 (1160, [some (am_R (some (31, 0, 0))), some (am_R (some (0, 0, 0))), some (am_R (some (20, 0, 0))), some (am_R (some (30, 0, 0))), some (am_I x4), u5, u6], [], M2, 0) P) (k2 : ¬ r1 = r2 → am_ev sh C 121 (1145, [some (am_R (some (31, 0, 0))), some (am_R (some (0, 0, 0))), some (am_R (some (20, 0, 0))), some (am_R (some (30, 0, 0))), some (am_I x4), u5, u6], [], M2, 0) P) : am_ev sh C 121 (1134, [some (am_R (some (31, 0, 0))), some (am_R (some (0, 0, 0))), some (am_R (some (20, 0, 0))), some (am_R (some (30, 0, 0))), some (am_I x4), u5, u6], [], M, 0) P := by
  refine am_e_aload_n dd_121_1134 rfl rfl ?_
  refine am_e_callV (c := 21) (k := 1) (as := [am_R (some (0, 0, 0))]) (S' := [am_I r1]) (v := some (am_I r1)) (M' := M1) (n' := 0) dd_121_1135 (by decide +kernel) ⟨Nat.le_of_ble_eq_true rfl, Nat.le_of_ble_eq_true rfl, by decide +kernel, (Or.inr (am_rcv_of rfl))⟩ rfl rfl (by decide +kernel) hc1 rfl ?_
  refine am_e_aload_n dd_121_1138 rfl rfl ?_
  refine am_e_callV (c := 105) (k := 1) (as := [am_R (some (20, 0, 0))]) (S' := [am_I r2, am_I r1]) (v := some (am_I r2)) (M' := M2) (n' := 0) dd_121_1139 (by decide +kernel) ⟨Nat.le_of_ble_eq_true rfl, Nat.le_of_ble_eq_true rfl, by decide +kernel, (Or.inr (am_rcv_of rfl))⟩ rfl rfl (by decide +kernel) hc2 rfl ?_
  exact am_a_icmp_eq (tgt := 1160) (pc' := 1145) dd_121_1142 rfl rfl k1 k2

theorem sg_121_1145 {sh : am_Sh} {C : Nat → am_M → List am_V → am_O → Prop} {P : am_S ⊕ am_O → Prop} {M : am_M} {x4 : Int32} {u5 : Option am_V} {u6 : Option am_V}  (k : P (Sum.inr (M, Sum.inl (some (am_I 0))))) : am_ev sh C 121 (1145, [some (am_R (some (31, 0, 0))), some (am_R (some (0, 0, 0))), some (am_R (some (20, 0, 0))), some (am_R (some (30, 0, 0))), some (am_I x4), u5, u6], [], M, 0) P := by
  refine am_e_iconst (v := 0) dd_121_1145 rfl rfl ?_
  exact am_e_iret dd_121_1146 (by decide +kernel) (Or.inr ⟨rfl, Or.inl rfl⟩) k

theorem sg_121_1147 {sh : am_Sh} {C : Nat → am_M → List am_V → am_O → Prop} {P : am_S ⊕ am_O → Prop} {M : am_M} {x4 : Int32} {u5 : Option am_V} {u6 : Option am_V} {M1 : am_M} {r1 : Int32} {M2 : am_M} {r2 : Int32} (hc1 : C 22 M [am_R (some (0, 0, 0))] (M1, Sum.inl (some (am_I r1)))) (hc2 : C 106 M1 [am_R (some (20, 0, 0))] (M2, Sum.inl (some (am_I r2)))) (k1 : r1 = r2 → am_ev sh C 121 (1160, [some (am_R (some (31, 0, 0))), some (am_R (some (0, 0, 0))), some (am_R (some (20, 0, 0))), some (am_R (some (30, 0, 0))), some (am_I x4), u5, u6], [], M2, 0) P) (k2 : ¬ r1 = r2 → am_ev sh C 121 (1158, [some (am_R (some (31, 0, 0))), some (am_R (some (0, 0, 0))), some (am_R (some (20, 0, 0))), some (am_R (some (30, 0, 0))), some (am_I x4), u5, u6], [], M2, 0) P) : am_ev sh C 121 (1147, [some (am_R (some (31, 0, 0))), some (am_R (some (0, 0, 0))), some (am_R (some (20, 0, 0))), some (am_R (some (30, 0, 0))), some (am_I x4), u5, u6], [], M, 0) P := by
  refine am_e_aload_n dd_121_1147 rfl rfl ?_
  refine am_e_callV (c := 22) (k := 1) (as := [am_R (some (0, 0, 0))]) (S' := [am_I r1]) (v := some (am_I r1)) (M' := M1) (n' := 0) dd_121_1148 (by decide +kernel) ⟨Nat.le_of_ble_eq_true rfl, Nat.le_of_ble_eq_true rfl, by decide +kernel, (Or.inr (am_rcv_of rfl))⟩ rfl rfl (by decide +kernel) hc1 rfl ?_
  refine am_e_aload_n dd_121_1151 rfl rfl ?_
  refine am_e_callV (c := 106) (k := 1) (as := [am_R (some (20, 0, 0))]) (S' := [am_I r2, am_I r1]) (v := some (am_I r2)) (M' := M2) (n' := 0) dd_121_1152 (by decide +kernel) ⟨Nat.le_of_ble_eq_true rfl, Nat.le_of_ble_eq_true rfl, by decide +kernel, (Or.inr (am_rcv_of rfl))⟩ rfl rfl (by decide +kernel) hc2 rfl ?_
  exact am_a_icmp_eq (tgt := 1160) (pc' := 1158) dd_121_1155 rfl rfl k1 k2

theorem sg_121_1158 {sh : am_Sh} {C : Nat → am_M → List am_V → am_O → Prop} {P : am_S ⊕ am_O → Prop} {M : am_M} {x4 : Int32} {u5 : Option am_V} {u6 : Option am_V}  (k : P (Sum.inr (M, Sum.inl (some (am_I 0))))) : am_ev sh C 121 (1158, [some (am_R (some (31, 0, 0))), some (am_R (some (0, 0, 0))), some (am_R (some (20, 0, 0))), some (am_R (some (30, 0, 0))), some (am_I x4), u5, u6], [], M, 0) P := by
  refine am_e_iconst (v := 0) dd_121_1158 rfl rfl ?_
  exact am_e_iret dd_121_1159 (by decide +kernel) (Or.inr ⟨rfl, Or.inl rfl⟩) k

theorem sg_121_1166 {sh : am_Sh} {C : Nat → am_M → List am_V → am_O → Prop} {P : am_S ⊕ am_O → Prop} {M : am_M} {x4 : Int32} {u5 : Option am_V} {u6 : Option am_V}  (k : P (Sum.inr (M, Sum.inl (some (am_I 1))))) : am_ev sh C 121 (1166, [some (am_R (some (31, 0, 0))), some (am_R (some (0, 0, 0))), some (am_R (some (20, 0, 0))), some (am_R (some (30, 0, 0))), some (am_I x4), u5, u6], [], M, 0) P := by
  refine am_e_iconst (v := 1) dd_121_1166 rfl rfl ?_
  exact am_e_iret dd_121_1167 (by decide +kernel) (Or.inr ⟨rfl, Or.inr rfl⟩) k

