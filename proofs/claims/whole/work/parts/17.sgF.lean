-- 60: CacheLadderModel.thrown()I
theorem dd_60_0 : decode (am_b 60) 0 = .ok (.aload_n 0, 1) := by decide +kernel
theorem dd_60_1 : decode (am_b 60) 1 = .ok (.getfield 83, 3) := by decide +kernel
theorem dd_60_4 : decode (am_b 60) 4 = .ok (.ireturn, 1) := by decide +kernel
theorem sg_60_0 {sh : am_Sh} {C : Nat → am_M → List am_V → am_O → Prop} {P : am_S ⊕ am_O → Prop} {M : am_M}   (k : P (Sum.inr (M, Sum.inl (some (am_I (M (20, 0, 0) 0)))))) : am_ev sh C 60 (0, [some (am_R (some (20, 0, 0)))], [], M, 0) P := by
  refine am_e_aload_n dd_60_0 rfl rfl ?_
  refine am_e_gf (ci := 3) (j := 0) (v := am_I (M (20, 0, 0) 0)) dd_60_1 (by decide +kernel) rfl rfl rfl ?_
  exact am_e_iret dd_60_4 (by decide +kernel) (Or.inl rfl) k

-- 61: CacheLadderModel.tier(IIIIZ)I
theorem dd_61_0 : decode (am_b 61) 0 = .ok (.iload_n 1, 1) := by decide +kernel
theorem dd_61_1 : decode (am_b 61) 1 = .ok (.iconst 1, 1) := by decide +kernel
theorem dd_61_2 : decode (am_b 61) 2 = .ok (.if_icmp .eq 25, 3) := by decide +kernel
theorem dd_61_5 : decode (am_b 61) 5 = .ok (.iload_n 1, 1) := by decide +kernel
theorem dd_61_6 : decode (am_b 61) 6 = .ok (.iconst 2, 1) := by decide +kernel
theorem dd_61_7 : decode (am_b 61) 7 = .ok (.if_icmp .eq 20, 3) := by decide +kernel
theorem dd_61_10 : decode (am_b 61) 10 = .ok (.iload_n 1, 1) := by decide +kernel
theorem dd_61_11 : decode (am_b 61) 11 = .ok (.iconst 4, 1) := by decide +kernel
theorem dd_61_12 : decode (am_b 61) 12 = .ok (.if_icmp .eq 15, 3) := by decide +kernel
theorem dd_61_15 : decode (am_b 61) 15 = .ok (.iload_n 1, 1) := by decide +kernel
theorem dd_61_16 : decode (am_b 61) 16 = .ok (.bipush 8, 2) := by decide +kernel
theorem dd_61_18 : decode (am_b 61) 18 = .ok (.if_icmp .eq 9, 3) := by decide +kernel
theorem dd_61_21 : decode (am_b 61) 21 = .ok (.iload_n 1, 1) := by decide +kernel
theorem dd_61_22 : decode (am_b 61) 22 = .ok (.bipush 16, 2) := by decide +kernel
theorem dd_61_24 : decode (am_b 61) 24 = .ok (.if_icmp .ne 7, 3) := by decide +kernel
theorem dd_61_27 : decode (am_b 61) 27 = .ok (.iconst 1, 1) := by decide +kernel
theorem dd_61_28 : decode (am_b 61) 28 = .ok (.goto 4, 3) := by decide +kernel
theorem dd_61_31 : decode (am_b 61) 31 = .ok (.iconst 0, 1) := by decide +kernel
theorem dd_61_32 : decode (am_b 61) 32 = .ok (.istore 6, 2) := by decide +kernel
theorem dd_61_34 : decode (am_b 61) 34 = .ok (.iload 6, 2) := by decide +kernel
theorem dd_61_36 : decode (am_b 61) 36 = .ok (.ifCond .eq 35, 3) := by decide +kernel
theorem dd_61_39 : decode (am_b 61) 39 = .ok (.iload_n 2, 1) := by decide +kernel
theorem dd_61_40 : decode (am_b 61) 40 = .ok (.iconst 1, 1) := by decide +kernel
theorem dd_61_41 : decode (am_b 61) 41 = .ok (.iconst 4, 1) := by decide +kernel
theorem dd_61_42 : decode (am_b 61) 42 = .ok (.invokestatic 174, 3) := by decide +kernel
theorem dd_61_45 : decode (am_b 61) 45 = .ok (.ifCond .eq 26, 3) := by decide +kernel
theorem dd_61_48 : decode (am_b 61) 48 = .ok (.iload_n 3, 1) := by decide +kernel
theorem dd_61_49 : decode (am_b 61) 49 = .ok (.iconst 0, 1) := by decide +kernel
theorem dd_61_50 : decode (am_b 61) 50 = .ok (.iconst 3, 1) := by decide +kernel
theorem dd_61_51 : decode (am_b 61) 51 = .ok (.invokestatic 174, 3) := by decide +kernel
theorem dd_61_54 : decode (am_b 61) 54 = .ok (.ifCond .eq 17, 3) := by decide +kernel
theorem dd_61_57 : decode (am_b 61) 57 = .ok (.iload 4, 2) := by decide +kernel
theorem dd_61_59 : decode (am_b 61) 59 = .ok (.iconst 0, 1) := by decide +kernel
theorem dd_61_60 : decode (am_b 61) 60 = .ok (.iconst 2, 1) := by decide +kernel
theorem dd_61_61 : decode (am_b 61) 61 = .ok (.invokestatic 174, 3) := by decide +kernel
theorem dd_61_64 : decode (am_b 61) 64 = .ok (.ifCond .eq 7, 3) := by decide +kernel
theorem dd_61_67 : decode (am_b 61) 67 = .ok (.iconst 1, 1) := by decide +kernel
theorem dd_61_68 : decode (am_b 61) 68 = .ok (.goto 4, 3) := by decide +kernel
theorem dd_61_71 : decode (am_b 61) 71 = .ok (.iconst 0, 1) := by decide +kernel
theorem dd_61_72 : decode (am_b 61) 72 = .ok (.istore 6, 2) := by decide +kernel
theorem dd_61_74 : decode (am_b 61) 74 = .ok (.aload_n 0, 1) := by decide +kernel
theorem dd_61_75 : decode (am_b 61) 75 = .ok (.iload 6, 2) := by decide +kernel
theorem dd_61_77 : decode (am_b 61) 77 = .ok (.ifCond .ne 7, 3) := by decide +kernel
theorem dd_61_80 : decode (am_b 61) 80 = .ok (.iconst 1, 1) := by decide +kernel
theorem dd_61_81 : decode (am_b 61) 81 = .ok (.goto 27, 3) := by decide +kernel
theorem dd_61_84 : decode (am_b 61) 84 = .ok (.aload_n 0, 1) := by decide +kernel
theorem dd_61_85 : decode (am_b 61) 85 = .ok (.getfield 131, 3) := by decide +kernel
theorem dd_61_88 : decode (am_b 61) 88 = .ok (.iconst 4, 1) := by decide +kernel
theorem dd_61_89 : decode (am_b 61) 89 = .ok (.if_icmp .ne 7, 3) := by decide +kernel
theorem dd_61_92 : decode (am_b 61) 92 = .ok (.iconst 2, 1) := by decide +kernel
theorem dd_61_93 : decode (am_b 61) 93 = .ok (.goto 15, 3) := by decide +kernel
theorem dd_61_96 : decode (am_b 61) 96 = .ok (.aload_n 0, 1) := by decide +kernel
theorem dd_61_97 : decode (am_b 61) 97 = .ok (.getfield 177, 3) := by decide +kernel
theorem dd_61_100 : decode (am_b 61) 100 = .ok (.ifCond .eq 7, 3) := by decide +kernel
theorem dd_61_103 : decode (am_b 61) 103 = .ok (.iconst 3, 1) := by decide +kernel
theorem dd_61_104 : decode (am_b 61) 104 = .ok (.goto 4, 3) := by decide +kernel
theorem dd_61_107 : decode (am_b 61) 107 = .ok (.iconst 0, 1) := by decide +kernel
theorem dd_61_108 : decode (am_b 61) 108 = .ok (.putfield 83, 3) := by decide +kernel
theorem dd_61_111 : decode (am_b 61) 111 = .ok (.aload_n 0, 1) := by decide +kernel
theorem dd_61_112 : decode (am_b 61) 112 = .ok (.getfield 83, 3) := by decide +kernel
theorem dd_61_115 : decode (am_b 61) 115 = .ok (.ifCond .le 5, 3) := by decide +kernel
theorem dd_61_118 : decode (am_b 61) 118 = .ok (.iconst 0, 1) := by decide +kernel
theorem dd_61_119 : decode (am_b 61) 119 = .ok (.ireturn, 1) := by decide +kernel
theorem dd_61_120 : decode (am_b 61) 120 = .ok (.aload_n 0, 1) := by decide +kernel
theorem dd_61_121 : decode (am_b 61) 121 = .ok (.getfield 7, 3) := by decide +kernel
theorem dd_61_124 : decode (am_b 61) 124 = .ok (.aload_n 0, 1) := by decide +kernel
theorem dd_61_125 : decode (am_b 61) 125 = .ok (.getfield 131, 3) := by decide +kernel
theorem dd_61_128 : decode (am_b 61) 128 = .ok (.iload_n 1, 1) := by decide +kernel
theorem dd_61_129 : decode (am_b 61) 129 = .ok (.iastore, 1) := by decide +kernel
theorem dd_61_130 : decode (am_b 61) 130 = .ok (.aload_n 0, 1) := by decide +kernel
theorem dd_61_131 : decode (am_b 61) 131 = .ok (.getfield 13, 3) := by decide +kernel
theorem dd_61_134 : decode (am_b 61) 134 = .ok (.aload_n 0, 1) := by decide +kernel
theorem dd_61_135 : decode (am_b 61) 135 = .ok (.getfield 131, 3) := by decide +kernel
theorem dd_61_138 : decode (am_b 61) 138 = .ok (.iload_n 2, 1) := by decide +kernel
theorem dd_61_139 : decode (am_b 61) 139 = .ok (.iastore, 1) := by decide +kernel
theorem dd_61_140 : decode (am_b 61) 140 = .ok (.aload_n 0, 1) := by decide +kernel
theorem dd_61_141 : decode (am_b 61) 141 = .ok (.getfield 16, 3) := by decide +kernel
theorem dd_61_144 : decode (am_b 61) 144 = .ok (.aload_n 0, 1) := by decide +kernel
theorem dd_61_145 : decode (am_b 61) 145 = .ok (.getfield 131, 3) := by decide +kernel
theorem dd_61_148 : decode (am_b 61) 148 = .ok (.iload_n 3, 1) := by decide +kernel
theorem dd_61_149 : decode (am_b 61) 149 = .ok (.iastore, 1) := by decide +kernel
theorem dd_61_150 : decode (am_b 61) 150 = .ok (.aload_n 0, 1) := by decide +kernel
theorem dd_61_151 : decode (am_b 61) 151 = .ok (.getfield 19, 3) := by decide +kernel
theorem dd_61_154 : decode (am_b 61) 154 = .ok (.aload_n 0, 1) := by decide +kernel
theorem dd_61_155 : decode (am_b 61) 155 = .ok (.getfield 131, 3) := by decide +kernel
theorem dd_61_158 : decode (am_b 61) 158 = .ok (.iload 4, 2) := by decide +kernel
theorem dd_61_160 : decode (am_b 61) 160 = .ok (.iastore, 1) := by decide +kernel
theorem dd_61_161 : decode (am_b 61) 161 = .ok (.aload_n 0, 1) := by decide +kernel
theorem dd_61_162 : decode (am_b 61) 162 = .ok (.getfield 22, 3) := by decide +kernel
theorem dd_61_165 : decode (am_b 61) 165 = .ok (.aload_n 0, 1) := by decide +kernel
theorem dd_61_166 : decode (am_b 61) 166 = .ok (.getfield 131, 3) := by decide +kernel
theorem dd_61_169 : decode (am_b 61) 169 = .ok (.iload 5, 2) := by decide +kernel
theorem dd_61_171 : decode (am_b 61) 171 = .ok (.bastore, 1) := by decide +kernel
theorem dd_61_172 : decode (am_b 61) 172 = .ok (.aload_n 0, 1) := by decide +kernel
theorem dd_61_173 : decode (am_b 61) 173 = .ok (.dup, 1) := by decide +kernel
theorem dd_61_174 : decode (am_b 61) 174 = .ok (.getfield 131, 3) := by decide +kernel
theorem dd_61_177 : decode (am_b 61) 177 = .ok (.iconst 1, 1) := by decide +kernel
theorem dd_61_178 : decode (am_b 61) 178 = .ok (.iadd, 1) := by decide +kernel
theorem dd_61_179 : decode (am_b 61) 179 = .ok (.putfield 131, 3) := by decide +kernel
theorem dd_61_182 : decode (am_b 61) 182 = .ok (.aload_n 0, 1) := by decide +kernel
theorem dd_61_183 : decode (am_b 61) 183 = .ok (.getfield 131, 3) := by decide +kernel
theorem dd_61_186 : decode (am_b 61) 186 = .ok (.iconst 1, 1) := by decide +kernel
theorem dd_61_187 : decode (am_b 61) 187 = .ok (.isub, 1) := by decide +kernel
theorem dd_61_188 : decode (am_b 61) 188 = .ok (.ireturn, 1) := by decide +kernel
theorem sg_61_0 {sh : am_Sh} {C : Nat → am_M → List am_V → am_O → Prop} {P : am_S ⊕ am_O → Prop} {M : am_M} {x1 : Int32} {x2 : Int32} {x3 : Int32} {x4 : Int32} {x5 : Int32} {u6 : Option am_V}  (k1 : x1 = 1 → am_ev sh C 61 (27, [some (am_R (some (20, 0, 0))), some (am_I x1), some (am_I x2), some (am_I x3), some (am_I x4), some (am_I x5), u6], [], M, 0) P) (k2 : ¬ x1 = 1 → am_ev sh C 61 (5, [some (am_R (some (20, 0, 0))), some (am_I x1), some (am_I x2), some (am_I x3), some (am_I x4), some (am_I x5), u6], [], M, 0) P) : am_ev sh C 61 (0, [some (am_R (some (20, 0, 0))), some (am_I x1), some (am_I x2), some (am_I x3), some (am_I x4), some (am_I x5), u6], [], M, 0) P := by
  refine am_e_iload_n dd_61_0 rfl rfl ?_
  refine am_e_iconst (v := 1) dd_61_1 rfl rfl ?_
  exact am_a_icmp_eq (tgt := 27) (pc' := 5) dd_61_2 rfl rfl k1 k2

theorem sg_61_5 {sh : am_Sh} {C : Nat → am_M → List am_V → am_O → Prop} {P : am_S ⊕ am_O → Prop} {M : am_M} {x1 : Int32} {x2 : Int32} {x3 : Int32} {x4 : Int32} {x5 : Int32} {u6 : Option am_V}  (k1 : x1 = 2 → am_ev sh C 61 (27, [some (am_R (some (20, 0, 0))), some (am_I x1), some (am_I x2), some (am_I x3), some (am_I x4), some (am_I x5), u6], [], M, 0) P) (k2 : ¬ x1 = 2 → am_ev sh C 61 (10, [some (am_R (some (20, 0, 0))), some (am_I x1), some (am_I x2), some (am_I x3), some (am_I x4), some (am_I x5), u6], [], M, 0) P) : am_ev sh C 61 (5, [some (am_R (some (20, 0, 0))), some (am_I x1), some (am_I x2), some (am_I x3), some (am_I x4), some (am_I x5), u6], [], M, 0) P := by
  refine am_e_iload_n dd_61_5 rfl rfl ?_
  refine am_e_iconst (v := 2) dd_61_6 rfl rfl ?_
  exact am_a_icmp_eq (tgt := 27) (pc' := 10) dd_61_7 rfl rfl k1 k2

theorem sg_61_10 {sh : am_Sh} {C : Nat → am_M → List am_V → am_O → Prop} {P : am_S ⊕ am_O → Prop} {M : am_M} {x1 : Int32} {x2 : Int32} {x3 : Int32} {x4 : Int32} {x5 : Int32} {u6 : Option am_V}  (k1 : x1 = 4 → am_ev sh C 61 (27, [some (am_R (some (20, 0, 0))), some (am_I x1), some (am_I x2), some (am_I x3), some (am_I x4), some (am_I x5), u6], [], M, 0) P) (k2 : ¬ x1 = 4 → am_ev sh C 61 (15, [some (am_R (some (20, 0, 0))), some (am_I x1), some (am_I x2), some (am_I x3), some (am_I x4), some (am_I x5), u6], [], M, 0) P) : am_ev sh C 61 (10, [some (am_R (some (20, 0, 0))), some (am_I x1), some (am_I x2), some (am_I x3), some (am_I x4), some (am_I x5), u6], [], M, 0) P := by
  refine am_e_iload_n dd_61_10 rfl rfl ?_
  refine am_e_iconst (v := 4) dd_61_11 rfl rfl ?_
  exact am_a_icmp_eq (tgt := 27) (pc' := 15) dd_61_12 rfl rfl k1 k2

theorem sg_61_15 {sh : am_Sh} {C : Nat → am_M → List am_V → am_O → Prop} {P : am_S ⊕ am_O → Prop} {M : am_M} {x1 : Int32} {x2 : Int32} {x3 : Int32} {x4 : Int32} {x5 : Int32} {u6 : Option am_V}  (k1 : x1 = 8 → am_ev sh C 61 (27, [some (am_R (some (20, 0, 0))), some (am_I x1), some (am_I x2), some (am_I x3), some (am_I x4), some (am_I x5), u6], [], M, 0) P) (k2 : ¬ x1 = 8 → am_ev sh C 61 (21, [some (am_R (some (20, 0, 0))), some (am_I x1), some (am_I x2), some (am_I x3), some (am_I x4), some (am_I x5), u6], [], M, 0) P) : am_ev sh C 61 (15, [some (am_R (some (20, 0, 0))), some (am_I x1), some (am_I x2), some (am_I x3), some (am_I x4), some (am_I x5), u6], [], M, 0) P := by
  refine am_e_iload_n dd_61_15 rfl rfl ?_
  refine am_e_bipush (v := 8) dd_61_16 (by decide) rfl ?_
  exact am_a_icmp_eq (tgt := 27) (pc' := 21) dd_61_18 rfl rfl k1 k2

theorem sg_61_21 {sh : am_Sh} {C : Nat → am_M → List am_V → am_O → Prop} {P : am_S ⊕ am_O → Prop} {M : am_M} {x1 : Int32} {x2 : Int32} {x3 : Int32} {x4 : Int32} {x5 : Int32} {u6 : Option am_V}  (k1 : ¬ x1 = 16 → am_ev sh C 61 (31, [some (am_R (some (20, 0, 0))), some (am_I x1), some (am_I x2), some (am_I x3), some (am_I x4), some (am_I x5), u6], [], M, 0) P) (k2 : x1 = 16 → am_ev sh C 61 (27, [some (am_R (some (20, 0, 0))), some (am_I x1), some (am_I x2), some (am_I x3), some (am_I x4), some (am_I x5), u6], [], M, 0) P) : am_ev sh C 61 (21, [some (am_R (some (20, 0, 0))), some (am_I x1), some (am_I x2), some (am_I x3), some (am_I x4), some (am_I x5), u6], [], M, 0) P := by
  refine am_e_iload_n dd_61_21 rfl rfl ?_
  refine am_e_bipush (v := 16) dd_61_22 (by decide) rfl ?_
  exact am_a_icmp_ne (tgt := 31) (pc' := 27) dd_61_24 rfl rfl k1 k2

theorem sg_61_27 {sh : am_Sh} {C : Nat → am_M → List am_V → am_O → Prop} {P : am_S ⊕ am_O → Prop} {M : am_M} {x1 : Int32} {x2 : Int32} {x3 : Int32} {x4 : Int32} {x5 : Int32} {u6 : Option am_V}  (k : am_ev sh C 61 (32, [some (am_R (some (20, 0, 0))), some (am_I x1), some (am_I x2), some (am_I x3), some (am_I x4), some (am_I x5), u6], [am_I 1], M, 0) P) : am_ev sh C 61 (27, [some (am_R (some (20, 0, 0))), some (am_I x1), some (am_I x2), some (am_I x3), some (am_I x4), some (am_I x5), u6], [], M, 0) P := by
  refine am_e_iconst (v := 1) dd_61_27 rfl rfl ?_
  refine am_e_goto (pc' := 32) dd_61_28 rfl ?_
  exact k

theorem sg_61_31 {sh : am_Sh} {C : Nat → am_M → List am_V → am_O → Prop} {P : am_S ⊕ am_O → Prop} {M : am_M} {x1 : Int32} {x2 : Int32} {x3 : Int32} {x4 : Int32} {x5 : Int32} {u6 : Option am_V}  (k : am_ev sh C 61 (32, [some (am_R (some (20, 0, 0))), some (am_I x1), some (am_I x2), some (am_I x3), some (am_I x4), some (am_I x5), u6], [am_I 0], M, 0) P) : am_ev sh C 61 (31, [some (am_R (some (20, 0, 0))), some (am_I x1), some (am_I x2), some (am_I x3), some (am_I x4), some (am_I x5), u6], [], M, 0) P := by
  refine am_e_iconst (v := 0) dd_61_31 rfl rfl ?_
  exact k

theorem sg_61_32 {sh : am_Sh} {C : Nat → am_M → List am_V → am_O → Prop} {P : am_S ⊕ am_O → Prop} {M : am_M} {x1 : Int32} {x2 : Int32} {x3 : Int32} {x4 : Int32} {x5 : Int32} {u6 : Option am_V} {xs0 : Int32}  (k1 : xs0 = 0 → am_ev sh C 61 (71, [some (am_R (some (20, 0, 0))), some (am_I x1), some (am_I x2), some (am_I x3), some (am_I x4), some (am_I x5), some (am_I xs0)], [], M, 0) P) (k2 : ¬ xs0 = 0 → am_ev sh C 61 (39, [some (am_R (some (20, 0, 0))), some (am_I x1), some (am_I x2), some (am_I x3), some (am_I x4), some (am_I x5), some (am_I xs0)], [], M, 0) P) : am_ev sh C 61 (32, [some (am_R (some (20, 0, 0))), some (am_I x1), some (am_I x2), some (am_I x3), some (am_I x4), some (am_I x5), u6], [am_I xs0], M, 0) P := by
  refine am_e_istore dd_61_32 (Nat.le_of_ble_eq_true rfl) rfl rfl ?_
  refine am_e_iload dd_61_34 rfl rfl ?_
  exact am_a_if_eq (tgt := 71) (pc' := 39) dd_61_36 rfl rfl k1 k2

theorem sg_61_39 {sh : am_Sh} {C : Nat → am_M → List am_V → am_O → Prop} {P : am_S ⊕ am_O → Prop} {M : am_M} {x1 : Int32} {x2 : Int32} {x3 : Int32} {x4 : Int32} {x5 : Int32} {x6 : Int32} {M1 : am_M} {r1 : Int32} (hc1 : C 62 M [am_I x2, am_I 1, am_I 4] (M1, Sum.inl (some (am_I r1)))) (k1 : r1 = 0 → am_ev sh C 61 (71, [some (am_R (some (20, 0, 0))), some (am_I x1), some (am_I x2), some (am_I x3), some (am_I x4), some (am_I x5), some (am_I x6)], [], M1, 0) P) (k2 : ¬ r1 = 0 → am_ev sh C 61 (48, [some (am_R (some (20, 0, 0))), some (am_I x1), some (am_I x2), some (am_I x3), some (am_I x4), some (am_I x5), some (am_I x6)], [], M1, 0) P) : am_ev sh C 61 (39, [some (am_R (some (20, 0, 0))), some (am_I x1), some (am_I x2), some (am_I x3), some (am_I x4), some (am_I x5), some (am_I x6)], [], M, 0) P := by
  refine am_e_iload_n dd_61_39 rfl rfl ?_
  refine am_e_iconst (v := 1) dd_61_40 rfl rfl ?_
  refine am_e_iconst (v := 4) dd_61_41 rfl rfl ?_
  refine am_e_callS (c := 62) (k := 3) (as := [am_I x2, am_I 1, am_I 4]) (S' := [am_I r1]) (v := some (am_I r1)) (M' := M1) (n' := 0) dd_61_42 (by decide +kernel) (by decide +kernel) ⟨Nat.le_of_ble_eq_true rfl, Nat.le_of_ble_eq_true rfl, by decide +kernel, (Or.inl rfl)⟩ rfl rfl (by decide +kernel) hc1 rfl ?_
  exact am_a_if_eq (tgt := 71) (pc' := 48) dd_61_45 rfl rfl k1 k2

theorem sg_61_48 {sh : am_Sh} {C : Nat → am_M → List am_V → am_O → Prop} {P : am_S ⊕ am_O → Prop} {M : am_M} {x1 : Int32} {x2 : Int32} {x3 : Int32} {x4 : Int32} {x5 : Int32} {x6 : Int32} {M1 : am_M} {r1 : Int32} (hc1 : C 62 M [am_I x3, am_I 0, am_I 3] (M1, Sum.inl (some (am_I r1)))) (k1 : r1 = 0 → am_ev sh C 61 (71, [some (am_R (some (20, 0, 0))), some (am_I x1), some (am_I x2), some (am_I x3), some (am_I x4), some (am_I x5), some (am_I x6)], [], M1, 0) P) (k2 : ¬ r1 = 0 → am_ev sh C 61 (57, [some (am_R (some (20, 0, 0))), some (am_I x1), some (am_I x2), some (am_I x3), some (am_I x4), some (am_I x5), some (am_I x6)], [], M1, 0) P) : am_ev sh C 61 (48, [some (am_R (some (20, 0, 0))), some (am_I x1), some (am_I x2), some (am_I x3), some (am_I x4), some (am_I x5), some (am_I x6)], [], M, 0) P := by
  refine am_e_iload_n dd_61_48 rfl rfl ?_
  refine am_e_iconst (v := 0) dd_61_49 rfl rfl ?_
  refine am_e_iconst (v := 3) dd_61_50 rfl rfl ?_
  refine am_e_callS (c := 62) (k := 3) (as := [am_I x3, am_I 0, am_I 3]) (S' := [am_I r1]) (v := some (am_I r1)) (M' := M1) (n' := 0) dd_61_51 (by decide +kernel) (by decide +kernel) ⟨Nat.le_of_ble_eq_true rfl, Nat.le_of_ble_eq_true rfl, by decide +kernel, (Or.inl rfl)⟩ rfl rfl (by decide +kernel) hc1 rfl ?_
  exact am_a_if_eq (tgt := 71) (pc' := 57) dd_61_54 rfl rfl k1 k2

theorem sg_61_57 {sh : am_Sh} {C : Nat → am_M → List am_V → am_O → Prop} {P : am_S ⊕ am_O → Prop} {M : am_M} {x1 : Int32} {x2 : Int32} {x3 : Int32} {x4 : Int32} {x5 : Int32} {x6 : Int32} {M1 : am_M} {r1 : Int32} (hc1 : C 62 M [am_I x4, am_I 0, am_I 2] (M1, Sum.inl (some (am_I r1)))) (k1 : r1 = 0 → am_ev sh C 61 (71, [some (am_R (some (20, 0, 0))), some (am_I x1), some (am_I x2), some (am_I x3), some (am_I x4), some (am_I x5), some (am_I x6)], [], M1, 0) P) (k2 : ¬ r1 = 0 → am_ev sh C 61 (67, [some (am_R (some (20, 0, 0))), some (am_I x1), some (am_I x2), some (am_I x3), some (am_I x4), some (am_I x5), some (am_I x6)], [], M1, 0) P) : am_ev sh C 61 (57, [some (am_R (some (20, 0, 0))), some (am_I x1), some (am_I x2), some (am_I x3), some (am_I x4), some (am_I x5), some (am_I x6)], [], M, 0) P := by
  refine am_e_iload dd_61_57 rfl rfl ?_
  refine am_e_iconst (v := 0) dd_61_59 rfl rfl ?_
  refine am_e_iconst (v := 2) dd_61_60 rfl rfl ?_
  refine am_e_callS (c := 62) (k := 3) (as := [am_I x4, am_I 0, am_I 2]) (S' := [am_I r1]) (v := some (am_I r1)) (M' := M1) (n' := 0) dd_61_61 (by decide +kernel) (by decide +kernel) ⟨Nat.le_of_ble_eq_true rfl, Nat.le_of_ble_eq_true rfl, by decide +kernel, (Or.inl rfl)⟩ rfl rfl (by decide +kernel) hc1 rfl ?_
  exact am_a_if_eq (tgt := 71) (pc' := 67) dd_61_64 rfl rfl k1 k2

theorem sg_61_67 {sh : am_Sh} {C : Nat → am_M → List am_V → am_O → Prop} {P : am_S ⊕ am_O → Prop} {M : am_M} {x1 : Int32} {x2 : Int32} {x3 : Int32} {x4 : Int32} {x5 : Int32} {x6 : Int32}  (k : am_ev sh C 61 (72, [some (am_R (some (20, 0, 0))), some (am_I x1), some (am_I x2), some (am_I x3), some (am_I x4), some (am_I x5), some (am_I x6)], [am_I 1], M, 0) P) : am_ev sh C 61 (67, [some (am_R (some (20, 0, 0))), some (am_I x1), some (am_I x2), some (am_I x3), some (am_I x4), some (am_I x5), some (am_I x6)], [], M, 0) P := by
  refine am_e_iconst (v := 1) dd_61_67 rfl rfl ?_
  refine am_e_goto (pc' := 72) dd_61_68 rfl ?_
  exact k

theorem sg_61_71 {sh : am_Sh} {C : Nat → am_M → List am_V → am_O → Prop} {P : am_S ⊕ am_O → Prop} {M : am_M} {x1 : Int32} {x2 : Int32} {x3 : Int32} {x4 : Int32} {x5 : Int32} {x6 : Int32}  (k : am_ev sh C 61 (72, [some (am_R (some (20, 0, 0))), some (am_I x1), some (am_I x2), some (am_I x3), some (am_I x4), some (am_I x5), some (am_I x6)], [am_I 0], M, 0) P) : am_ev sh C 61 (71, [some (am_R (some (20, 0, 0))), some (am_I x1), some (am_I x2), some (am_I x3), some (am_I x4), some (am_I x5), some (am_I x6)], [], M, 0) P := by
  refine am_e_iconst (v := 0) dd_61_71 rfl rfl ?_
  exact k

theorem sg_61_72 {sh : am_Sh} {C : Nat → am_M → List am_V → am_O → Prop} {P : am_S ⊕ am_O → Prop} {M : am_M} {x1 : Int32} {x2 : Int32} {x3 : Int32} {x4 : Int32} {x5 : Int32} {x6 : Int32} {xs0 : Int32}  (k1 : ¬ xs0 = 0 → am_ev sh C 61 (84, [some (am_R (some (20, 0, 0))), some (am_I x1), some (am_I x2), some (am_I x3), some (am_I x4), some (am_I x5), some (am_I xs0)], [am_R (some (20, 0, 0))], M, 0) P) (k2 : xs0 = 0 → am_ev sh C 61 (80, [some (am_R (some (20, 0, 0))), some (am_I x1), some (am_I x2), some (am_I x3), some (am_I x4), some (am_I x5), some (am_I xs0)], [am_R (some (20, 0, 0))], M, 0) P) : am_ev sh C 61 (72, [some (am_R (some (20, 0, 0))), some (am_I x1), some (am_I x2), some (am_I x3), some (am_I x4), some (am_I x5), some (am_I x6)], [am_I xs0], M, 0) P := by
  refine am_e_istore dd_61_72 (Nat.le_of_ble_eq_true rfl) rfl rfl ?_
  refine am_e_aload_n dd_61_74 rfl rfl ?_
  refine am_e_iload dd_61_75 rfl rfl ?_
  exact am_a_if_ne (tgt := 84) (pc' := 80) dd_61_77 rfl rfl k1 k2

theorem sg_61_80 {sh : am_Sh} {C : Nat → am_M → List am_V → am_O → Prop} {P : am_S ⊕ am_O → Prop} {M : am_M} {x1 : Int32} {x2 : Int32} {x3 : Int32} {x4 : Int32} {x5 : Int32} {x6 : Int32}  (k : am_ev sh C 61 (108, [some (am_R (some (20, 0, 0))), some (am_I x1), some (am_I x2), some (am_I x3), some (am_I x4), some (am_I x5), some (am_I x6)], [am_I 1, am_R (some (20, 0, 0))], M, 0) P) : am_ev sh C 61 (80, [some (am_R (some (20, 0, 0))), some (am_I x1), some (am_I x2), some (am_I x3), some (am_I x4), some (am_I x5), some (am_I x6)], [am_R (some (20, 0, 0))], M, 0) P := by
  refine am_e_iconst (v := 1) dd_61_80 rfl rfl ?_
  refine am_e_goto (pc' := 108) dd_61_81 rfl ?_
  exact k

theorem sg_61_84 {sh : am_Sh} {C : Nat → am_M → List am_V → am_O → Prop} {P : am_S ⊕ am_O → Prop} {M : am_M} {x1 : Int32} {x2 : Int32} {x3 : Int32} {x4 : Int32} {x5 : Int32} {x6 : Int32}  (k1 : ¬ (M (20, 0, 0) 1) = 4 → am_ev sh C 61 (96, [some (am_R (some (20, 0, 0))), some (am_I x1), some (am_I x2), some (am_I x3), some (am_I x4), some (am_I x5), some (am_I x6)], [am_R (some (20, 0, 0))], M, 0) P) (k2 : (M (20, 0, 0) 1) = 4 → am_ev sh C 61 (92, [some (am_R (some (20, 0, 0))), some (am_I x1), some (am_I x2), some (am_I x3), some (am_I x4), some (am_I x5), some (am_I x6)], [am_R (some (20, 0, 0))], M, 0) P) : am_ev sh C 61 (84, [some (am_R (some (20, 0, 0))), some (am_I x1), some (am_I x2), some (am_I x3), some (am_I x4), some (am_I x5), some (am_I x6)], [am_R (some (20, 0, 0))], M, 0) P := by
  refine am_e_aload_n dd_61_84 rfl rfl ?_
  refine am_e_gf (ci := 3) (j := 1) (v := am_I (M (20, 0, 0) 1)) dd_61_85 (by decide +kernel) rfl rfl rfl ?_
  refine am_e_iconst (v := 4) dd_61_88 rfl rfl ?_
  exact am_a_icmp_ne (tgt := 96) (pc' := 92) dd_61_89 rfl rfl k1 k2

theorem sg_61_92 {sh : am_Sh} {C : Nat → am_M → List am_V → am_O → Prop} {P : am_S ⊕ am_O → Prop} {M : am_M} {x1 : Int32} {x2 : Int32} {x3 : Int32} {x4 : Int32} {x5 : Int32} {x6 : Int32}  (k : am_ev sh C 61 (108, [some (am_R (some (20, 0, 0))), some (am_I x1), some (am_I x2), some (am_I x3), some (am_I x4), some (am_I x5), some (am_I x6)], [am_I 2, am_R (some (20, 0, 0))], M, 0) P) : am_ev sh C 61 (92, [some (am_R (some (20, 0, 0))), some (am_I x1), some (am_I x2), some (am_I x3), some (am_I x4), some (am_I x5), some (am_I x6)], [am_R (some (20, 0, 0))], M, 0) P := by
  refine am_e_iconst (v := 2) dd_61_92 rfl rfl ?_
  refine am_e_goto (pc' := 108) dd_61_93 rfl ?_
  exact k

theorem sg_61_96 {sh : am_Sh} {C : Nat → am_M → List am_V → am_O → Prop} {P : am_S ⊕ am_O → Prop} {M : am_M} {x1 : Int32} {x2 : Int32} {x3 : Int32} {x4 : Int32} {x5 : Int32} {x6 : Int32}  (k1 : (M (20, 0, 0) 2) = 0 → am_ev sh C 61 (107, [some (am_R (some (20, 0, 0))), some (am_I x1), some (am_I x2), some (am_I x3), some (am_I x4), some (am_I x5), some (am_I x6)], [am_R (some (20, 0, 0))], M, 0) P) (k2 : ¬ (M (20, 0, 0) 2) = 0 → am_ev sh C 61 (103, [some (am_R (some (20, 0, 0))), some (am_I x1), some (am_I x2), some (am_I x3), some (am_I x4), some (am_I x5), some (am_I x6)], [am_R (some (20, 0, 0))], M, 0) P) : am_ev sh C 61 (96, [some (am_R (some (20, 0, 0))), some (am_I x1), some (am_I x2), some (am_I x3), some (am_I x4), some (am_I x5), some (am_I x6)], [am_R (some (20, 0, 0))], M, 0) P := by
  refine am_e_aload_n dd_61_96 rfl rfl ?_
  refine am_e_gf (ci := 3) (j := 2) (v := am_I (M (20, 0, 0) 2)) dd_61_97 (by decide +kernel) rfl rfl rfl ?_
  exact am_a_if_eq (tgt := 107) (pc' := 103) dd_61_100 rfl rfl k1 k2

theorem sg_61_103 {sh : am_Sh} {C : Nat → am_M → List am_V → am_O → Prop} {P : am_S ⊕ am_O → Prop} {M : am_M} {x1 : Int32} {x2 : Int32} {x3 : Int32} {x4 : Int32} {x5 : Int32} {x6 : Int32}  (k : am_ev sh C 61 (108, [some (am_R (some (20, 0, 0))), some (am_I x1), some (am_I x2), some (am_I x3), some (am_I x4), some (am_I x5), some (am_I x6)], [am_I 3, am_R (some (20, 0, 0))], M, 0) P) : am_ev sh C 61 (103, [some (am_R (some (20, 0, 0))), some (am_I x1), some (am_I x2), some (am_I x3), some (am_I x4), some (am_I x5), some (am_I x6)], [am_R (some (20, 0, 0))], M, 0) P := by
  refine am_e_iconst (v := 3) dd_61_103 rfl rfl ?_
  refine am_e_goto (pc' := 108) dd_61_104 rfl ?_
  exact k

theorem sg_61_107 {sh : am_Sh} {C : Nat → am_M → List am_V → am_O → Prop} {P : am_S ⊕ am_O → Prop} {M : am_M} {x1 : Int32} {x2 : Int32} {x3 : Int32} {x4 : Int32} {x5 : Int32} {x6 : Int32}  (k : am_ev sh C 61 (108, [some (am_R (some (20, 0, 0))), some (am_I x1), some (am_I x2), some (am_I x3), some (am_I x4), some (am_I x5), some (am_I x6)], [am_I 0, am_R (some (20, 0, 0))], M, 0) P) : am_ev sh C 61 (107, [some (am_R (some (20, 0, 0))), some (am_I x1), some (am_I x2), some (am_I x3), some (am_I x4), some (am_I x5), some (am_I x6)], [am_R (some (20, 0, 0))], M, 0) P := by
  refine am_e_iconst (v := 0) dd_61_107 rfl rfl ?_
  exact k

theorem sg_61_108 {sh : am_Sh} {C : Nat → am_M → List am_V → am_O → Prop} {P : am_S ⊕ am_O → Prop} {M : am_M} {x1 : Int32} {x2 : Int32} {x3 : Int32} {x4 : Int32} {x5 : Int32} {x6 : Int32} {xs1 : Int32}  (k1 : ((am_up M (20, 0, 0) 0 xs1) (20, 0, 0) 0) ≤ 0 → am_ev sh C 61 (120, [some (am_R (some (20, 0, 0))), some (am_I x1), some (am_I x2), some (am_I x3), some (am_I x4), some (am_I x5), some (am_I x6)], [], (am_up M (20, 0, 0) 0 xs1), 0) P) (k2 : ¬ ((am_up M (20, 0, 0) 0 xs1) (20, 0, 0) 0) ≤ 0 → am_ev sh C 61 (118, [some (am_R (some (20, 0, 0))), some (am_I x1), some (am_I x2), some (am_I x3), some (am_I x4), some (am_I x5), some (am_I x6)], [], (am_up M (20, 0, 0) 0 xs1), 0) P) : am_ev sh C 61 (108, [some (am_R (some (20, 0, 0))), some (am_I x1), some (am_I x2), some (am_I x3), some (am_I x4), some (am_I x5), some (am_I x6)], [am_I xs1, am_R (some (20, 0, 0))], M, 0) P := by
  refine am_e_pf (ci := 3) (j := 0) dd_61_108 (by decide +kernel) rfl rfl (Or.inl rfl) rfl ?_
  refine am_e_aload_n dd_61_111 rfl rfl ?_
  refine am_e_gf (ci := 3) (j := 0) (v := am_I ((am_up M (20, 0, 0) 0 xs1) (20, 0, 0) 0)) dd_61_112 (by decide +kernel) rfl rfl rfl ?_
  exact am_a_if_le (tgt := 120) (pc' := 118) dd_61_115 rfl rfl k1 k2

theorem sg_61_118 {sh : am_Sh} {C : Nat → am_M → List am_V → am_O → Prop} {P : am_S ⊕ am_O → Prop} {M : am_M} {x1 : Int32} {x2 : Int32} {x3 : Int32} {x4 : Int32} {x5 : Int32} {x6 : Int32}  (k : P (Sum.inr (M, Sum.inl (some (am_I 0))))) : am_ev sh C 61 (118, [some (am_R (some (20, 0, 0))), some (am_I x1), some (am_I x2), some (am_I x3), some (am_I x4), some (am_I x5), some (am_I x6)], [], M, 0) P := by
  refine am_e_iconst (v := 0) dd_61_118 rfl rfl ?_
  exact am_e_iret dd_61_119 (by decide +kernel) (Or.inl rfl) k

theorem sg_61_120 {sh : am_Sh} {C : Nat → am_M → List am_V → am_O → Prop} {P : am_S ⊕ am_O → Prop} {M : am_M} {x1 : Int32} {x2 : Int32} {x3 : Int32} {x4 : Int32} {x5 : Int32} {x6 : Int32} {j1 : Nat} {j2 : Nat} {j3 : Nat} {j4 : Nat} {j5 : Nat} (hx_j1 : M (20, 0, 0) 1 = nI j1) (hl_j1 : j1 < 4) (hx_j2 : (am_up M (21, 3, 0) j1 x1) (20, 0, 0) 1 = nI j2) (hl_j2 : j2 < 4) (hx_j3 : (am_up (am_up M (21, 3, 0) j1 x1) (21, 4, 0) j2 x2) (20, 0, 0) 1 = nI j3) (hl_j3 : j3 < 4) (hx_j4 : (am_up (am_up (am_up M (21, 3, 0) j1 x1) (21, 4, 0) j2 x2) (21, 5, 0) j3 x3) (20, 0, 0) 1 = nI j4) (hl_j4 : j4 < 4) (hx_j5 : (am_up (am_up (am_up (am_up M (21, 3, 0) j1 x1) (21, 4, 0) j2 x2) (21, 5, 0) j3 x3) (21, 6, 0) j4 x4) (20, 0, 0) 1 = nI j5) (hl_j5 : j5 < 4) (hb1 : x5 = 0 ∨ x5 = 1) (k : P (Sum.inr ((am_up (am_up (am_up (am_up (am_up (am_up M (21, 3, 0) j1 x1) (21, 4, 0) j2 x2) (21, 5, 0) j3 x3) (21, 6, 0) j4 x4) (21, 7, 0) j5 x5) (20, 0, 0) 1 (((am_up (am_up (am_up (am_up (am_up M (21, 3, 0) j1 x1) (21, 4, 0) j2 x2) (21, 5, 0) j3 x3) (21, 6, 0) j4 x4) (21, 7, 0) j5 x5) (20, 0, 0) 1) + 1)), Sum.inl (some (am_I (((am_up (am_up (am_up (am_up (am_up (am_up M (21, 3, 0) j1 x1) (21, 4, 0) j2 x2) (21, 5, 0) j3 x3) (21, 6, 0) j4 x4) (21, 7, 0) j5 x5) (20, 0, 0) 1 (((am_up (am_up (am_up (am_up (am_up M (21, 3, 0) j1 x1) (21, 4, 0) j2 x2) (21, 5, 0) j3 x3) (21, 6, 0) j4 x4) (21, 7, 0) j5 x5) (20, 0, 0) 1) + 1)) (20, 0, 0) 1) - 1)))))) : am_ev sh C 61 (120, [some (am_R (some (20, 0, 0))), some (am_I x1), some (am_I x2), some (am_I x3), some (am_I x4), some (am_I x5), some (am_I x6)], [], M, 0) P := by
  refine am_e_aload_n dd_61_120 rfl rfl ?_
  refine am_e_gf (ci := 3) (j := 3) (v := am_R (some (21, 3, 0))) dd_61_121 (by decide +kernel) rfl rfl rfl ?_
  refine am_e_aload_n dd_61_124 rfl rfl ?_
  refine am_e_gf (ci := 3) (j := 1) (v := am_I (M (20, 0, 0) 1)) dd_61_125 (by decide +kernel) rfl rfl rfl ?_
  refine am_e_iload_n dd_61_128 rfl rfl ?_
  refine am_a_iast dd_61_129 rfl hx_j1 hl_j1 (by decide) rfl ?_
  refine am_e_aload_n dd_61_130 rfl rfl ?_
  refine am_e_gf (ci := 3) (j := 4) (v := am_R (some (21, 4, 0))) dd_61_131 (by decide +kernel) rfl rfl rfl ?_
  refine am_e_aload_n dd_61_134 rfl rfl ?_
  refine am_e_gf (ci := 3) (j := 1) (v := am_I ((am_up M (21, 3, 0) j1 x1) (20, 0, 0) 1)) dd_61_135 (by decide +kernel) rfl rfl rfl ?_
  refine am_e_iload_n dd_61_138 rfl rfl ?_
  refine am_a_iast dd_61_139 rfl hx_j2 hl_j2 (by decide) rfl ?_
  refine am_e_aload_n dd_61_140 rfl rfl ?_
  refine am_e_gf (ci := 3) (j := 5) (v := am_R (some (21, 5, 0))) dd_61_141 (by decide +kernel) rfl rfl rfl ?_
  refine am_e_aload_n dd_61_144 rfl rfl ?_
  refine am_e_gf (ci := 3) (j := 1) (v := am_I ((am_up (am_up M (21, 3, 0) j1 x1) (21, 4, 0) j2 x2) (20, 0, 0) 1)) dd_61_145 (by decide +kernel) rfl rfl rfl ?_
  refine am_e_iload_n dd_61_148 rfl rfl ?_
  refine am_a_iast dd_61_149 rfl hx_j3 hl_j3 (by decide) rfl ?_
  refine am_e_aload_n dd_61_150 rfl rfl ?_
  refine am_e_gf (ci := 3) (j := 6) (v := am_R (some (21, 6, 0))) dd_61_151 (by decide +kernel) rfl rfl rfl ?_
  refine am_e_aload_n dd_61_154 rfl rfl ?_
  refine am_e_gf (ci := 3) (j := 1) (v := am_I ((am_up (am_up (am_up M (21, 3, 0) j1 x1) (21, 4, 0) j2 x2) (21, 5, 0) j3 x3) (20, 0, 0) 1)) dd_61_155 (by decide +kernel) rfl rfl rfl ?_
  refine am_e_iload dd_61_158 rfl rfl ?_
  refine am_a_iast dd_61_160 rfl hx_j4 hl_j4 (by decide) rfl ?_
  refine am_e_aload_n dd_61_161 rfl rfl ?_
  refine am_e_gf (ci := 3) (j := 7) (v := am_R (some (21, 7, 0))) dd_61_162 (by decide +kernel) rfl rfl rfl ?_
  refine am_e_aload_n dd_61_165 rfl rfl ?_
  refine am_e_gf (ci := 3) (j := 1) (v := am_I ((am_up (am_up (am_up (am_up M (21, 3, 0) j1 x1) (21, 4, 0) j2 x2) (21, 5, 0) j3 x3) (21, 6, 0) j4 x4) (20, 0, 0) 1)) dd_61_166 (by decide +kernel) rfl rfl rfl ?_
  refine am_e_iload dd_61_169 rfl rfl ?_
  refine am_a_zast dd_61_171 rfl hb1 hx_j5 hl_j5 (by decide) rfl ?_
  refine am_e_aload_n dd_61_172 rfl rfl ?_
  refine am_e_dup dd_61_173 rfl rfl ?_
  refine am_e_gf (ci := 3) (j := 1) (v := am_I ((am_up (am_up (am_up (am_up (am_up M (21, 3, 0) j1 x1) (21, 4, 0) j2 x2) (21, 5, 0) j3 x3) (21, 6, 0) j4 x4) (21, 7, 0) j5 x5) (20, 0, 0) 1)) dd_61_174 (by decide +kernel) rfl rfl rfl ?_
  refine am_e_iconst (v := 1) dd_61_177 rfl rfl ?_
  refine am_e_iadd dd_61_178 rfl ?_
  refine am_e_pf (ci := 3) (j := 1) dd_61_179 (by decide +kernel) rfl rfl (Or.inl rfl) rfl ?_
  refine am_e_aload_n dd_61_182 rfl rfl ?_
  refine am_e_gf (ci := 3) (j := 1) (v := am_I ((am_up (am_up (am_up (am_up (am_up (am_up M (21, 3, 0) j1 x1) (21, 4, 0) j2 x2) (21, 5, 0) j3 x3) (21, 6, 0) j4 x4) (21, 7, 0) j5 x5) (20, 0, 0) 1 (((am_up (am_up (am_up (am_up (am_up M (21, 3, 0) j1 x1) (21, 4, 0) j2 x2) (21, 5, 0) j3 x3) (21, 6, 0) j4 x4) (21, 7, 0) j5 x5) (20, 0, 0) 1) + 1)) (20, 0, 0) 1)) dd_61_183 (by decide +kernel) rfl rfl rfl ?_
  refine am_e_iconst (v := 1) dd_61_186 rfl rfl ?_
  refine am_e_isub dd_61_187 rfl ?_
  exact am_e_iret dd_61_188 (by decide +kernel) (Or.inl rfl) k

-- 62: CacheLadderModel.in(III)Z
theorem dd_62_0 : decode (am_b 62) 0 = .ok (.iload_n 0, 1) := by decide +kernel
theorem dd_62_1 : decode (am_b 62) 1 = .ok (.iload_n 1, 1) := by decide +kernel
theorem dd_62_2 : decode (am_b 62) 2 = .ok (.if_icmp .lt 12, 3) := by decide +kernel
theorem dd_62_5 : decode (am_b 62) 5 = .ok (.iload_n 0, 1) := by decide +kernel
theorem dd_62_6 : decode (am_b 62) 6 = .ok (.iload_n 2, 1) := by decide +kernel
theorem dd_62_7 : decode (am_b 62) 7 = .ok (.if_icmp .gt 7, 3) := by decide +kernel
theorem dd_62_10 : decode (am_b 62) 10 = .ok (.iconst 1, 1) := by decide +kernel
theorem dd_62_11 : decode (am_b 62) 11 = .ok (.goto 4, 3) := by decide +kernel
theorem dd_62_14 : decode (am_b 62) 14 = .ok (.iconst 0, 1) := by decide +kernel
theorem dd_62_15 : decode (am_b 62) 15 = .ok (.ireturn, 1) := by decide +kernel
theorem sg_62_0 {sh : am_Sh} {C : Nat → am_M → List am_V → am_O → Prop} {P : am_S ⊕ am_O → Prop} {M : am_M} {x0 : Int32} {x1 : Int32} {x2 : Int32}  (k1 : x0 < x1 → am_ev sh C 62 (14, [some (am_I x0), some (am_I x1), some (am_I x2)], [], M, 0) P) (k2 : ¬ x0 < x1 → am_ev sh C 62 (5, [some (am_I x0), some (am_I x1), some (am_I x2)], [], M, 0) P) : am_ev sh C 62 (0, [some (am_I x0), some (am_I x1), some (am_I x2)], [], M, 0) P := by
  refine am_e_iload_n dd_62_0 rfl rfl ?_
  refine am_e_iload_n dd_62_1 rfl rfl ?_
  exact am_a_icmp_lt (tgt := 14) (pc' := 5) dd_62_2 rfl rfl k1 k2

theorem sg_62_5 {sh : am_Sh} {C : Nat → am_M → List am_V → am_O → Prop} {P : am_S ⊕ am_O → Prop} {M : am_M} {x0 : Int32} {x1 : Int32} {x2 : Int32}  (k1 : x2 < x0 → am_ev sh C 62 (14, [some (am_I x0), some (am_I x1), some (am_I x2)], [], M, 0) P) (k2 : ¬ x2 < x0 → am_ev sh C 62 (10, [some (am_I x0), some (am_I x1), some (am_I x2)], [], M, 0) P) : am_ev sh C 62 (5, [some (am_I x0), some (am_I x1), some (am_I x2)], [], M, 0) P := by
  refine am_e_iload_n dd_62_5 rfl rfl ?_
  refine am_e_iload_n dd_62_6 rfl rfl ?_
  exact am_a_icmp_gt (tgt := 14) (pc' := 10) dd_62_7 rfl rfl k1 k2

theorem sg_62_10 {sh : am_Sh} {C : Nat → am_M → List am_V → am_O → Prop} {P : am_S ⊕ am_O → Prop} {M : am_M} {x0 : Int32} {x1 : Int32} {x2 : Int32}  (k : am_ev sh C 62 (15, [some (am_I x0), some (am_I x1), some (am_I x2)], [am_I 1], M, 0) P) : am_ev sh C 62 (10, [some (am_I x0), some (am_I x1), some (am_I x2)], [], M, 0) P := by
  refine am_e_iconst (v := 1) dd_62_10 rfl rfl ?_
  refine am_e_goto (pc' := 15) dd_62_11 rfl ?_
  exact k

theorem sg_62_14 {sh : am_Sh} {C : Nat → am_M → List am_V → am_O → Prop} {P : am_S ⊕ am_O → Prop} {M : am_M} {x0 : Int32} {x1 : Int32} {x2 : Int32}  (k : am_ev sh C 62 (15, [some (am_I x0), some (am_I x1), some (am_I x2)], [am_I 0], M, 0) P) : am_ev sh C 62 (14, [some (am_I x0), some (am_I x1), some (am_I x2)], [], M, 0) P := by
  refine am_e_iconst (v := 0) dd_62_14 rfl rfl ?_
  exact k

theorem sg_62_15 {sh : am_Sh} {C : Nat → am_M → List am_V → am_O → Prop} {P : am_S ⊕ am_O → Prop} {M : am_M} {x0 : Int32} {x1 : Int32} {x2 : Int32} {xs0 : Int32} (hb1 : xs0 = 0 ∨ xs0 = 1) (k : P (Sum.inr (M, Sum.inl (some (am_I xs0))))) : am_ev sh C 62 (15, [some (am_I x0), some (am_I x1), some (am_I x2)], [am_I xs0], M, 0) P := by
  exact am_e_iret dd_62_15 (by decide +kernel) (Or.inr ⟨rfl, hb1⟩) k

-- 63: CacheLadderModel.read(I)I
theorem dd_63_0 : decode (am_b 63) 0 = .ok (.aload_n 0, 1) := by decide +kernel
theorem dd_63_1 : decode (am_b 63) 1 = .ok (.iload_n 1, 1) := by decide +kernel
theorem dd_63_2 : decode (am_b 63) 2 = .ok (.iconst 0, 1) := by decide +kernel
theorem dd_63_3 : decode (am_b 63) 3 = .ok (.sipush 1023, 3) := by decide +kernel
theorem dd_63_6 : decode (am_b 63) 6 = .ok (.invokestatic 174, 3) := by decide +kernel
theorem dd_63_9 : decode (am_b 63) 9 = .ok (.ifCond .eq 7, 3) := by decide +kernel
theorem dd_63_12 : decode (am_b 63) 12 = .ok (.iconst 0, 1) := by decide +kernel
theorem dd_63_13 : decode (am_b 63) 13 = .ok (.goto 4, 3) := by decide +kernel
theorem dd_63_16 : decode (am_b 63) 16 = .ok (.iconst 1, 1) := by decide +kernel
theorem dd_63_17 : decode (am_b 63) 17 = .ok (.putfield 83, 3) := by decide +kernel
theorem dd_63_20 : decode (am_b 63) 20 = .ok (.aload_n 0, 1) := by decide +kernel
theorem dd_63_21 : decode (am_b 63) 21 = .ok (.getfield 83, 3) := by decide +kernel
theorem dd_63_24 : decode (am_b 63) 24 = .ok (.ifCond .le 7, 3) := by decide +kernel
theorem dd_63_27 : decode (am_b 63) 27 = .ok (.iconst 0, 1) := by decide +kernel
theorem dd_63_28 : decode (am_b 63) 28 = .ok (.goto 8, 3) := by decide +kernel
theorem dd_63_31 : decode (am_b 63) 31 = .ok (.aload_n 0, 1) := by decide +kernel
theorem dd_63_32 : decode (am_b 63) 32 = .ok (.iload_n 1, 1) := by decide +kernel
theorem dd_63_33 : decode (am_b 63) 33 = .ok (.invokevirtual 184, 3) := by decide +kernel
theorem dd_63_36 : decode (am_b 63) 36 = .ok (.ireturn, 1) := by decide +kernel
theorem sg_63_0 {sh : am_Sh} {C : Nat → am_M → List am_V → am_O → Prop} {P : am_S ⊕ am_O → Prop} {M : am_M} {x1 : Int32} {M1 : am_M} {r1 : Int32} (hc1 : C 62 M [am_I x1, am_I 0, am_I 1023] (M1, Sum.inl (some (am_I r1)))) (k1 : r1 = 0 → am_ev sh C 63 (16, [some (am_R (some (20, 0, 0))), some (am_I x1)], [am_R (some (20, 0, 0))], M1, 0) P) (k2 : ¬ r1 = 0 → am_ev sh C 63 (12, [some (am_R (some (20, 0, 0))), some (am_I x1)], [am_R (some (20, 0, 0))], M1, 0) P) : am_ev sh C 63 (0, [some (am_R (some (20, 0, 0))), some (am_I x1)], [], M, 0) P := by
  refine am_e_aload_n dd_63_0 rfl rfl ?_
  refine am_e_iload_n dd_63_1 rfl rfl ?_
  refine am_e_iconst (v := 0) dd_63_2 rfl rfl ?_
  refine am_e_sipush (v := 1023) dd_63_3 (by decide) rfl ?_
  refine am_e_callS (c := 62) (k := 3) (as := [am_I x1, am_I 0, am_I 1023]) (S' := [am_I r1, am_R (some (20, 0, 0))]) (v := some (am_I r1)) (M' := M1) (n' := 0) dd_63_6 (by decide +kernel) (by decide +kernel) ⟨Nat.le_of_ble_eq_true rfl, Nat.le_of_ble_eq_true rfl, by decide +kernel, (Or.inl rfl)⟩ rfl rfl (by decide +kernel) hc1 rfl ?_
  exact am_a_if_eq (tgt := 16) (pc' := 12) dd_63_9 rfl rfl k1 k2

theorem sg_63_12 {sh : am_Sh} {C : Nat → am_M → List am_V → am_O → Prop} {P : am_S ⊕ am_O → Prop} {M : am_M} {x1 : Int32}  (k : am_ev sh C 63 (17, [some (am_R (some (20, 0, 0))), some (am_I x1)], [am_I 0, am_R (some (20, 0, 0))], M, 0) P) : am_ev sh C 63 (12, [some (am_R (some (20, 0, 0))), some (am_I x1)], [am_R (some (20, 0, 0))], M, 0) P := by
  refine am_e_iconst (v := 0) dd_63_12 rfl rfl ?_
  refine am_e_goto (pc' := 17) dd_63_13 rfl ?_
  exact k

theorem sg_63_16 {sh : am_Sh} {C : Nat → am_M → List am_V → am_O → Prop} {P : am_S ⊕ am_O → Prop} {M : am_M} {x1 : Int32}  (k : am_ev sh C 63 (17, [some (am_R (some (20, 0, 0))), some (am_I x1)], [am_I 1, am_R (some (20, 0, 0))], M, 0) P) : am_ev sh C 63 (16, [some (am_R (some (20, 0, 0))), some (am_I x1)], [am_R (some (20, 0, 0))], M, 0) P := by
  refine am_e_iconst (v := 1) dd_63_16 rfl rfl ?_
  exact k

theorem sg_63_17 {sh : am_Sh} {C : Nat → am_M → List am_V → am_O → Prop} {P : am_S ⊕ am_O → Prop} {M : am_M} {x1 : Int32} {xs1 : Int32}  (k1 : ((am_up M (20, 0, 0) 0 xs1) (20, 0, 0) 0) ≤ 0 → am_ev sh C 63 (31, [some (am_R (some (20, 0, 0))), some (am_I x1)], [], (am_up M (20, 0, 0) 0 xs1), 0) P) (k2 : ¬ ((am_up M (20, 0, 0) 0 xs1) (20, 0, 0) 0) ≤ 0 → am_ev sh C 63 (27, [some (am_R (some (20, 0, 0))), some (am_I x1)], [], (am_up M (20, 0, 0) 0 xs1), 0) P) : am_ev sh C 63 (17, [some (am_R (some (20, 0, 0))), some (am_I x1)], [am_I xs1, am_R (some (20, 0, 0))], M, 0) P := by
  refine am_e_pf (ci := 3) (j := 0) dd_63_17 (by decide +kernel) rfl rfl (Or.inl rfl) rfl ?_
  refine am_e_aload_n dd_63_20 rfl rfl ?_
  refine am_e_gf (ci := 3) (j := 0) (v := am_I ((am_up M (20, 0, 0) 0 xs1) (20, 0, 0) 0)) dd_63_21 (by decide +kernel) rfl rfl rfl ?_
  exact am_a_if_le (tgt := 31) (pc' := 27) dd_63_24 rfl rfl k1 k2

theorem sg_63_27 {sh : am_Sh} {C : Nat → am_M → List am_V → am_O → Prop} {P : am_S ⊕ am_O → Prop} {M : am_M} {x1 : Int32}  (k : am_ev sh C 63 (36, [some (am_R (some (20, 0, 0))), some (am_I x1)], [am_I 0], M, 0) P) : am_ev sh C 63 (27, [some (am_R (some (20, 0, 0))), some (am_I x1)], [], M, 0) P := by
  refine am_e_iconst (v := 0) dd_63_27 rfl rfl ?_
  refine am_e_goto (pc' := 36) dd_63_28 rfl ?_
  exact k

theorem sg_63_31 {sh : am_Sh} {C : Nat → am_M → List am_V → am_O → Prop} {P : am_S ⊕ am_O → Prop} {M : am_M} {x1 : Int32} {M1 : am_M} {r1 : Int32} (hc1 : C 64 M [am_R (some (20, 0, 0)), am_I x1] (M1, Sum.inl (some (am_I r1)))) (k : am_ev sh C 63 (36, [some (am_R (some (20, 0, 0))), some (am_I x1)], [am_I r1], M1, 0) P) : am_ev sh C 63 (31, [some (am_R (some (20, 0, 0))), some (am_I x1)], [], M, 0) P := by
  refine am_e_aload_n dd_63_31 rfl rfl ?_
  refine am_e_iload_n dd_63_32 rfl rfl ?_
  refine am_e_callV (c := 64) (k := 2) (as := [am_R (some (20, 0, 0)), am_I x1]) (S' := [am_I r1]) (v := some (am_I r1)) (M' := M1) (n' := 0) dd_63_33 (by decide +kernel) ⟨Nat.le_of_ble_eq_true rfl, Nat.le_of_ble_eq_true rfl, by decide +kernel, (Or.inr (am_rcv_of rfl))⟩ rfl rfl (by decide +kernel) hc1 rfl ?_
  exact k

theorem sg_63_36 {sh : am_Sh} {C : Nat → am_M → List am_V → am_O → Prop} {P : am_S ⊕ am_O → Prop} {M : am_M} {x1 : Int32} {xs0 : Int32}  (k : P (Sum.inr (M, Sum.inl (some (am_I xs0))))) : am_ev sh C 63 (36, [some (am_R (some (20, 0, 0))), some (am_I x1)], [am_I xs0], M, 0) P := by
  exact am_e_iret dd_63_36 (by decide +kernel) (Or.inl rfl) k

-- 64: CacheLadderModel.readWord(I)I
theorem dd_64_0 : decode (am_b 64) 0 = .ok (.aload_n 0, 1) := by decide +kernel
theorem dd_64_1 : decode (am_b 64) 1 = .ok (.iconst 1, 1) := by decide +kernel
theorem dd_64_2 : decode (am_b 64) 2 = .ok (.putfield 177, 3) := by decide +kernel
theorem dd_64_5 : decode (am_b 64) 5 = .ok (.aload_n 0, 1) := by decide +kernel
theorem dd_64_6 : decode (am_b 64) 6 = .ok (.iconst 0, 1) := by decide +kernel
theorem dd_64_7 : decode (am_b 64) 7 = .ok (.iconst 0, 1) := by decide +kernel
theorem dd_64_8 : decode (am_b 64) 8 = .ok (.iload_n 1, 1) := by decide +kernel
theorem dd_64_9 : decode (am_b 64) 9 = .ok (.iconst 4, 1) := by decide +kernel
theorem dd_64_10 : decode (am_b 64) 10 = .ok (.idiv, 1) := by decide +kernel
theorem dd_64_11 : decode (am_b 64) 11 = .ok (.iconst 0, 1) := by decide +kernel
theorem dd_64_12 : decode (am_b 64) 12 = .ok (.iconst 0, 1) := by decide +kernel
theorem dd_64_13 : decode (am_b 64) 13 = .ok (.invokevirtual 124, 3) := by decide +kernel
theorem dd_64_16 : decode (am_b 64) 16 = .ok (.aload_n 0, 1) := by decide +kernel
theorem dd_64_17 : decode (am_b 64) 17 = .ok (.invokevirtual 181, 3) := by decide +kernel
theorem dd_64_20 : decode (am_b 64) 20 = .ok (.aload_n 0, 1) := by decide +kernel
theorem dd_64_21 : decode (am_b 64) 21 = .ok (.getfield 56, 3) := by decide +kernel
theorem dd_64_24 : decode (am_b 64) 24 = .ok (.iload_n 1, 1) := by decide +kernel
theorem dd_64_25 : decode (am_b 64) 25 = .ok (.iconst 4, 1) := by decide +kernel
theorem dd_64_26 : decode (am_b 64) 26 = .ok (.irem, 1) := by decide +kernel
theorem dd_64_27 : decode (am_b 64) 27 = .ok (.iaload, 1) := by decide +kernel
theorem dd_64_28 : decode (am_b 64) 28 = .ok (.ireturn, 1) := by decide +kernel
theorem sg_64_0 {sh : am_Sh} {C : Nat → am_M → List am_V → am_O → Prop} {P : am_S ⊕ am_O → Prop} {M : am_M} {x1 : Int32} {M1 : am_M} {M2 : am_M} {j1 : Nat} (hc1 : C 65 (am_up M (20, 0, 0) 2 1) [am_R (some (20, 0, 0)), am_I 0, am_I 0, am_I (x1 / 4), am_I 0, am_I 0] (M1, Sum.inl none)) (hc2 : C 66 M1 [am_R (some (20, 0, 0))] (M2, Sum.inl none)) (hx_j1 : x1 - x1 / 4 * 4 = nI j1) (hl_j1 : j1 < 20) (k : P (Sum.inr (M2, Sum.inl (some (am_I (M2 (21, 21, 0) j1)))))) : am_ev sh C 64 (0, [some (am_R (some (20, 0, 0))), some (am_I x1)], [], M, 0) P := by
  refine am_e_aload_n dd_64_0 rfl rfl ?_
  refine am_e_iconst (v := 1) dd_64_1 rfl rfl ?_
  refine am_e_pf (ci := 3) (j := 2) dd_64_2 (by decide +kernel) rfl rfl (Or.inr ⟨rfl, Or.inr rfl⟩) rfl ?_
  refine am_e_aload_n dd_64_5 rfl rfl ?_
  refine am_e_iconst (v := 0) dd_64_6 rfl rfl ?_
  refine am_e_iconst (v := 0) dd_64_7 rfl rfl ?_
  refine am_e_iload_n dd_64_8 rfl rfl ?_
  refine am_e_iconst (v := 4) dd_64_9 rfl rfl ?_
  refine am_e_idiv dd_64_10 (by decide) rfl ?_
  refine am_e_iconst (v := 0) dd_64_11 rfl rfl ?_
  refine am_e_iconst (v := 0) dd_64_12 rfl rfl ?_
  refine am_e_callV (c := 65) (k := 6) (as := [am_R (some (20, 0, 0)), am_I 0, am_I 0, am_I (x1 / 4), am_I 0, am_I 0]) (S' := []) (v := none) (M' := M1) (n' := 0) dd_64_13 (by decide +kernel) ⟨Nat.le_of_ble_eq_true rfl, Nat.le_of_ble_eq_true rfl, by decide +kernel, (Or.inr (am_rcv_of rfl))⟩ rfl rfl (by decide +kernel) hc1 rfl ?_
  refine am_e_aload_n dd_64_16 rfl rfl ?_
  refine am_e_callV (c := 66) (k := 1) (as := [am_R (some (20, 0, 0))]) (S' := []) (v := none) (M' := M2) (n' := 0) dd_64_17 (by decide +kernel) ⟨Nat.le_of_ble_eq_true rfl, Nat.le_of_ble_eq_true rfl, by decide +kernel, (Or.inr (am_rcv_of rfl))⟩ rfl rfl (by decide +kernel) hc2 rfl ?_
  refine am_e_aload_n dd_64_20 rfl rfl ?_
  refine am_e_gf (ci := 3) (j := 21) (v := am_R (some (21, 21, 0))) dd_64_21 (by decide +kernel) rfl rfl rfl ?_
  refine am_e_iload_n dd_64_24 rfl rfl ?_
  refine am_e_iconst (v := 4) dd_64_25 rfl rfl ?_
  refine am_e_irem dd_64_26 (by decide) rfl ?_
  refine am_a_iald dd_64_27 rfl hx_j1 hl_j1 (by decide) rfl ?_
  exact am_e_iret dd_64_28 (by decide +kernel) (Or.inl rfl) k

-- 65: CacheLadderModel.push(IIIII)V
theorem dd_65_0 : decode (am_b 65) 0 = .ok (.aload_n 0, 1) := by decide +kernel
theorem dd_65_1 : decode (am_b 65) 1 = .ok (.getfield 62, 3) := by decide +kernel
theorem dd_65_4 : decode (am_b 65) 4 = .ok (.aload_n 0, 1) := by decide +kernel
theorem dd_65_5 : decode (am_b 65) 5 = .ok (.getfield 102, 3) := by decide +kernel
theorem dd_65_8 : decode (am_b 65) 8 = .ok (.iload_n 1, 1) := by decide +kernel
theorem dd_65_9 : decode (am_b 65) 9 = .ok (.iastore, 1) := by decide +kernel
theorem dd_65_10 : decode (am_b 65) 10 = .ok (.aload_n 0, 1) := by decide +kernel
theorem dd_65_11 : decode (am_b 65) 11 = .ok (.getfield 65, 3) := by decide +kernel
theorem dd_65_14 : decode (am_b 65) 14 = .ok (.aload_n 0, 1) := by decide +kernel
theorem dd_65_15 : decode (am_b 65) 15 = .ok (.getfield 102, 3) := by decide +kernel
theorem dd_65_18 : decode (am_b 65) 18 = .ok (.iload_n 2, 1) := by decide +kernel
theorem dd_65_19 : decode (am_b 65) 19 = .ok (.iastore, 1) := by decide +kernel
theorem dd_65_20 : decode (am_b 65) 20 = .ok (.aload_n 0, 1) := by decide +kernel
theorem dd_65_21 : decode (am_b 65) 21 = .ok (.getfield 68, 3) := by decide +kernel
theorem dd_65_24 : decode (am_b 65) 24 = .ok (.aload_n 0, 1) := by decide +kernel
theorem dd_65_25 : decode (am_b 65) 25 = .ok (.getfield 102, 3) := by decide +kernel
theorem dd_65_28 : decode (am_b 65) 28 = .ok (.iload_n 3, 1) := by decide +kernel
theorem dd_65_29 : decode (am_b 65) 29 = .ok (.iastore, 1) := by decide +kernel
theorem dd_65_30 : decode (am_b 65) 30 = .ok (.aload_n 0, 1) := by decide +kernel
theorem dd_65_31 : decode (am_b 65) 31 = .ok (.getfield 71, 3) := by decide +kernel
theorem dd_65_34 : decode (am_b 65) 34 = .ok (.aload_n 0, 1) := by decide +kernel
theorem dd_65_35 : decode (am_b 65) 35 = .ok (.getfield 102, 3) := by decide +kernel
theorem dd_65_38 : decode (am_b 65) 38 = .ok (.iload 4, 2) := by decide +kernel
theorem dd_65_40 : decode (am_b 65) 40 = .ok (.iastore, 1) := by decide +kernel
theorem dd_65_41 : decode (am_b 65) 41 = .ok (.aload_n 0, 1) := by decide +kernel
theorem dd_65_42 : decode (am_b 65) 42 = .ok (.getfield 74, 3) := by decide +kernel
theorem dd_65_45 : decode (am_b 65) 45 = .ok (.aload_n 0, 1) := by decide +kernel
theorem dd_65_46 : decode (am_b 65) 46 = .ok (.getfield 102, 3) := by decide +kernel
theorem dd_65_49 : decode (am_b 65) 49 = .ok (.iload 5, 2) := by decide +kernel
theorem dd_65_51 : decode (am_b 65) 51 = .ok (.iastore, 1) := by decide +kernel
theorem dd_65_52 : decode (am_b 65) 52 = .ok (.aload_n 0, 1) := by decide +kernel
theorem dd_65_53 : decode (am_b 65) 53 = .ok (.getfield 77, 3) := by decide +kernel
theorem dd_65_56 : decode (am_b 65) 56 = .ok (.aload_n 0, 1) := by decide +kernel
theorem dd_65_57 : decode (am_b 65) 57 = .ok (.getfield 102, 3) := by decide +kernel
theorem dd_65_60 : decode (am_b 65) 60 = .ok (.iconst 0, 1) := by decide +kernel
theorem dd_65_61 : decode (am_b 65) 61 = .ok (.iastore, 1) := by decide +kernel
theorem dd_65_62 : decode (am_b 65) 62 = .ok (.aload_n 0, 1) := by decide +kernel
theorem dd_65_63 : decode (am_b 65) 63 = .ok (.dup, 1) := by decide +kernel
theorem dd_65_64 : decode (am_b 65) 64 = .ok (.getfield 102, 3) := by decide +kernel
theorem dd_65_67 : decode (am_b 65) 67 = .ok (.iconst 1, 1) := by decide +kernel
theorem dd_65_68 : decode (am_b 65) 68 = .ok (.iadd, 1) := by decide +kernel
theorem dd_65_69 : decode (am_b 65) 69 = .ok (.putfield 102, 3) := by decide +kernel
theorem dd_65_72 : decode (am_b 65) 72 = .ok (.return_, 1) := by decide +kernel
theorem sg_65_0 {sh : am_Sh} {C : Nat → am_M → List am_V → am_O → Prop} {P : am_S ⊕ am_O → Prop} {M : am_M} {x1 : Int32} {x2 : Int32} {x3 : Int32} {x4 : Int32} {x5 : Int32} {j1 : Nat} {j2 : Nat} {j3 : Nat} {j4 : Nat} {j5 : Nat} {j6 : Nat} (hx_j1 : M (20, 0, 0) 23 = nI j1) (hl_j1 : j1 < 64) (hx_j2 : (am_up M (21, 24, 0) j1 x1) (20, 0, 0) 23 = nI j2) (hl_j2 : j2 < 64) (hx_j3 : (am_up (am_up M (21, 24, 0) j1 x1) (21, 25, 0) j2 x2) (20, 0, 0) 23 = nI j3) (hl_j3 : j3 < 64) (hx_j4 : (am_up (am_up (am_up M (21, 24, 0) j1 x1) (21, 25, 0) j2 x2) (21, 26, 0) j3 x3) (20, 0, 0) 23 = nI j4) (hl_j4 : j4 < 64) (hx_j5 : (am_up (am_up (am_up (am_up M (21, 24, 0) j1 x1) (21, 25, 0) j2 x2) (21, 26, 0) j3 x3) (21, 27, 0) j4 x4) (20, 0, 0) 23 = nI j5) (hl_j5 : j5 < 64) (hx_j6 : (am_up (am_up (am_up (am_up (am_up M (21, 24, 0) j1 x1) (21, 25, 0) j2 x2) (21, 26, 0) j3 x3) (21, 27, 0) j4 x4) (21, 28, 0) j5 x5) (20, 0, 0) 23 = nI j6) (hl_j6 : j6 < 64) (k : P (Sum.inr ((am_up (am_up (am_up (am_up (am_up (am_up (am_up M (21, 24, 0) j1 x1) (21, 25, 0) j2 x2) (21, 26, 0) j3 x3) (21, 27, 0) j4 x4) (21, 28, 0) j5 x5) (21, 29, 0) j6 0) (20, 0, 0) 23 (((am_up (am_up (am_up (am_up (am_up (am_up M (21, 24, 0) j1 x1) (21, 25, 0) j2 x2) (21, 26, 0) j3 x3) (21, 27, 0) j4 x4) (21, 28, 0) j5 x5) (21, 29, 0) j6 0) (20, 0, 0) 23) + 1)), Sum.inl none))) : am_ev sh C 65 (0, [some (am_R (some (20, 0, 0))), some (am_I x1), some (am_I x2), some (am_I x3), some (am_I x4), some (am_I x5)], [], M, 0) P := by
  refine am_e_aload_n dd_65_0 rfl rfl ?_
  refine am_e_gf (ci := 3) (j := 24) (v := am_R (some (21, 24, 0))) dd_65_1 (by decide +kernel) rfl rfl rfl ?_
  refine am_e_aload_n dd_65_4 rfl rfl ?_
  refine am_e_gf (ci := 3) (j := 23) (v := am_I (M (20, 0, 0) 23)) dd_65_5 (by decide +kernel) rfl rfl rfl ?_
  refine am_e_iload_n dd_65_8 rfl rfl ?_
  refine am_a_iast dd_65_9 rfl hx_j1 hl_j1 (by decide) rfl ?_
  refine am_e_aload_n dd_65_10 rfl rfl ?_
  refine am_e_gf (ci := 3) (j := 25) (v := am_R (some (21, 25, 0))) dd_65_11 (by decide +kernel) rfl rfl rfl ?_
  refine am_e_aload_n dd_65_14 rfl rfl ?_
  refine am_e_gf (ci := 3) (j := 23) (v := am_I ((am_up M (21, 24, 0) j1 x1) (20, 0, 0) 23)) dd_65_15 (by decide +kernel) rfl rfl rfl ?_
  refine am_e_iload_n dd_65_18 rfl rfl ?_
  refine am_a_iast dd_65_19 rfl hx_j2 hl_j2 (by decide) rfl ?_
  refine am_e_aload_n dd_65_20 rfl rfl ?_
  refine am_e_gf (ci := 3) (j := 26) (v := am_R (some (21, 26, 0))) dd_65_21 (by decide +kernel) rfl rfl rfl ?_
  refine am_e_aload_n dd_65_24 rfl rfl ?_
  refine am_e_gf (ci := 3) (j := 23) (v := am_I ((am_up (am_up M (21, 24, 0) j1 x1) (21, 25, 0) j2 x2) (20, 0, 0) 23)) dd_65_25 (by decide +kernel) rfl rfl rfl ?_
  refine am_e_iload_n dd_65_28 rfl rfl ?_
  refine am_a_iast dd_65_29 rfl hx_j3 hl_j3 (by decide) rfl ?_
  refine am_e_aload_n dd_65_30 rfl rfl ?_
  refine am_e_gf (ci := 3) (j := 27) (v := am_R (some (21, 27, 0))) dd_65_31 (by decide +kernel) rfl rfl rfl ?_
  refine am_e_aload_n dd_65_34 rfl rfl ?_
  refine am_e_gf (ci := 3) (j := 23) (v := am_I ((am_up (am_up (am_up M (21, 24, 0) j1 x1) (21, 25, 0) j2 x2) (21, 26, 0) j3 x3) (20, 0, 0) 23)) dd_65_35 (by decide +kernel) rfl rfl rfl ?_
  refine am_e_iload dd_65_38 rfl rfl ?_
  refine am_a_iast dd_65_40 rfl hx_j4 hl_j4 (by decide) rfl ?_
  refine am_e_aload_n dd_65_41 rfl rfl ?_
  refine am_e_gf (ci := 3) (j := 28) (v := am_R (some (21, 28, 0))) dd_65_42 (by decide +kernel) rfl rfl rfl ?_
  refine am_e_aload_n dd_65_45 rfl rfl ?_
  refine am_e_gf (ci := 3) (j := 23) (v := am_I ((am_up (am_up (am_up (am_up M (21, 24, 0) j1 x1) (21, 25, 0) j2 x2) (21, 26, 0) j3 x3) (21, 27, 0) j4 x4) (20, 0, 0) 23)) dd_65_46 (by decide +kernel) rfl rfl rfl ?_
  refine am_e_iload dd_65_49 rfl rfl ?_
  refine am_a_iast dd_65_51 rfl hx_j5 hl_j5 (by decide) rfl ?_
  refine am_e_aload_n dd_65_52 rfl rfl ?_
  refine am_e_gf (ci := 3) (j := 29) (v := am_R (some (21, 29, 0))) dd_65_53 (by decide +kernel) rfl rfl rfl ?_
  refine am_e_aload_n dd_65_56 rfl rfl ?_
  refine am_e_gf (ci := 3) (j := 23) (v := am_I ((am_up (am_up (am_up (am_up (am_up M (21, 24, 0) j1 x1) (21, 25, 0) j2 x2) (21, 26, 0) j3 x3) (21, 27, 0) j4 x4) (21, 28, 0) j5 x5) (20, 0, 0) 23)) dd_65_57 (by decide +kernel) rfl rfl rfl ?_
  refine am_e_iconst (v := 0) dd_65_60 rfl rfl ?_
  refine am_a_iast dd_65_61 rfl hx_j6 hl_j6 (by decide) rfl ?_
  refine am_e_aload_n dd_65_62 rfl rfl ?_
  refine am_e_dup dd_65_63 rfl rfl ?_
  refine am_e_gf (ci := 3) (j := 23) (v := am_I ((am_up (am_up (am_up (am_up (am_up (am_up M (21, 24, 0) j1 x1) (21, 25, 0) j2 x2) (21, 26, 0) j3 x3) (21, 27, 0) j4 x4) (21, 28, 0) j5 x5) (21, 29, 0) j6 0) (20, 0, 0) 23)) dd_65_64 (by decide +kernel) rfl rfl rfl ?_
  refine am_e_iconst (v := 1) dd_65_67 rfl rfl ?_
  refine am_e_iadd dd_65_68 rfl ?_
  refine am_e_pf (ci := 3) (j := 23) dd_65_69 (by decide +kernel) rfl rfl (Or.inl rfl) rfl ?_
  exact am_e_vret dd_65_72 (by decide +kernel) rfl k

-- 66: CacheLadderModel.workOff()V
theorem dd_66_0 : decode (am_b 66) 0 = .ok (.aload_n 0, 1) := by decide +kernel
theorem dd_66_1 : decode (am_b 66) 1 = .ok (.getfield 102, 3) := by decide +kernel
theorem dd_66_4 : decode (am_b 66) 4 = .ok (.ifCond .le 68, 3) := by decide +kernel
theorem dd_66_7 : decode (am_b 66) 7 = .ok (.aload_n 0, 1) := by decide +kernel
theorem dd_66_8 : decode (am_b 66) 8 = .ok (.getfield 102, 3) := by decide +kernel
theorem dd_66_11 : decode (am_b 66) 11 = .ok (.iconst 1, 1) := by decide +kernel
theorem dd_66_12 : decode (am_b 66) 12 = .ok (.isub, 1) := by decide +kernel
theorem dd_66_13 : decode (am_b 66) 13 = .ok (.istore_n 1, 1) := by decide +kernel
theorem dd_66_14 : decode (am_b 66) 14 = .ok (.aload_n 0, 1) := by decide +kernel
theorem dd_66_15 : decode (am_b 66) 15 = .ok (.getfield 62, 3) := by decide +kernel
theorem dd_66_18 : decode (am_b 66) 18 = .ok (.iload_n 1, 1) := by decide +kernel
theorem dd_66_19 : decode (am_b 66) 19 = .ok (.iaload, 1) := by decide +kernel
theorem dd_66_20 : decode (am_b 66) 20 = .ok (.lookupswitch 44 #[(0, 28), (1, 36)], 28) := by decide +kernel
theorem dd_66_48 : decode (am_b 66) 48 = .ok (.aload_n 0, 1) := by decide +kernel
theorem dd_66_49 : decode (am_b 66) 49 = .ok (.iload_n 1, 1) := by decide +kernel
theorem dd_66_50 : decode (am_b 66) 50 = .ok (.invokevirtual 105, 3) := by decide +kernel
theorem dd_66_53 : decode (am_b 66) 53 = .ok (.goto 16, 3) := by decide +kernel
theorem dd_66_56 : decode (am_b 66) 56 = .ok (.aload_n 0, 1) := by decide +kernel
theorem dd_66_57 : decode (am_b 66) 57 = .ok (.iload_n 1, 1) := by decide +kernel
theorem dd_66_58 : decode (am_b 66) 58 = .ok (.invokevirtual 108, 3) := by decide +kernel
theorem dd_66_61 : decode (am_b 66) 61 = .ok (.goto 8, 3) := by decide +kernel
theorem dd_66_64 : decode (am_b 66) 64 = .ok (.aload_n 0, 1) := by decide +kernel
theorem dd_66_65 : decode (am_b 66) 65 = .ok (.iload_n 1, 1) := by decide +kernel
theorem dd_66_66 : decode (am_b 66) 66 = .ok (.invokevirtual 111, 3) := by decide +kernel
theorem dd_66_69 : decode (am_b 66) 69 = .ok (.goto (-69), 3) := by decide +kernel
theorem dd_66_72 : decode (am_b 66) 72 = .ok (.return_, 1) := by decide +kernel
theorem sg_66_0 {sh : am_Sh} {C : Nat → am_M → List am_V → am_O → Prop} {P : am_S ⊕ am_O → Prop} {M : am_M} {u1 : Option am_V}  (k1 : (M (20, 0, 0) 23) ≤ 0 → am_ev sh C 66 (72, [some (am_R (some (20, 0, 0))), u1], [], M, 0) P) (k2 : ¬ (M (20, 0, 0) 23) ≤ 0 → am_ev sh C 66 (7, [some (am_R (some (20, 0, 0))), u1], [], M, 0) P) : am_ev sh C 66 (0, [some (am_R (some (20, 0, 0))), u1], [], M, 0) P := by
  refine am_e_aload_n dd_66_0 rfl rfl ?_
  refine am_e_gf (ci := 3) (j := 23) (v := am_I (M (20, 0, 0) 23)) dd_66_1 (by decide +kernel) rfl rfl rfl ?_
  exact am_a_if_le (tgt := 72) (pc' := 7) dd_66_4 rfl rfl k1 k2

theorem sg_66_7 {sh : am_Sh} {C : Nat → am_M → List am_V → am_O → Prop} {P : am_S ⊕ am_O → Prop} {M : am_M} {u1 : Option am_V} {j1 : Nat} (hx_j1 : (M (20, 0, 0) 23) - 1 = nI j1) (hl_j1 : j1 < 64) (k : am_ev sh C 66 (20, [some (am_R (some (20, 0, 0))), some (am_I ((M (20, 0, 0) 23) - 1))], [am_I (M (21, 24, 0) j1)], M, 0) P) : am_ev sh C 66 (7, [some (am_R (some (20, 0, 0))), u1], [], M, 0) P := by
  refine am_e_aload_n dd_66_7 rfl rfl ?_
  refine am_e_gf (ci := 3) (j := 23) (v := am_I (M (20, 0, 0) 23)) dd_66_8 (by decide +kernel) rfl rfl rfl ?_
  refine am_e_iconst (v := 1) dd_66_11 rfl rfl ?_
  refine am_e_isub dd_66_12 rfl ?_
  refine am_e_istore_n dd_66_13 (Nat.le_of_ble_eq_true rfl) rfl rfl ?_
  refine am_e_aload_n dd_66_14 rfl rfl ?_
  refine am_e_gf (ci := 3) (j := 24) (v := am_R (some (21, 24, 0))) dd_66_15 (by decide +kernel) rfl rfl rfl ?_
  refine am_e_iload_n dd_66_18 rfl rfl ?_
  refine am_a_iald dd_66_19 rfl hx_j1 hl_j1 (by decide) rfl ?_
  exact k

theorem sg_66_48 {sh : am_Sh} {C : Nat → am_M → List am_V → am_O → Prop} {P : am_S ⊕ am_O → Prop} {M : am_M} {x1 : Int32} {M1 : am_M} (hc1 : C 67 M [am_R (some (20, 0, 0)), am_I x1] (M1, Sum.inl none)) (k : am_ev sh C 66 (69, [some (am_R (some (20, 0, 0))), some (am_I x1)], [], M1, 0) P) : am_ev sh C 66 (48, [some (am_R (some (20, 0, 0))), some (am_I x1)], [], M, 0) P := by
  refine am_e_aload_n dd_66_48 rfl rfl ?_
  refine am_e_iload_n dd_66_49 rfl rfl ?_
  refine am_e_callV (c := 67) (k := 2) (as := [am_R (some (20, 0, 0)), am_I x1]) (S' := []) (v := none) (M' := M1) (n' := 0) dd_66_50 (by decide +kernel) ⟨Nat.le_of_ble_eq_true rfl, Nat.le_of_ble_eq_true rfl, by decide +kernel, (Or.inr (am_rcv_of rfl))⟩ rfl rfl (by decide +kernel) hc1 rfl ?_
  refine am_e_goto (pc' := 69) dd_66_53 rfl ?_
  exact k

theorem sg_66_56 {sh : am_Sh} {C : Nat → am_M → List am_V → am_O → Prop} {P : am_S ⊕ am_O → Prop} {M : am_M} {x1 : Int32} {M1 : am_M} (hc1 : C 79 M [am_R (some (20, 0, 0)), am_I x1] (M1, Sum.inl none)) (k : am_ev sh C 66 (69, [some (am_R (some (20, 0, 0))), some (am_I x1)], [], M1, 0) P) : am_ev sh C 66 (56, [some (am_R (some (20, 0, 0))), some (am_I x1)], [], M, 0) P := by
  refine am_e_aload_n dd_66_56 rfl rfl ?_
  refine am_e_iload_n dd_66_57 rfl rfl ?_
  refine am_e_callV (c := 79) (k := 2) (as := [am_R (some (20, 0, 0)), am_I x1]) (S' := []) (v := none) (M' := M1) (n' := 0) dd_66_58 (by decide +kernel) ⟨Nat.le_of_ble_eq_true rfl, Nat.le_of_ble_eq_true rfl, by decide +kernel, (Or.inr (am_rcv_of rfl))⟩ rfl rfl (by decide +kernel) hc1 rfl ?_
  refine am_e_goto (pc' := 69) dd_66_61 rfl ?_
  exact k

theorem sg_66_64 {sh : am_Sh} {C : Nat → am_M → List am_V → am_O → Prop} {P : am_S ⊕ am_O → Prop} {M : am_M} {x1 : Int32} {M1 : am_M} (hc1 : C 85 M [am_R (some (20, 0, 0)), am_I x1] (M1, Sum.inl none)) (k : am_ev sh C 66 (69, [some (am_R (some (20, 0, 0))), some (am_I x1)], [], M1, 0) P) : am_ev sh C 66 (64, [some (am_R (some (20, 0, 0))), some (am_I x1)], [], M, 0) P := by
  refine am_e_aload_n dd_66_64 rfl rfl ?_
  refine am_e_iload_n dd_66_65 rfl rfl ?_
  refine am_e_callV (c := 85) (k := 2) (as := [am_R (some (20, 0, 0)), am_I x1]) (S' := []) (v := none) (M' := M1) (n' := 0) dd_66_66 (by decide +kernel) ⟨Nat.le_of_ble_eq_true rfl, Nat.le_of_ble_eq_true rfl, by decide +kernel, (Or.inr (am_rcv_of rfl))⟩ rfl rfl (by decide +kernel) hc1 rfl ?_
  exact k

theorem sg_66_69 {sh : am_Sh} {C : Nat → am_M → List am_V → am_O → Prop} {P : am_S ⊕ am_O → Prop} {M : am_M} {x1 : Int32}  (k : am_ev sh C 66 (0, [some (am_R (some (20, 0, 0))), some (am_I x1)], [], M, 0) P) : am_ev sh C 66 (69, [some (am_R (some (20, 0, 0))), some (am_I x1)], [], M, 0) P := by
  refine am_e_goto (pc' := 0) dd_66_69 rfl ?_
  exact k

theorem sg_66_72 {sh : am_Sh} {C : Nat → am_M → List am_V → am_O → Prop} {P : am_S ⊕ am_O → Prop} {M : am_M} {u1 : Option am_V}  (k : P (Sum.inr (M, Sum.inl none))) : am_ev sh C 66 (72, [some (am_R (some (20, 0, 0))), u1], [], M, 0) P := by
  exact am_e_vret dd_66_72 (by decide +kernel) rfl k

