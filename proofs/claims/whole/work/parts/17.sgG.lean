-- 67: CacheLadderModel.stepRead(I)V
theorem dd_67_0 : decode (am_b 67) 0 = .ok (.aload_n 0, 1) := by decide +kernel
theorem dd_67_1 : decode (am_b 67) 1 = .ok (.getfield 65, 3) := by decide +kernel
theorem dd_67_4 : decode (am_b 67) 4 = .ok (.iload_n 1, 1) := by decide +kernel
theorem dd_67_5 : decode (am_b 67) 5 = .ok (.iaload, 1) := by decide +kernel
theorem dd_67_6 : decode (am_b 67) 6 = .ok (.istore_n 2, 1) := by decide +kernel
theorem dd_67_7 : decode (am_b 67) 7 = .ok (.aload_n 0, 1) := by decide +kernel
theorem dd_67_8 : decode (am_b 67) 8 = .ok (.getfield 68, 3) := by decide +kernel
theorem dd_67_11 : decode (am_b 67) 11 = .ok (.iload_n 1, 1) := by decide +kernel
theorem dd_67_12 : decode (am_b 67) 12 = .ok (.iaload, 1) := by decide +kernel
theorem dd_67_13 : decode (am_b 67) 13 = .ok (.istore_n 3, 1) := by decide +kernel
theorem dd_67_14 : decode (am_b 67) 14 = .ok (.iload_n 2, 1) := by decide +kernel
theorem dd_67_15 : decode (am_b 67) 15 = .ok (.aload_n 0, 1) := by decide +kernel
theorem dd_67_16 : decode (am_b 67) 16 = .ok (.getfield 131, 3) := by decide +kernel
theorem dd_67_19 : decode (am_b 67) 19 = .ok (.if_icmp .ne 63, 3) := by decide +kernel
theorem dd_67_22 : decode (am_b 67) 22 = .ok (.aload_n 0, 1) := by decide +kernel
theorem dd_67_23 : decode (am_b 67) 23 = .ok (.dup, 1) := by decide +kernel
theorem dd_67_24 : decode (am_b 67) 24 = .ok (.getfield 134, 3) := by decide +kernel
theorem dd_67_27 : decode (am_b 67) 27 = .ok (.iconst 1, 1) := by decide +kernel
theorem dd_67_28 : decode (am_b 67) 28 = .ok (.iadd, 1) := by decide +kernel
theorem dd_67_29 : decode (am_b 67) 29 = .ok (.putfield 134, 3) := by decide +kernel
theorem dd_67_32 : decode (am_b 67) 32 = .ok (.iconst 0, 1) := by decide +kernel
theorem dd_67_33 : decode (am_b 67) 33 = .ok (.istore 4, 2) := by decide +kernel
theorem dd_67_35 : decode (am_b 67) 35 = .ok (.iload 4, 2) := by decide +kernel
theorem dd_67_37 : decode (am_b 67) 37 = .ok (.iconst 4, 1) := by decide +kernel
theorem dd_67_38 : decode (am_b 67) 38 = .ok (.if_icmp .ge 31, 3) := by decide +kernel
theorem dd_67_41 : decode (am_b 67) 41 = .ok (.aload_n 0, 1) := by decide +kernel
theorem dd_67_42 : decode (am_b 67) 42 = .ok (.getfield 56, 3) := by decide +kernel
theorem dd_67_45 : decode (am_b 67) 45 = .ok (.iconst 4, 1) := by decide +kernel
theorem dd_67_46 : decode (am_b 67) 46 = .ok (.iload_n 2, 1) := by decide +kernel
theorem dd_67_47 : decode (am_b 67) 47 = .ok (.imul, 1) := by decide +kernel
theorem dd_67_48 : decode (am_b 67) 48 = .ok (.iload 4, 2) := by decide +kernel
theorem dd_67_50 : decode (am_b 67) 50 = .ok (.iadd, 1) := by decide +kernel
theorem dd_67_51 : decode (am_b 67) 51 = .ok (.aload_n 0, 1) := by decide +kernel
theorem dd_67_52 : decode (am_b 67) 52 = .ok (.getfield 53, 3) := by decide +kernel
theorem dd_67_55 : decode (am_b 67) 55 = .ok (.iconst 4, 1) := by decide +kernel
theorem dd_67_56 : decode (am_b 67) 56 = .ok (.iload_n 3, 1) := by decide +kernel
theorem dd_67_57 : decode (am_b 67) 57 = .ok (.imul, 1) := by decide +kernel
theorem dd_67_58 : decode (am_b 67) 58 = .ok (.iload 4, 2) := by decide +kernel
theorem dd_67_60 : decode (am_b 67) 60 = .ok (.iadd, 1) := by decide +kernel
theorem dd_67_61 : decode (am_b 67) 61 = .ok (.iaload, 1) := by decide +kernel
theorem dd_67_62 : decode (am_b 67) 62 = .ok (.iastore, 1) := by decide +kernel
theorem dd_67_63 : decode (am_b 67) 63 = .ok (.iinc 4 1, 3) := by decide +kernel
theorem dd_67_66 : decode (am_b 67) 66 = .ok (.goto (-31), 3) := by decide +kernel
theorem dd_67_69 : decode (am_b 67) 69 = .ok (.aload_n 0, 1) := by decide +kernel
theorem dd_67_70 : decode (am_b 67) 70 = .ok (.dup, 1) := by decide +kernel
theorem dd_67_71 : decode (am_b 67) 71 = .ok (.getfield 102, 3) := by decide +kernel
theorem dd_67_74 : decode (am_b 67) 74 = .ok (.iconst 1, 1) := by decide +kernel
theorem dd_67_75 : decode (am_b 67) 75 = .ok (.isub, 1) := by decide +kernel
theorem dd_67_76 : decode (am_b 67) 76 = .ok (.putfield 102, 3) := by decide +kernel
theorem dd_67_79 : decode (am_b 67) 79 = .ok (.goto 141, 3) := by decide +kernel
theorem dd_67_82 : decode (am_b 67) 82 = .ok (.aload_n 0, 1) := by decide +kernel
theorem dd_67_83 : decode (am_b 67) 83 = .ok (.getfield 77, 3) := by decide +kernel
theorem dd_67_86 : decode (am_b 67) 86 = .ok (.iload_n 1, 1) := by decide +kernel
theorem dd_67_87 : decode (am_b 67) 87 = .ok (.iaload, 1) := by decide +kernel
theorem dd_67_88 : decode (am_b 67) 88 = .ok (.ifCond .ne 74, 3) := by decide +kernel
theorem dd_67_91 : decode (am_b 67) 91 = .ok (.aload_n 0, 1) := by decide +kernel
theorem dd_67_92 : decode (am_b 67) 92 = .ok (.iload_n 2, 1) := by decide +kernel
theorem dd_67_93 : decode (am_b 67) 93 = .ok (.iload_n 3, 1) := by decide +kernel
theorem dd_67_94 : decode (am_b 67) 94 = .ok (.invokevirtual 137, 3) := by decide +kernel
theorem dd_67_97 : decode (am_b 67) 97 = .ok (.istore 4, 2) := by decide +kernel
theorem dd_67_99 : decode (am_b 67) 99 = .ok (.aload_n 0, 1) := by decide +kernel
theorem dd_67_100 : decode (am_b 67) 100 = .ok (.getfield 26, 3) := by decide +kernel
theorem dd_67_103 : decode (am_b 67) 103 = .ok (.bipush 6, 2) := by decide +kernel
theorem dd_67_105 : decode (am_b 67) 105 = .ok (.iload_n 2, 1) := by decide +kernel
theorem dd_67_106 : decode (am_b 67) 106 = .ok (.imul, 1) := by decide +kernel
theorem dd_67_107 : decode (am_b 67) 107 = .ok (.iload 4, 2) := by decide +kernel
theorem dd_67_109 : decode (am_b 67) 109 = .ok (.ifCond .lt 7, 3) := by decide +kernel
theorem dd_67_112 : decode (am_b 67) 112 = .ok (.iconst 0, 1) := by decide +kernel
theorem dd_67_113 : decode (am_b 67) 113 = .ok (.goto 4, 3) := by decide +kernel
theorem dd_67_116 : decode (am_b 67) 116 = .ok (.iconst 1, 1) := by decide +kernel
theorem dd_67_117 : decode (am_b 67) 117 = .ok (.iadd, 1) := by decide +kernel
theorem dd_67_118 : decode (am_b 67) 118 = .ok (.dup2, 1) := by decide +kernel
theorem dd_67_119 : decode (am_b 67) 119 = .ok (.iaload, 1) := by decide +kernel
theorem dd_67_120 : decode (am_b 67) 120 = .ok (.iconst 1, 1) := by decide +kernel
theorem dd_67_121 : decode (am_b 67) 121 = .ok (.iadd, 1) := by decide +kernel
theorem dd_67_122 : decode (am_b 67) 122 = .ok (.iastore, 1) := by decide +kernel
theorem dd_67_123 : decode (am_b 67) 123 = .ok (.iload 4, 2) := by decide +kernel
theorem dd_67_125 : decode (am_b 67) 125 = .ok (.ifCond .ge 11, 3) := by decide +kernel
theorem dd_67_128 : decode (am_b 67) 128 = .ok (.aload_n 0, 1) := by decide +kernel
theorem dd_67_129 : decode (am_b 67) 129 = .ok (.iload_n 1, 1) := by decide +kernel
theorem dd_67_130 : decode (am_b 67) 130 = .ok (.invokevirtual 140, 3) := by decide +kernel
theorem dd_67_133 : decode (am_b 67) 133 = .ok (.goto 26, 3) := by decide +kernel
theorem dd_67_136 : decode (am_b 67) 136 = .ok (.aload_n 0, 1) := by decide +kernel
theorem dd_67_137 : decode (am_b 67) 137 = .ok (.iload 4, 2) := by decide +kernel
theorem dd_67_139 : decode (am_b 67) 139 = .ok (.invokevirtual 94, 3) := by decide +kernel
theorem dd_67_142 : decode (am_b 67) 142 = .ok (.aload_n 0, 1) := by decide +kernel
theorem dd_67_143 : decode (am_b 67) 143 = .ok (.iload_n 2, 1) := by decide +kernel
theorem dd_67_144 : decode (am_b 67) 144 = .ok (.iload 4, 2) := by decide +kernel
theorem dd_67_146 : decode (am_b 67) 146 = .ok (.invokevirtual 143, 3) := by decide +kernel
theorem dd_67_149 : decode (am_b 67) 149 = .ok (.aload_n 0, 1) := by decide +kernel
theorem dd_67_150 : decode (am_b 67) 150 = .ok (.dup, 1) := by decide +kernel
theorem dd_67_151 : decode (am_b 67) 151 = .ok (.getfield 102, 3) := by decide +kernel
theorem dd_67_154 : decode (am_b 67) 154 = .ok (.iconst 1, 1) := by decide +kernel
theorem dd_67_155 : decode (am_b 67) 155 = .ok (.isub, 1) := by decide +kernel
theorem dd_67_156 : decode (am_b 67) 156 = .ok (.putfield 102, 3) := by decide +kernel
theorem dd_67_159 : decode (am_b 67) 159 = .ok (.goto 61, 3) := by decide +kernel
theorem dd_67_162 : decode (am_b 67) 162 = .ok (.aload_n 0, 1) := by decide +kernel
theorem dd_67_163 : decode (am_b 67) 163 = .ok (.getfield 77, 3) := by decide +kernel
theorem dd_67_166 : decode (am_b 67) 166 = .ok (.iload_n 1, 1) := by decide +kernel
theorem dd_67_167 : decode (am_b 67) 167 = .ok (.iaload, 1) := by decide +kernel
theorem dd_67_168 : decode (am_b 67) 168 = .ok (.iconst 1, 1) := by decide +kernel
theorem dd_67_169 : decode (am_b 67) 169 = .ok (.if_icmp .ne 24, 3) := by decide +kernel
theorem dd_67_172 : decode (am_b 67) 172 = .ok (.aload_n 0, 1) := by decide +kernel
theorem dd_67_173 : decode (am_b 67) 173 = .ok (.getfield 77, 3) := by decide +kernel
theorem dd_67_176 : decode (am_b 67) 176 = .ok (.iload_n 1, 1) := by decide +kernel
theorem dd_67_177 : decode (am_b 67) 177 = .ok (.iconst 2, 1) := by decide +kernel
theorem dd_67_178 : decode (am_b 67) 178 = .ok (.iastore, 1) := by decide +kernel
theorem dd_67_179 : decode (am_b 67) 179 = .ok (.aload_n 0, 1) := by decide +kernel
theorem dd_67_180 : decode (am_b 67) 180 = .ok (.iconst 0, 1) := by decide +kernel
theorem dd_67_181 : decode (am_b 67) 181 = .ok (.iload_n 2, 1) := by decide +kernel
theorem dd_67_182 : decode (am_b 67) 182 = .ok (.iconst 1, 1) := by decide +kernel
theorem dd_67_183 : decode (am_b 67) 183 = .ok (.iadd, 1) := by decide +kernel
theorem dd_67_184 : decode (am_b 67) 184 = .ok (.iload_n 3, 1) := by decide +kernel
theorem dd_67_185 : decode (am_b 67) 185 = .ok (.iconst 0, 1) := by decide +kernel
theorem dd_67_186 : decode (am_b 67) 186 = .ok (.iconst 0, 1) := by decide +kernel
theorem dd_67_187 : decode (am_b 67) 187 = .ok (.invokevirtual 124, 3) := by decide +kernel
theorem dd_67_190 : decode (am_b 67) 190 = .ok (.goto 30, 3) := by decide +kernel
theorem dd_67_193 : decode (am_b 67) 193 = .ok (.aload_n 0, 1) := by decide +kernel
theorem dd_67_194 : decode (am_b 67) 194 = .ok (.iload_n 1, 1) := by decide +kernel
theorem dd_67_195 : decode (am_b 67) 195 = .ok (.iconst 1, 1) := by decide +kernel
theorem dd_67_196 : decode (am_b 67) 196 = .ok (.invokevirtual 146, 3) := by decide +kernel
theorem dd_67_199 : decode (am_b 67) 199 = .ok (.aload_n 0, 1) := by decide +kernel
theorem dd_67_200 : decode (am_b 67) 200 = .ok (.iload_n 2, 1) := by decide +kernel
theorem dd_67_201 : decode (am_b 67) 201 = .ok (.aload_n 0, 1) := by decide +kernel
theorem dd_67_202 : decode (am_b 67) 202 = .ok (.getfield 74, 3) := by decide +kernel
theorem dd_67_205 : decode (am_b 67) 205 = .ok (.iload_n 1, 1) := by decide +kernel
theorem dd_67_206 : decode (am_b 67) 206 = .ok (.iaload, 1) := by decide +kernel
theorem dd_67_207 : decode (am_b 67) 207 = .ok (.invokevirtual 143, 3) := by decide +kernel
theorem dd_67_210 : decode (am_b 67) 210 = .ok (.aload_n 0, 1) := by decide +kernel
theorem dd_67_211 : decode (am_b 67) 211 = .ok (.dup, 1) := by decide +kernel
theorem dd_67_212 : decode (am_b 67) 212 = .ok (.getfield 102, 3) := by decide +kernel
theorem dd_67_215 : decode (am_b 67) 215 = .ok (.iconst 1, 1) := by decide +kernel
theorem dd_67_216 : decode (am_b 67) 216 = .ok (.isub, 1) := by decide +kernel
theorem dd_67_217 : decode (am_b 67) 217 = .ok (.putfield 102, 3) := by decide +kernel
theorem dd_67_220 : decode (am_b 67) 220 = .ok (.return_, 1) := by decide +kernel
theorem sg_67_0 {sh : am_Sh} {C : Nat → am_M → List am_V → am_O → Prop} {P : am_S ⊕ am_O → Prop} {M : am_M} {x1 : Int32} {u2 : Option am_V} {u3 : Option am_V} {u4 : Option am_V} {j1 : Nat} {j2 : Nat} (hx_j1 : x1 = nI j1) (hl_j1 : j1 < 64) (hx_j2 : x1 = nI j2) (hl_j2 : j2 < 64) (k1 : ¬ (M (21, 25, 0) j1) = (M (20, 0, 0) 1) → am_ev sh C 67 (82, [some (am_R (some (20, 0, 0))), some (am_I x1), some (am_I (M (21, 25, 0) j1)), some (am_I (M (21, 26, 0) j2)), u4], [], M, 0) P) (k2 : (M (21, 25, 0) j1) = (M (20, 0, 0) 1) → am_ev sh C 67 (22, [some (am_R (some (20, 0, 0))), some (am_I x1), some (am_I (M (21, 25, 0) j1)), some (am_I (M (21, 26, 0) j2)), u4], [], M, 0) P) : am_ev sh C 67 (0, [some (am_R (some (20, 0, 0))), some (am_I x1), u2, u3, u4], [], M, 0) P := by
  refine am_e_aload_n dd_67_0 rfl rfl ?_
  refine am_e_gf (ci := 3) (j := 25) (v := am_R (some (21, 25, 0))) dd_67_1 (by decide +kernel) rfl rfl rfl ?_
  refine am_e_iload_n dd_67_4 rfl rfl ?_
  refine am_a_iald dd_67_5 rfl hx_j1 hl_j1 (by decide) rfl ?_
  refine am_e_istore_n dd_67_6 (Nat.le_of_ble_eq_true rfl) rfl rfl ?_
  refine am_e_aload_n dd_67_7 rfl rfl ?_
  refine am_e_gf (ci := 3) (j := 26) (v := am_R (some (21, 26, 0))) dd_67_8 (by decide +kernel) rfl rfl rfl ?_
  refine am_e_iload_n dd_67_11 rfl rfl ?_
  refine am_a_iald dd_67_12 rfl hx_j2 hl_j2 (by decide) rfl ?_
  refine am_e_istore_n dd_67_13 (Nat.le_of_ble_eq_true rfl) rfl rfl ?_
  refine am_e_iload_n dd_67_14 rfl rfl ?_
  refine am_e_aload_n dd_67_15 rfl rfl ?_
  refine am_e_gf (ci := 3) (j := 1) (v := am_I (M (20, 0, 0) 1)) dd_67_16 (by decide +kernel) rfl rfl rfl ?_
  exact am_a_icmp_ne (tgt := 82) (pc' := 22) dd_67_19 rfl rfl k1 k2

theorem sg_67_22 {sh : am_Sh} {C : Nat → am_M → List am_V → am_O → Prop} {P : am_S ⊕ am_O → Prop} {M : am_M} {x1 : Int32} {x2 : Int32} {x3 : Int32} {u4 : Option am_V}  (k : am_ev sh C 67 (35, [some (am_R (some (20, 0, 0))), some (am_I x1), some (am_I x2), some (am_I x3), some (am_I 0)], [], (am_up M (20, 0, 0) 19 ((M (20, 0, 0) 19) + 1)), 0) P) : am_ev sh C 67 (22, [some (am_R (some (20, 0, 0))), some (am_I x1), some (am_I x2), some (am_I x3), u4], [], M, 0) P := by
  refine am_e_aload_n dd_67_22 rfl rfl ?_
  refine am_e_dup dd_67_23 rfl rfl ?_
  refine am_e_gf (ci := 3) (j := 19) (v := am_I (M (20, 0, 0) 19)) dd_67_24 (by decide +kernel) rfl rfl rfl ?_
  refine am_e_iconst (v := 1) dd_67_27 rfl rfl ?_
  refine am_e_iadd dd_67_28 rfl ?_
  refine am_e_pf (ci := 3) (j := 19) dd_67_29 (by decide +kernel) rfl rfl (Or.inl rfl) rfl ?_
  refine am_e_iconst (v := 0) dd_67_32 rfl rfl ?_
  refine am_e_istore dd_67_33 (Nat.le_of_ble_eq_true rfl) rfl rfl ?_
  exact k

theorem sg_67_35 {sh : am_Sh} {C : Nat → am_M → List am_V → am_O → Prop} {P : am_S ⊕ am_O → Prop} {M : am_M} {x1 : Int32} {x2 : Int32} {x3 : Int32} {x4 : Int32}  (k1 : 4 ≤ x4 → am_ev sh C 67 (69, [some (am_R (some (20, 0, 0))), some (am_I x1), some (am_I x2), some (am_I x3), some (am_I x4)], [], M, 0) P) (k2 : ¬ 4 ≤ x4 → am_ev sh C 67 (41, [some (am_R (some (20, 0, 0))), some (am_I x1), some (am_I x2), some (am_I x3), some (am_I x4)], [], M, 0) P) : am_ev sh C 67 (35, [some (am_R (some (20, 0, 0))), some (am_I x1), some (am_I x2), some (am_I x3), some (am_I x4)], [], M, 0) P := by
  refine am_e_iload dd_67_35 rfl rfl ?_
  refine am_e_iconst (v := 4) dd_67_37 rfl rfl ?_
  exact am_a_icmp_ge (tgt := 69) (pc' := 41) dd_67_38 rfl rfl k1 k2

theorem sg_67_41 {sh : am_Sh} {C : Nat → am_M → List am_V → am_O → Prop} {P : am_S ⊕ am_O → Prop} {M : am_M} {x1 : Int32} {x2 : Int32} {x3 : Int32} {x4 : Int32} {j1 : Nat} {j2 : Nat} (hx_j1 : (4 * x3) + x4 = nI j1) (hl_j1 : j1 < 1024) (hx_j2 : (4 * x2) + x4 = nI j2) (hl_j2 : j2 < 20) (k : am_ev sh C 67 (35, [some (am_R (some (20, 0, 0))), some (am_I x1), some (am_I x2), some (am_I x3), some (am_I (x4 + 1))], [], (am_up M (21, 21, 0) j2 (M (21, 18, 0) j1)), 0) P) : am_ev sh C 67 (41, [some (am_R (some (20, 0, 0))), some (am_I x1), some (am_I x2), some (am_I x3), some (am_I x4)], [], M, 0) P := by
  refine am_e_aload_n dd_67_41 rfl rfl ?_
  refine am_e_gf (ci := 3) (j := 21) (v := am_R (some (21, 21, 0))) dd_67_42 (by decide +kernel) rfl rfl rfl ?_
  refine am_e_iconst (v := 4) dd_67_45 rfl rfl ?_
  refine am_e_iload_n dd_67_46 rfl rfl ?_
  refine am_e_imul dd_67_47 rfl ?_
  refine am_e_iload dd_67_48 rfl rfl ?_
  refine am_e_iadd dd_67_50 rfl ?_
  refine am_e_aload_n dd_67_51 rfl rfl ?_
  refine am_e_gf (ci := 3) (j := 18) (v := am_R (some (21, 18, 0))) dd_67_52 (by decide +kernel) rfl rfl rfl ?_
  refine am_e_iconst (v := 4) dd_67_55 rfl rfl ?_
  refine am_e_iload_n dd_67_56 rfl rfl ?_
  refine am_e_imul dd_67_57 rfl ?_
  refine am_e_iload dd_67_58 rfl rfl ?_
  refine am_e_iadd dd_67_60 rfl ?_
  refine am_a_iald dd_67_61 rfl hx_j1 hl_j1 (by decide) rfl ?_
  refine am_a_iast dd_67_62 rfl hx_j2 hl_j2 (by decide) rfl ?_
  refine am_e_iinc (v := x4 + 1) dd_67_63 rfl rfl rfl rfl ?_
  refine am_e_goto (pc' := 35) dd_67_66 rfl ?_
  exact k

theorem sg_67_69 {sh : am_Sh} {C : Nat → am_M → List am_V → am_O → Prop} {P : am_S ⊕ am_O → Prop} {M : am_M} {x1 : Int32} {x2 : Int32} {x3 : Int32} {x4 : Int32}  (k : am_ev sh C 67 (220, [some (am_R (some (20, 0, 0))), some (am_I x1), some (am_I x2), some (am_I x3), some (am_I x4)], [], (am_up M (20, 0, 0) 23 ((M (20, 0, 0) 23) - 1)), 0) P) : am_ev sh C 67 (69, [some (am_R (some (20, 0, 0))), some (am_I x1), some (am_I x2), some (am_I x3), some (am_I x4)], [], M, 0) P := by
  refine am_e_aload_n dd_67_69 rfl rfl ?_
  refine am_e_dup dd_67_70 rfl rfl ?_
  refine am_e_gf (ci := 3) (j := 23) (v := am_I (M (20, 0, 0) 23)) dd_67_71 (by decide +kernel) rfl rfl rfl ?_
  refine am_e_iconst (v := 1) dd_67_74 rfl rfl ?_
  refine am_e_isub dd_67_75 rfl ?_
  refine am_e_pf (ci := 3) (j := 23) dd_67_76 (by decide +kernel) rfl rfl (Or.inl rfl) rfl ?_
  refine am_e_goto (pc' := 220) dd_67_79 rfl ?_
  exact k

theorem sg_67_82 {sh : am_Sh} {C : Nat → am_M → List am_V → am_O → Prop} {P : am_S ⊕ am_O → Prop} {M : am_M} {x1 : Int32} {x2 : Int32} {x3 : Int32} {u4 : Option am_V} {j1 : Nat} (hx_j1 : x1 = nI j1) (hl_j1 : j1 < 64) (k1 : ¬ (M (21, 29, 0) j1) = 0 → am_ev sh C 67 (162, [some (am_R (some (20, 0, 0))), some (am_I x1), some (am_I x2), some (am_I x3), u4], [], M, 0) P) (k2 : (M (21, 29, 0) j1) = 0 → am_ev sh C 67 (91, [some (am_R (some (20, 0, 0))), some (am_I x1), some (am_I x2), some (am_I x3), u4], [], M, 0) P) : am_ev sh C 67 (82, [some (am_R (some (20, 0, 0))), some (am_I x1), some (am_I x2), some (am_I x3), u4], [], M, 0) P := by
  refine am_e_aload_n dd_67_82 rfl rfl ?_
  refine am_e_gf (ci := 3) (j := 29) (v := am_R (some (21, 29, 0))) dd_67_83 (by decide +kernel) rfl rfl rfl ?_
  refine am_e_iload_n dd_67_86 rfl rfl ?_
  refine am_a_iald dd_67_87 rfl hx_j1 hl_j1 (by decide) rfl ?_
  exact am_a_if_ne (tgt := 162) (pc' := 91) dd_67_88 rfl rfl k1 k2

theorem sg_67_91 {sh : am_Sh} {C : Nat → am_M → List am_V → am_O → Prop} {P : am_S ⊕ am_O → Prop} {M : am_M} {x1 : Int32} {x2 : Int32} {x3 : Int32} {u4 : Option am_V} {M1 : am_M} {r1 : Int32} (hc1 : C 68 M [am_R (some (20, 0, 0)), am_I x2, am_I x3] (M1, Sum.inl (some (am_I r1)))) (k1 : r1 < 0 → am_ev sh C 67 (116, [some (am_R (some (20, 0, 0))), some (am_I x1), some (am_I x2), some (am_I x3), some (am_I r1)], [am_I (6 * x2), am_R (some (21, 8, 0))], M1, 0) P) (k2 : ¬ r1 < 0 → am_ev sh C 67 (112, [some (am_R (some (20, 0, 0))), some (am_I x1), some (am_I x2), some (am_I x3), some (am_I r1)], [am_I (6 * x2), am_R (some (21, 8, 0))], M1, 0) P) : am_ev sh C 67 (91, [some (am_R (some (20, 0, 0))), some (am_I x1), some (am_I x2), some (am_I x3), u4], [], M, 0) P := by
  refine am_e_aload_n dd_67_91 rfl rfl ?_
  refine am_e_iload_n dd_67_92 rfl rfl ?_
  refine am_e_iload_n dd_67_93 rfl rfl ?_
  refine am_e_callV (c := 68) (k := 3) (as := [am_R (some (20, 0, 0)), am_I x2, am_I x3]) (S' := [am_I r1]) (v := some (am_I r1)) (M' := M1) (n' := 0) dd_67_94 (by decide +kernel) ⟨Nat.le_of_ble_eq_true rfl, Nat.le_of_ble_eq_true rfl, by decide +kernel, (Or.inr (am_rcv_of rfl))⟩ rfl rfl (by decide +kernel) hc1 rfl ?_
  refine am_e_istore dd_67_97 (Nat.le_of_ble_eq_true rfl) rfl rfl ?_
  refine am_e_aload_n dd_67_99 rfl rfl ?_
  refine am_e_gf (ci := 3) (j := 8) (v := am_R (some (21, 8, 0))) dd_67_100 (by decide +kernel) rfl rfl rfl ?_
  refine am_e_bipush (v := 6) dd_67_103 (by decide) rfl ?_
  refine am_e_iload_n dd_67_105 rfl rfl ?_
  refine am_e_imul dd_67_106 rfl ?_
  refine am_e_iload dd_67_107 rfl rfl ?_
  exact am_a_if_lt (tgt := 116) (pc' := 112) dd_67_109 rfl rfl k1 k2

theorem sg_67_112 {sh : am_Sh} {C : Nat → am_M → List am_V → am_O → Prop} {P : am_S ⊕ am_O → Prop} {M : am_M} {x1 : Int32} {x2 : Int32} {x3 : Int32} {x4 : Int32} {os0 : Option am_K} {xs1 : Int32}  (k : am_ev sh C 67 (117, [some (am_R (some (20, 0, 0))), some (am_I x1), some (am_I x2), some (am_I x3), some (am_I x4)], [am_I 0, am_I xs1, am_R os0], M, 0) P) : am_ev sh C 67 (112, [some (am_R (some (20, 0, 0))), some (am_I x1), some (am_I x2), some (am_I x3), some (am_I x4)], [am_I xs1, am_R os0], M, 0) P := by
  refine am_e_iconst (v := 0) dd_67_112 rfl rfl ?_
  refine am_e_goto (pc' := 117) dd_67_113 rfl ?_
  exact k

theorem sg_67_116 {sh : am_Sh} {C : Nat → am_M → List am_V → am_O → Prop} {P : am_S ⊕ am_O → Prop} {M : am_M} {x1 : Int32} {x2 : Int32} {x3 : Int32} {x4 : Int32} {os0 : Option am_K} {xs1 : Int32}  (k : am_ev sh C 67 (117, [some (am_R (some (20, 0, 0))), some (am_I x1), some (am_I x2), some (am_I x3), some (am_I x4)], [am_I 1, am_I xs1, am_R os0], M, 0) P) : am_ev sh C 67 (116, [some (am_R (some (20, 0, 0))), some (am_I x1), some (am_I x2), some (am_I x3), some (am_I x4)], [am_I xs1, am_R os0], M, 0) P := by
  refine am_e_iconst (v := 1) dd_67_116 rfl rfl ?_
  exact k

theorem sg_67_117 {sh : am_Sh} {C : Nat → am_M → List am_V → am_O → Prop} {P : am_S ⊕ am_O → Prop} {M : am_M} {x1 : Int32} {x2 : Int32} {x3 : Int32} {x4 : Int32} {ks0 : am_K} {Ns0 : Nat} {xs1 : Int32} {xs2 : Int32} {j1 : Nat} (hz_ks0 : Ns0 < 2147483648) (hx_j1 : xs1 + xs2 = nI j1) (hl_j1 : j1 < Ns0) (hk_ks0 : am_ct sh ks0 = some (Sum.inr (0, Ns0))) (k1 : 0 ≤ x4 → am_ev sh C 67 (136, [some (am_R (some (20, 0, 0))), some (am_I x1), some (am_I x2), some (am_I x3), some (am_I x4)], [], (am_up M ks0 j1 ((M ks0 j1) + 1)), 0) P) (k2 : ¬ 0 ≤ x4 → am_ev sh C 67 (128, [some (am_R (some (20, 0, 0))), some (am_I x1), some (am_I x2), some (am_I x3), some (am_I x4)], [], (am_up M ks0 j1 ((M ks0 j1) + 1)), 0) P) : am_ev sh C 67 (117, [some (am_R (some (20, 0, 0))), some (am_I x1), some (am_I x2), some (am_I x3), some (am_I x4)], [am_I xs2, am_I xs1, am_R (some ks0)], M, 0) P := by
  refine am_e_iadd dd_67_117 rfl ?_
  refine am_e_dup2 dd_67_118 rfl rfl rfl ?_
  refine am_a_iald dd_67_119 hk_ks0 hx_j1 hl_j1 hz_ks0 rfl ?_
  refine am_e_iconst (v := 1) dd_67_120 rfl rfl ?_
  refine am_e_iadd dd_67_121 rfl ?_
  refine am_a_iast dd_67_122 hk_ks0 hx_j1 hl_j1 hz_ks0 rfl ?_
  refine am_e_iload dd_67_123 rfl rfl ?_
  exact am_a_if_ge (tgt := 136) (pc' := 128) dd_67_125 rfl rfl k1 k2

theorem sg_67_128 {sh : am_Sh} {C : Nat → am_M → List am_V → am_O → Prop} {P : am_S ⊕ am_O → Prop} {M : am_M} {x1 : Int32} {x2 : Int32} {x3 : Int32} {x4 : Int32} {M1 : am_M} (hc1 : C 70 M [am_R (some (20, 0, 0)), am_I x1] (M1, Sum.inl none)) (k : am_ev sh C 67 (159, [some (am_R (some (20, 0, 0))), some (am_I x1), some (am_I x2), some (am_I x3), some (am_I x4)], [], M1, 0) P) : am_ev sh C 67 (128, [some (am_R (some (20, 0, 0))), some (am_I x1), some (am_I x2), some (am_I x3), some (am_I x4)], [], M, 0) P := by
  refine am_e_aload_n dd_67_128 rfl rfl ?_
  refine am_e_iload_n dd_67_129 rfl rfl ?_
  refine am_e_callV (c := 70) (k := 2) (as := [am_R (some (20, 0, 0)), am_I x1]) (S' := []) (v := none) (M' := M1) (n' := 0) dd_67_130 (by decide +kernel) ⟨Nat.le_of_ble_eq_true rfl, Nat.le_of_ble_eq_true rfl, by decide +kernel, (Or.inr (am_rcv_of rfl))⟩ rfl rfl (by decide +kernel) hc1 rfl ?_
  refine am_e_goto (pc' := 159) dd_67_133 rfl ?_
  exact k

theorem sg_67_136 {sh : am_Sh} {C : Nat → am_M → List am_V → am_O → Prop} {P : am_S ⊕ am_O → Prop} {M : am_M} {x1 : Int32} {x2 : Int32} {x3 : Int32} {x4 : Int32} {M1 : am_M} {M2 : am_M} (hc1 : C 75 M [am_R (some (20, 0, 0)), am_I x4] (M1, Sum.inl none)) (hc2 : C 76 M1 [am_R (some (20, 0, 0)), am_I x2, am_I x4] (M2, Sum.inl none)) (k : am_ev sh C 67 (159, [some (am_R (some (20, 0, 0))), some (am_I x1), some (am_I x2), some (am_I x3), some (am_I x4)], [], (am_up M2 (20, 0, 0) 23 ((M2 (20, 0, 0) 23) - 1)), 0) P) : am_ev sh C 67 (136, [some (am_R (some (20, 0, 0))), some (am_I x1), some (am_I x2), some (am_I x3), some (am_I x4)], [], M, 0) P := by
  refine am_e_aload_n dd_67_136 rfl rfl ?_
  refine am_e_iload dd_67_137 rfl rfl ?_
  refine am_e_callV (c := 75) (k := 2) (as := [am_R (some (20, 0, 0)), am_I x4]) (S' := []) (v := none) (M' := M1) (n' := 0) dd_67_139 (by decide +kernel) ⟨Nat.le_of_ble_eq_true rfl, Nat.le_of_ble_eq_true rfl, by decide +kernel, (Or.inr (am_rcv_of rfl))⟩ rfl rfl (by decide +kernel) hc1 rfl ?_
  refine am_e_aload_n dd_67_142 rfl rfl ?_
  refine am_e_iload_n dd_67_143 rfl rfl ?_
  refine am_e_iload dd_67_144 rfl rfl ?_
  refine am_e_callV (c := 76) (k := 3) (as := [am_R (some (20, 0, 0)), am_I x2, am_I x4]) (S' := []) (v := none) (M' := M2) (n' := 0) dd_67_146 (by decide +kernel) ⟨Nat.le_of_ble_eq_true rfl, Nat.le_of_ble_eq_true rfl, by decide +kernel, (Or.inr (am_rcv_of rfl))⟩ rfl rfl (by decide +kernel) hc2 rfl ?_
  refine am_e_aload_n dd_67_149 rfl rfl ?_
  refine am_e_dup dd_67_150 rfl rfl ?_
  refine am_e_gf (ci := 3) (j := 23) (v := am_I (M2 (20, 0, 0) 23)) dd_67_151 (by decide +kernel) rfl rfl rfl ?_
  refine am_e_iconst (v := 1) dd_67_154 rfl rfl ?_
  refine am_e_isub dd_67_155 rfl ?_
  refine am_e_pf (ci := 3) (j := 23) dd_67_156 (by decide +kernel) rfl rfl (Or.inl rfl) rfl ?_
  exact k

theorem sg_67_159 {sh : am_Sh} {C : Nat → am_M → List am_V → am_O → Prop} {P : am_S ⊕ am_O → Prop} {M : am_M} {x1 : Int32} {x2 : Int32} {x3 : Int32} {x4 : Int32}  (k : am_ev sh C 67 (220, [some (am_R (some (20, 0, 0))), some (am_I x1), some (am_I x2), some (am_I x3), some (am_I x4)], [], M, 0) P) : am_ev sh C 67 (159, [some (am_R (some (20, 0, 0))), some (am_I x1), some (am_I x2), some (am_I x3), some (am_I x4)], [], M, 0) P := by
  refine am_e_goto (pc' := 220) dd_67_159 rfl ?_
  exact k

theorem sg_67_162 {sh : am_Sh} {C : Nat → am_M → List am_V → am_O → Prop} {P : am_S ⊕ am_O → Prop} {M : am_M} {x1 : Int32} {x2 : Int32} {x3 : Int32} {u4 : Option am_V} {j1 : Nat} (hx_j1 : x1 = nI j1) (hl_j1 : j1 < 64) (k1 : ¬ (M (21, 29, 0) j1) = 1 → am_ev sh C 67 (193, [some (am_R (some (20, 0, 0))), some (am_I x1), some (am_I x2), some (am_I x3), u4], [], M, 0) P) (k2 : (M (21, 29, 0) j1) = 1 → am_ev sh C 67 (172, [some (am_R (some (20, 0, 0))), some (am_I x1), some (am_I x2), some (am_I x3), u4], [], M, 0) P) : am_ev sh C 67 (162, [some (am_R (some (20, 0, 0))), some (am_I x1), some (am_I x2), some (am_I x3), u4], [], M, 0) P := by
  refine am_e_aload_n dd_67_162 rfl rfl ?_
  refine am_e_gf (ci := 3) (j := 29) (v := am_R (some (21, 29, 0))) dd_67_163 (by decide +kernel) rfl rfl rfl ?_
  refine am_e_iload_n dd_67_166 rfl rfl ?_
  refine am_a_iald dd_67_167 rfl hx_j1 hl_j1 (by decide) rfl ?_
  refine am_e_iconst (v := 1) dd_67_168 rfl rfl ?_
  exact am_a_icmp_ne (tgt := 193) (pc' := 172) dd_67_169 rfl rfl k1 k2

theorem sg_67_172 {sh : am_Sh} {C : Nat → am_M → List am_V → am_O → Prop} {P : am_S ⊕ am_O → Prop} {M : am_M} {x1 : Int32} {x2 : Int32} {x3 : Int32} {u4 : Option am_V} {j1 : Nat} {M1 : am_M} (hx_j1 : x1 = nI j1) (hl_j1 : j1 < 64) (hc1 : C 65 (am_up M (21, 29, 0) j1 2) [am_R (some (20, 0, 0)), am_I 0, am_I (x2 + 1), am_I x3, am_I 0, am_I 0] (M1, Sum.inl none)) (k : am_ev sh C 67 (220, [some (am_R (some (20, 0, 0))), some (am_I x1), some (am_I x2), some (am_I x3), u4], [], M1, 0) P) : am_ev sh C 67 (172, [some (am_R (some (20, 0, 0))), some (am_I x1), some (am_I x2), some (am_I x3), u4], [], M, 0) P := by
  refine am_e_aload_n dd_67_172 rfl rfl ?_
  refine am_e_gf (ci := 3) (j := 29) (v := am_R (some (21, 29, 0))) dd_67_173 (by decide +kernel) rfl rfl rfl ?_
  refine am_e_iload_n dd_67_176 rfl rfl ?_
  refine am_e_iconst (v := 2) dd_67_177 rfl rfl ?_
  refine am_a_iast dd_67_178 rfl hx_j1 hl_j1 (by decide) rfl ?_
  refine am_e_aload_n dd_67_179 rfl rfl ?_
  refine am_e_iconst (v := 0) dd_67_180 rfl rfl ?_
  refine am_e_iload_n dd_67_181 rfl rfl ?_
  refine am_e_iconst (v := 1) dd_67_182 rfl rfl ?_
  refine am_e_iadd dd_67_183 rfl ?_
  refine am_e_iload_n dd_67_184 rfl rfl ?_
  refine am_e_iconst (v := 0) dd_67_185 rfl rfl ?_
  refine am_e_iconst (v := 0) dd_67_186 rfl rfl ?_
  refine am_e_callV (c := 65) (k := 6) (as := [am_R (some (20, 0, 0)), am_I 0, am_I (x2 + 1), am_I x3, am_I 0, am_I 0]) (S' := []) (v := none) (M' := M1) (n' := 0) dd_67_187 (by decide +kernel) ⟨Nat.le_of_ble_eq_true rfl, Nat.le_of_ble_eq_true rfl, by decide +kernel, (Or.inr (am_rcv_of rfl))⟩ rfl rfl (by decide +kernel) hc1 rfl ?_
  refine am_e_goto (pc' := 220) dd_67_190 rfl ?_
  exact k

theorem sg_67_193 {sh : am_Sh} {C : Nat → am_M → List am_V → am_O → Prop} {P : am_S ⊕ am_O → Prop} {M : am_M} {x1 : Int32} {x2 : Int32} {x3 : Int32} {u4 : Option am_V} {M1 : am_M} {j1 : Nat} {M2 : am_M} (hc1 : C 77 M [am_R (some (20, 0, 0)), am_I x1, am_I 1] (M1, Sum.inl none)) (hx_j1 : x1 = nI j1) (hl_j1 : j1 < 64) (hc2 : C 76 M1 [am_R (some (20, 0, 0)), am_I x2, am_I (M1 (21, 28, 0) j1)] (M2, Sum.inl none)) (k : am_ev sh C 67 (220, [some (am_R (some (20, 0, 0))), some (am_I x1), some (am_I x2), some (am_I x3), u4], [], (am_up M2 (20, 0, 0) 23 ((M2 (20, 0, 0) 23) - 1)), 0) P) : am_ev sh C 67 (193, [some (am_R (some (20, 0, 0))), some (am_I x1), some (am_I x2), some (am_I x3), u4], [], M, 0) P := by
  refine am_e_aload_n dd_67_193 rfl rfl ?_
  refine am_e_iload_n dd_67_194 rfl rfl ?_
  refine am_e_iconst (v := 1) dd_67_195 rfl rfl ?_
  refine am_e_callV (c := 77) (k := 3) (as := [am_R (some (20, 0, 0)), am_I x1, am_I 1]) (S' := []) (v := none) (M' := M1) (n' := 0) dd_67_196 (by decide +kernel) ⟨Nat.le_of_ble_eq_true rfl, Nat.le_of_ble_eq_true rfl, by decide +kernel, (Or.inr (am_rcv_of rfl))⟩ rfl rfl (by decide +kernel) hc1 rfl ?_
  refine am_e_aload_n dd_67_199 rfl rfl ?_
  refine am_e_iload_n dd_67_200 rfl rfl ?_
  refine am_e_aload_n dd_67_201 rfl rfl ?_
  refine am_e_gf (ci := 3) (j := 28) (v := am_R (some (21, 28, 0))) dd_67_202 (by decide +kernel) rfl rfl rfl ?_
  refine am_e_iload_n dd_67_205 rfl rfl ?_
  refine am_a_iald dd_67_206 rfl hx_j1 hl_j1 (by decide) rfl ?_
  refine am_e_callV (c := 76) (k := 3) (as := [am_R (some (20, 0, 0)), am_I x2, am_I (M1 (21, 28, 0) j1)]) (S' := []) (v := none) (M' := M2) (n' := 0) dd_67_207 (by decide +kernel) ⟨Nat.le_of_ble_eq_true rfl, Nat.le_of_ble_eq_true rfl, by decide +kernel, (Or.inr (am_rcv_of rfl))⟩ rfl rfl (by decide +kernel) hc2 rfl ?_
  refine am_e_aload_n dd_67_210 rfl rfl ?_
  refine am_e_dup dd_67_211 rfl rfl ?_
  refine am_e_gf (ci := 3) (j := 23) (v := am_I (M2 (20, 0, 0) 23)) dd_67_212 (by decide +kernel) rfl rfl rfl ?_
  refine am_e_iconst (v := 1) dd_67_215 rfl rfl ?_
  refine am_e_isub dd_67_216 rfl ?_
  refine am_e_pf (ci := 3) (j := 23) dd_67_217 (by decide +kernel) rfl rfl (Or.inl rfl) rfl ?_
  exact k

theorem sg_67_220 {sh : am_Sh} {C : Nat → am_M → List am_V → am_O → Prop} {P : am_S ⊕ am_O → Prop} {M : am_M} {x1 : Int32} {x2 : Int32} {x3 : Int32} {u4 : Option am_V}  (k : P (Sum.inr (M, Sum.inl none))) : am_ev sh C 67 (220, [some (am_R (some (20, 0, 0))), some (am_I x1), some (am_I x2), some (am_I x3), u4], [], M, 0) P := by
  exact am_e_vret dd_67_220 (by decide +kernel) rfl k

-- 68: CacheLadderModel.find(II)I
theorem dd_68_0 : decode (am_b 68) 0 = .ok (.aload_n 0, 1) := by decide +kernel
theorem dd_68_1 : decode (am_b 68) 1 = .ok (.iload_n 1, 1) := by decide +kernel
theorem dd_68_2 : decode (am_b 68) 2 = .ok (.iload_n 2, 1) := by decide +kernel
theorem dd_68_3 : decode (am_b 68) 3 = .ok (.aload_n 0, 1) := by decide +kernel
theorem dd_68_4 : decode (am_b 68) 4 = .ok (.getfield 7, 3) := by decide +kernel
theorem dd_68_7 : decode (am_b 68) 7 = .ok (.iload_n 1, 1) := by decide +kernel
theorem dd_68_8 : decode (am_b 68) 8 = .ok (.iaload, 1) := by decide +kernel
theorem dd_68_9 : decode (am_b 68) 9 = .ok (.irem, 1) := by decide +kernel
theorem dd_68_10 : decode (am_b 68) 10 = .ok (.invokevirtual 87, 3) := by decide +kernel
theorem dd_68_13 : decode (am_b 68) 13 = .ok (.istore_n 3, 1) := by decide +kernel
theorem dd_68_14 : decode (am_b 68) 14 = .ok (.iconst (-1), 1) := by decide +kernel
theorem dd_68_15 : decode (am_b 68) 15 = .ok (.istore 4, 2) := by decide +kernel
theorem dd_68_17 : decode (am_b 68) 17 = .ok (.iconst 0, 1) := by decide +kernel
theorem dd_68_18 : decode (am_b 68) 18 = .ok (.istore 5, 2) := by decide +kernel
theorem dd_68_20 : decode (am_b 68) 20 = .ok (.iload 5, 2) := by decide +kernel
theorem dd_68_22 : decode (am_b 68) 22 = .ok (.aload_n 0, 1) := by decide +kernel
theorem dd_68_23 : decode (am_b 68) 23 = .ok (.getfield 13, 3) := by decide +kernel
theorem dd_68_26 : decode (am_b 68) 26 = .ok (.iload_n 1, 1) := by decide +kernel
theorem dd_68_27 : decode (am_b 68) 27 = .ok (.iaload, 1) := by decide +kernel
theorem dd_68_28 : decode (am_b 68) 28 = .ok (.if_icmp .ge 33, 3) := by decide +kernel
theorem dd_68_31 : decode (am_b 68) 31 = .ok (.aload_n 0, 1) := by decide +kernel
theorem dd_68_32 : decode (am_b 68) 32 = .ok (.getfield 32, 3) := by decide +kernel
theorem dd_68_35 : decode (am_b 68) 35 = .ok (.iload_n 3, 1) := by decide +kernel
theorem dd_68_36 : decode (am_b 68) 36 = .ok (.iload 5, 2) := by decide +kernel
theorem dd_68_38 : decode (am_b 68) 38 = .ok (.iadd, 1) := by decide +kernel
theorem dd_68_39 : decode (am_b 68) 39 = .ok (.iaload, 1) := by decide +kernel
theorem dd_68_40 : decode (am_b 68) 40 = .ok (.iload_n 2, 1) := by decide +kernel
theorem dd_68_41 : decode (am_b 68) 41 = .ok (.if_icmp .ne 10, 3) := by decide +kernel
theorem dd_68_44 : decode (am_b 68) 44 = .ok (.iload_n 3, 1) := by decide +kernel
theorem dd_68_45 : decode (am_b 68) 45 = .ok (.iload 5, 2) := by decide +kernel
theorem dd_68_47 : decode (am_b 68) 47 = .ok (.iadd, 1) := by decide +kernel
theorem dd_68_48 : decode (am_b 68) 48 = .ok (.goto 5, 3) := by decide +kernel
theorem dd_68_51 : decode (am_b 68) 51 = .ok (.iload 4, 2) := by decide +kernel
theorem dd_68_53 : decode (am_b 68) 53 = .ok (.istore 4, 2) := by decide +kernel
theorem dd_68_55 : decode (am_b 68) 55 = .ok (.iinc 5 1, 3) := by decide +kernel
theorem dd_68_58 : decode (am_b 68) 58 = .ok (.goto (-38), 3) := by decide +kernel
theorem dd_68_61 : decode (am_b 68) 61 = .ok (.iload 4, 2) := by decide +kernel
theorem dd_68_63 : decode (am_b 68) 63 = .ok (.ireturn, 1) := by decide +kernel
theorem sg_68_0 {sh : am_Sh} {C : Nat → am_M → List am_V → am_O → Prop} {P : am_S ⊕ am_O → Prop} {M : am_M} {x1 : Int32} {x2 : Int32} {u3 : Option am_V} {u4 : Option am_V} {u5 : Option am_V} {j1 : Nat} {M1 : am_M} {r1 : Int32} (hx_j1 : x1 = nI j1) (hl_j1 : j1 < 4) (hd1 : ¬ M (21, 3, 0) j1 = 0) (hc1 : C 69 M [am_R (some (20, 0, 0)), am_I x1, am_I (x2 - x2 / (M (21, 3, 0) j1) * (M (21, 3, 0) j1))] (M1, Sum.inl (some (am_I r1)))) (k : am_ev sh C 68 (20, [some (am_R (some (20, 0, 0))), some (am_I x1), some (am_I x2), some (am_I r1), some (am_I (-1)), some (am_I 0)], [], M1, 0) P) : am_ev sh C 68 (0, [some (am_R (some (20, 0, 0))), some (am_I x1), some (am_I x2), u3, u4, u5], [], M, 0) P := by
  refine am_e_aload_n dd_68_0 rfl rfl ?_
  refine am_e_iload_n dd_68_1 rfl rfl ?_
  refine am_e_iload_n dd_68_2 rfl rfl ?_
  refine am_e_aload_n dd_68_3 rfl rfl ?_
  refine am_e_gf (ci := 3) (j := 3) (v := am_R (some (21, 3, 0))) dd_68_4 (by decide +kernel) rfl rfl rfl ?_
  refine am_e_iload_n dd_68_7 rfl rfl ?_
  refine am_a_iald dd_68_8 rfl hx_j1 hl_j1 (by decide) rfl ?_
  refine am_e_irem dd_68_9 hd1 rfl ?_
  refine am_e_callV (c := 69) (k := 3) (as := [am_R (some (20, 0, 0)), am_I x1, am_I (x2 - x2 / (M (21, 3, 0) j1) * (M (21, 3, 0) j1))]) (S' := [am_I r1]) (v := some (am_I r1)) (M' := M1) (n' := 0) dd_68_10 (by decide +kernel) ⟨Nat.le_of_ble_eq_true rfl, Nat.le_of_ble_eq_true rfl, by decide +kernel, (Or.inr (am_rcv_of rfl))⟩ rfl rfl (by decide +kernel) hc1 rfl ?_
  refine am_e_istore_n dd_68_13 (Nat.le_of_ble_eq_true rfl) rfl rfl ?_
  refine am_e_iconst (v := (-1)) dd_68_14 rfl rfl ?_
  refine am_e_istore dd_68_15 (Nat.le_of_ble_eq_true rfl) rfl rfl ?_
  refine am_e_iconst (v := 0) dd_68_17 rfl rfl ?_
  refine am_e_istore dd_68_18 (Nat.le_of_ble_eq_true rfl) rfl rfl ?_
  exact k

theorem sg_68_20 {sh : am_Sh} {C : Nat → am_M → List am_V → am_O → Prop} {P : am_S ⊕ am_O → Prop} {M : am_M} {x1 : Int32} {x2 : Int32} {x3 : Int32} {x4 : Int32} {x5 : Int32} {j1 : Nat} (hx_j1 : x1 = nI j1) (hl_j1 : j1 < 4) (k1 : (M (21, 4, 0) j1) ≤ x5 → am_ev sh C 68 (61, [some (am_R (some (20, 0, 0))), some (am_I x1), some (am_I x2), some (am_I x3), some (am_I x4), some (am_I x5)], [], M, 0) P) (k2 : ¬ (M (21, 4, 0) j1) ≤ x5 → am_ev sh C 68 (31, [some (am_R (some (20, 0, 0))), some (am_I x1), some (am_I x2), some (am_I x3), some (am_I x4), some (am_I x5)], [], M, 0) P) : am_ev sh C 68 (20, [some (am_R (some (20, 0, 0))), some (am_I x1), some (am_I x2), some (am_I x3), some (am_I x4), some (am_I x5)], [], M, 0) P := by
  refine am_e_iload dd_68_20 rfl rfl ?_
  refine am_e_aload_n dd_68_22 rfl rfl ?_
  refine am_e_gf (ci := 3) (j := 4) (v := am_R (some (21, 4, 0))) dd_68_23 (by decide +kernel) rfl rfl rfl ?_
  refine am_e_iload_n dd_68_26 rfl rfl ?_
  refine am_a_iald dd_68_27 rfl hx_j1 hl_j1 (by decide) rfl ?_
  exact am_a_icmp_ge (tgt := 61) (pc' := 31) dd_68_28 rfl rfl k1 k2

theorem sg_68_31 {sh : am_Sh} {C : Nat → am_M → List am_V → am_O → Prop} {P : am_S ⊕ am_O → Prop} {M : am_M} {x1 : Int32} {x2 : Int32} {x3 : Int32} {x4 : Int32} {x5 : Int32} {j1 : Nat} (hx_j1 : x3 + x5 = nI j1) (hl_j1 : j1 < 256) (k1 : ¬ (M (21, 10, 0) j1) = x2 → am_ev sh C 68 (51, [some (am_R (some (20, 0, 0))), some (am_I x1), some (am_I x2), some (am_I x3), some (am_I x4), some (am_I x5)], [], M, 0) P) (k2 : (M (21, 10, 0) j1) = x2 → am_ev sh C 68 (44, [some (am_R (some (20, 0, 0))), some (am_I x1), some (am_I x2), some (am_I x3), some (am_I x4), some (am_I x5)], [], M, 0) P) : am_ev sh C 68 (31, [some (am_R (some (20, 0, 0))), some (am_I x1), some (am_I x2), some (am_I x3), some (am_I x4), some (am_I x5)], [], M, 0) P := by
  refine am_e_aload_n dd_68_31 rfl rfl ?_
  refine am_e_gf (ci := 3) (j := 10) (v := am_R (some (21, 10, 0))) dd_68_32 (by decide +kernel) rfl rfl rfl ?_
  refine am_e_iload_n dd_68_35 rfl rfl ?_
  refine am_e_iload dd_68_36 rfl rfl ?_
  refine am_e_iadd dd_68_38 rfl ?_
  refine am_a_iald dd_68_39 rfl hx_j1 hl_j1 (by decide) rfl ?_
  refine am_e_iload_n dd_68_40 rfl rfl ?_
  exact am_a_icmp_ne (tgt := 51) (pc' := 44) dd_68_41 rfl rfl k1 k2

theorem sg_68_44 {sh : am_Sh} {C : Nat → am_M → List am_V → am_O → Prop} {P : am_S ⊕ am_O → Prop} {M : am_M} {x1 : Int32} {x2 : Int32} {x3 : Int32} {x4 : Int32} {x5 : Int32}  (k : am_ev sh C 68 (53, [some (am_R (some (20, 0, 0))), some (am_I x1), some (am_I x2), some (am_I x3), some (am_I x4), some (am_I x5)], [am_I (x3 + x5)], M, 0) P) : am_ev sh C 68 (44, [some (am_R (some (20, 0, 0))), some (am_I x1), some (am_I x2), some (am_I x3), some (am_I x4), some (am_I x5)], [], M, 0) P := by
  refine am_e_iload_n dd_68_44 rfl rfl ?_
  refine am_e_iload dd_68_45 rfl rfl ?_
  refine am_e_iadd dd_68_47 rfl ?_
  refine am_e_goto (pc' := 53) dd_68_48 rfl ?_
  exact k

theorem sg_68_51 {sh : am_Sh} {C : Nat → am_M → List am_V → am_O → Prop} {P : am_S ⊕ am_O → Prop} {M : am_M} {x1 : Int32} {x2 : Int32} {x3 : Int32} {x4 : Int32} {x5 : Int32}  (k : am_ev sh C 68 (53, [some (am_R (some (20, 0, 0))), some (am_I x1), some (am_I x2), some (am_I x3), some (am_I x4), some (am_I x5)], [am_I x4], M, 0) P) : am_ev sh C 68 (51, [some (am_R (some (20, 0, 0))), some (am_I x1), some (am_I x2), some (am_I x3), some (am_I x4), some (am_I x5)], [], M, 0) P := by
  refine am_e_iload dd_68_51 rfl rfl ?_
  exact k

theorem sg_68_53 {sh : am_Sh} {C : Nat → am_M → List am_V → am_O → Prop} {P : am_S ⊕ am_O → Prop} {M : am_M} {x1 : Int32} {x2 : Int32} {x3 : Int32} {x4 : Int32} {x5 : Int32} {xs0 : Int32}  (k : am_ev sh C 68 (20, [some (am_R (some (20, 0, 0))), some (am_I x1), some (am_I x2), some (am_I x3), some (am_I xs0), some (am_I (x5 + 1))], [], M, 0) P) : am_ev sh C 68 (53, [some (am_R (some (20, 0, 0))), some (am_I x1), some (am_I x2), some (am_I x3), some (am_I x4), some (am_I x5)], [am_I xs0], M, 0) P := by
  refine am_e_istore dd_68_53 (Nat.le_of_ble_eq_true rfl) rfl rfl ?_
  refine am_e_iinc (v := x5 + 1) dd_68_55 rfl rfl rfl rfl ?_
  refine am_e_goto (pc' := 20) dd_68_58 rfl ?_
  exact k

theorem sg_68_61 {sh : am_Sh} {C : Nat → am_M → List am_V → am_O → Prop} {P : am_S ⊕ am_O → Prop} {M : am_M} {x1 : Int32} {x2 : Int32} {x3 : Int32} {x4 : Int32} {x5 : Int32}  (k : P (Sum.inr (M, Sum.inl (some (am_I x4))))) : am_ev sh C 68 (61, [some (am_R (some (20, 0, 0))), some (am_I x1), some (am_I x2), some (am_I x3), some (am_I x4), some (am_I x5)], [], M, 0) P := by
  refine am_e_iload dd_68_61 rfl rfl ?_
  exact am_e_iret dd_68_63 (by decide +kernel) (Or.inl rfl) k

-- 69: CacheLadderModel.firstOf(II)I
theorem dd_69_0 : decode (am_b 69) 0 = .ok (.bipush 64, 2) := by decide +kernel
theorem dd_69_2 : decode (am_b 69) 2 = .ok (.iload_n 1, 1) := by decide +kernel
theorem dd_69_3 : decode (am_b 69) 3 = .ok (.imul, 1) := by decide +kernel
theorem dd_69_4 : decode (am_b 69) 4 = .ok (.iconst 4, 1) := by decide +kernel
theorem dd_69_5 : decode (am_b 69) 5 = .ok (.iload_n 2, 1) := by decide +kernel
theorem dd_69_6 : decode (am_b 69) 6 = .ok (.imul, 1) := by decide +kernel
theorem dd_69_7 : decode (am_b 69) 7 = .ok (.iadd, 1) := by decide +kernel
theorem dd_69_8 : decode (am_b 69) 8 = .ok (.ireturn, 1) := by decide +kernel
theorem sg_69_0 {sh : am_Sh} {C : Nat → am_M → List am_V → am_O → Prop} {P : am_S ⊕ am_O → Prop} {M : am_M} {x1 : Int32} {x2 : Int32}  (k : P (Sum.inr (M, Sum.inl (some (am_I ((64 * x1) + (4 * x2))))))) : am_ev sh C 69 (0, [some (am_R (some (20, 0, 0))), some (am_I x1), some (am_I x2)], [], M, 0) P := by
  refine am_e_bipush (v := 64) dd_69_0 (by decide) rfl ?_
  refine am_e_iload_n dd_69_2 rfl rfl ?_
  refine am_e_imul dd_69_3 rfl ?_
  refine am_e_iconst (v := 4) dd_69_4 rfl rfl ?_
  refine am_e_iload_n dd_69_5 rfl rfl ?_
  refine am_e_imul dd_69_6 rfl ?_
  refine am_e_iadd dd_69_7 rfl ?_
  exact am_e_iret dd_69_8 (by decide +kernel) (Or.inl rfl) k

-- 70: CacheLadderModel.makeRoom(I)V
theorem dd_70_0 : decode (am_b 70) 0 = .ok (.aload_n 0, 1) := by decide +kernel
theorem dd_70_1 : decode (am_b 70) 1 = .ok (.getfield 65, 3) := by decide +kernel
theorem dd_70_4 : decode (am_b 70) 4 = .ok (.iload_n 1, 1) := by decide +kernel
theorem dd_70_5 : decode (am_b 70) 5 = .ok (.iaload, 1) := by decide +kernel
theorem dd_70_6 : decode (am_b 70) 6 = .ok (.istore_n 2, 1) := by decide +kernel
theorem dd_70_7 : decode (am_b 70) 7 = .ok (.aload_n 0, 1) := by decide +kernel
theorem dd_70_8 : decode (am_b 70) 8 = .ok (.getfield 68, 3) := by decide +kernel
theorem dd_70_11 : decode (am_b 70) 11 = .ok (.iload_n 1, 1) := by decide +kernel
theorem dd_70_12 : decode (am_b 70) 12 = .ok (.iaload, 1) := by decide +kernel
theorem dd_70_13 : decode (am_b 70) 13 = .ok (.aload_n 0, 1) := by decide +kernel
theorem dd_70_14 : decode (am_b 70) 14 = .ok (.getfield 7, 3) := by decide +kernel
theorem dd_70_17 : decode (am_b 70) 17 = .ok (.iload_n 2, 1) := by decide +kernel
theorem dd_70_18 : decode (am_b 70) 18 = .ok (.iaload, 1) := by decide +kernel
theorem dd_70_19 : decode (am_b 70) 19 = .ok (.irem, 1) := by decide +kernel
theorem dd_70_20 : decode (am_b 70) 20 = .ok (.istore_n 3, 1) := by decide +kernel
theorem dd_70_21 : decode (am_b 70) 21 = .ok (.aload_n 0, 1) := by decide +kernel
theorem dd_70_22 : decode (am_b 70) 22 = .ok (.getfield 77, 3) := by decide +kernel
theorem dd_70_25 : decode (am_b 70) 25 = .ok (.iload_n 1, 1) := by decide +kernel
theorem dd_70_26 : decode (am_b 70) 26 = .ok (.iconst 1, 1) := by decide +kernel
theorem dd_70_27 : decode (am_b 70) 27 = .ok (.iastore, 1) := by decide +kernel
theorem dd_70_28 : decode (am_b 70) 28 = .ok (.aload_n 0, 1) := by decide +kernel
theorem dd_70_29 : decode (am_b 70) 29 = .ok (.iload_n 2, 1) := by decide +kernel
theorem dd_70_30 : decode (am_b 70) 30 = .ok (.iload_n 3, 1) := by decide +kernel
theorem dd_70_31 : decode (am_b 70) 31 = .ok (.invokevirtual 114, 3) := by decide +kernel
theorem dd_70_34 : decode (am_b 70) 34 = .ok (.istore 4, 2) := by decide +kernel
theorem dd_70_36 : decode (am_b 70) 36 = .ok (.iload 4, 2) := by decide +kernel
theorem dd_70_38 : decode (am_b 70) 38 = .ok (.ifCond .lt 12, 3) := by decide +kernel
theorem dd_70_41 : decode (am_b 70) 41 = .ok (.aload_n 0, 1) := by decide +kernel
theorem dd_70_42 : decode (am_b 70) 42 = .ok (.getfield 74, 3) := by decide +kernel
theorem dd_70_45 : decode (am_b 70) 45 = .ok (.iload_n 1, 1) := by decide +kernel
theorem dd_70_46 : decode (am_b 70) 46 = .ok (.iload 4, 2) := by decide +kernel
theorem dd_70_48 : decode (am_b 70) 48 = .ok (.iastore, 1) := by decide +kernel
theorem dd_70_49 : decode (am_b 70) 49 = .ok (.return_, 1) := by decide +kernel
theorem dd_70_50 : decode (am_b 70) 50 = .ok (.aload_n 0, 1) := by decide +kernel
theorem dd_70_51 : decode (am_b 70) 51 = .ok (.iload_n 2, 1) := by decide +kernel
theorem dd_70_52 : decode (am_b 70) 52 = .ok (.iload_n 3, 1) := by decide +kernel
theorem dd_70_53 : decode (am_b 70) 53 = .ok (.invokevirtual 117, 3) := by decide +kernel
theorem dd_70_56 : decode (am_b 70) 56 = .ok (.istore 4, 2) := by decide +kernel
theorem dd_70_58 : decode (am_b 70) 58 = .ok (.aload_n 0, 1) := by decide +kernel
theorem dd_70_59 : decode (am_b 70) 59 = .ok (.getfield 16, 3) := by decide +kernel
theorem dd_70_62 : decode (am_b 70) 62 = .ok (.iload_n 2, 1) := by decide +kernel
theorem dd_70_63 : decode (am_b 70) 63 = .ok (.iaload, 1) := by decide +kernel
theorem dd_70_64 : decode (am_b 70) 64 = .ok (.iconst 2, 1) := by decide +kernel
theorem dd_70_65 : decode (am_b 70) 65 = .ok (.if_icmp .ne 9, 3) := by decide +kernel
theorem dd_70_68 : decode (am_b 70) 68 = .ok (.aload_n 0, 1) := by decide +kernel
theorem dd_70_69 : decode (am_b 70) 69 = .ok (.iload_n 2, 1) := by decide +kernel
theorem dd_70_70 : decode (am_b 70) 70 = .ok (.iload_n 3, 1) := by decide +kernel
theorem dd_70_71 : decode (am_b 70) 71 = .ok (.invokevirtual 120, 3) := by decide +kernel
theorem dd_70_74 : decode (am_b 70) 74 = .ok (.aload_n 0, 1) := by decide +kernel
theorem dd_70_75 : decode (am_b 70) 75 = .ok (.getfield 26, 3) := by decide +kernel
theorem dd_70_78 : decode (am_b 70) 78 = .ok (.bipush 6, 2) := by decide +kernel
theorem dd_70_80 : decode (am_b 70) 80 = .ok (.iload_n 2, 1) := by decide +kernel
theorem dd_70_81 : decode (am_b 70) 81 = .ok (.imul, 1) := by decide +kernel
theorem dd_70_82 : decode (am_b 70) 82 = .ok (.iconst 4, 1) := by decide +kernel
theorem dd_70_83 : decode (am_b 70) 83 = .ok (.iadd, 1) := by decide +kernel
theorem dd_70_84 : decode (am_b 70) 84 = .ok (.dup2, 1) := by decide +kernel
theorem dd_70_85 : decode (am_b 70) 85 = .ok (.iaload, 1) := by decide +kernel
theorem dd_70_86 : decode (am_b 70) 86 = .ok (.iconst 1, 1) := by decide +kernel
theorem dd_70_87 : decode (am_b 70) 87 = .ok (.iadd, 1) := by decide +kernel
theorem dd_70_88 : decode (am_b 70) 88 = .ok (.iastore, 1) := by decide +kernel
theorem dd_70_89 : decode (am_b 70) 89 = .ok (.aload_n 0, 1) := by decide +kernel
theorem dd_70_90 : decode (am_b 70) 90 = .ok (.getfield 74, 3) := by decide +kernel
theorem dd_70_93 : decode (am_b 70) 93 = .ok (.iload_n 1, 1) := by decide +kernel
theorem dd_70_94 : decode (am_b 70) 94 = .ok (.iload 4, 2) := by decide +kernel
theorem dd_70_96 : decode (am_b 70) 96 = .ok (.iastore, 1) := by decide +kernel
theorem dd_70_97 : decode (am_b 70) 97 = .ok (.aload_n 0, 1) := by decide +kernel
theorem dd_70_98 : decode (am_b 70) 98 = .ok (.iconst 2, 1) := by decide +kernel
theorem dd_70_99 : decode (am_b 70) 99 = .ok (.iload_n 2, 1) := by decide +kernel
theorem dd_70_100 : decode (am_b 70) 100 = .ok (.iconst 0, 1) := by decide +kernel
theorem dd_70_101 : decode (am_b 70) 101 = .ok (.iconst 0, 1) := by decide +kernel
theorem dd_70_102 : decode (am_b 70) 102 = .ok (.iload 4, 2) := by decide +kernel
theorem dd_70_104 : decode (am_b 70) 104 = .ok (.invokevirtual 124, 3) := by decide +kernel
theorem dd_70_107 : decode (am_b 70) 107 = .ok (.return_, 1) := by decide +kernel
theorem sg_70_0 {sh : am_Sh} {C : Nat → am_M → List am_V → am_O → Prop} {P : am_S ⊕ am_O → Prop} {M : am_M} {x1 : Int32} {u2 : Option am_V} {u3 : Option am_V} {u4 : Option am_V} {j1 : Nat} {j2 : Nat} {j3 : Nat} {j4 : Nat} {M1 : am_M} {r1 : Int32} (hx_j1 : x1 = nI j1) (hl_j1 : j1 < 64) (hx_j2 : x1 = nI j2) (hl_j2 : j2 < 64) (hx_j3 : M (21, 25, 0) j1 = nI j3) (hl_j3 : j3 < 4) (hd1 : ¬ M (21, 3, 0) j3 = 0) (hx_j4 : x1 = nI j4) (hl_j4 : j4 < 64) (hc1 : C 71 (am_up M (21, 29, 0) j4 1) [am_R (some (20, 0, 0)), am_I (M (21, 25, 0) j1), am_I ((M (21, 26, 0) j2) - (M (21, 26, 0) j2) / (M (21, 3, 0) j3) * (M (21, 3, 0) j3))] (M1, Sum.inl (some (am_I r1)))) (k1 : r1 < 0 → am_ev sh C 70 (50, [some (am_R (some (20, 0, 0))), some (am_I x1), some (am_I (M (21, 25, 0) j1)), some (am_I ((M (21, 26, 0) j2) - (M (21, 26, 0) j2) / (M (21, 3, 0) j3) * (M (21, 3, 0) j3))), some (am_I r1)], [], M1, 0) P) (k2 : ¬ r1 < 0 → am_ev sh C 70 (41, [some (am_R (some (20, 0, 0))), some (am_I x1), some (am_I (M (21, 25, 0) j1)), some (am_I ((M (21, 26, 0) j2) - (M (21, 26, 0) j2) / (M (21, 3, 0) j3) * (M (21, 3, 0) j3))), some (am_I r1)], [], M1, 0) P) : am_ev sh C 70 (0, [some (am_R (some (20, 0, 0))), some (am_I x1), u2, u3, u4], [], M, 0) P := by
  refine am_e_aload_n dd_70_0 rfl rfl ?_
  refine am_e_gf (ci := 3) (j := 25) (v := am_R (some (21, 25, 0))) dd_70_1 (by decide +kernel) rfl rfl rfl ?_
  refine am_e_iload_n dd_70_4 rfl rfl ?_
  refine am_a_iald dd_70_5 rfl hx_j1 hl_j1 (by decide) rfl ?_
  refine am_e_istore_n dd_70_6 (Nat.le_of_ble_eq_true rfl) rfl rfl ?_
  refine am_e_aload_n dd_70_7 rfl rfl ?_
  refine am_e_gf (ci := 3) (j := 26) (v := am_R (some (21, 26, 0))) dd_70_8 (by decide +kernel) rfl rfl rfl ?_
  refine am_e_iload_n dd_70_11 rfl rfl ?_
  refine am_a_iald dd_70_12 rfl hx_j2 hl_j2 (by decide) rfl ?_
  refine am_e_aload_n dd_70_13 rfl rfl ?_
  refine am_e_gf (ci := 3) (j := 3) (v := am_R (some (21, 3, 0))) dd_70_14 (by decide +kernel) rfl rfl rfl ?_
  refine am_e_iload_n dd_70_17 rfl rfl ?_
  refine am_a_iald dd_70_18 rfl hx_j3 hl_j3 (by decide) rfl ?_
  refine am_e_irem dd_70_19 hd1 rfl ?_
  refine am_e_istore_n dd_70_20 (Nat.le_of_ble_eq_true rfl) rfl rfl ?_
  refine am_e_aload_n dd_70_21 rfl rfl ?_
  refine am_e_gf (ci := 3) (j := 29) (v := am_R (some (21, 29, 0))) dd_70_22 (by decide +kernel) rfl rfl rfl ?_
  refine am_e_iload_n dd_70_25 rfl rfl ?_
  refine am_e_iconst (v := 1) dd_70_26 rfl rfl ?_
  refine am_a_iast dd_70_27 rfl hx_j4 hl_j4 (by decide) rfl ?_
  refine am_e_aload_n dd_70_28 rfl rfl ?_
  refine am_e_iload_n dd_70_29 rfl rfl ?_
  refine am_e_iload_n dd_70_30 rfl rfl ?_
  refine am_e_callV (c := 71) (k := 3) (as := [am_R (some (20, 0, 0)), am_I (M (21, 25, 0) j1), am_I ((M (21, 26, 0) j2) - (M (21, 26, 0) j2) / (M (21, 3, 0) j3) * (M (21, 3, 0) j3))]) (S' := [am_I r1]) (v := some (am_I r1)) (M' := M1) (n' := 0) dd_70_31 (by decide +kernel) ⟨Nat.le_of_ble_eq_true rfl, Nat.le_of_ble_eq_true rfl, by decide +kernel, (Or.inr (am_rcv_of rfl))⟩ rfl rfl (by decide +kernel) hc1 rfl ?_
  refine am_e_istore dd_70_34 (Nat.le_of_ble_eq_true rfl) rfl rfl ?_
  refine am_e_iload dd_70_36 rfl rfl ?_
  exact am_a_if_lt (tgt := 50) (pc' := 41) dd_70_38 rfl rfl k1 k2

theorem sg_70_41 {sh : am_Sh} {C : Nat → am_M → List am_V → am_O → Prop} {P : am_S ⊕ am_O → Prop} {M : am_M} {x1 : Int32} {x2 : Int32} {x3 : Int32} {x4 : Int32} {j1 : Nat} (hx_j1 : x1 = nI j1) (hl_j1 : j1 < 64) (k : P (Sum.inr ((am_up M (21, 28, 0) j1 x4), Sum.inl none))) : am_ev sh C 70 (41, [some (am_R (some (20, 0, 0))), some (am_I x1), some (am_I x2), some (am_I x3), some (am_I x4)], [], M, 0) P := by
  refine am_e_aload_n dd_70_41 rfl rfl ?_
  refine am_e_gf (ci := 3) (j := 28) (v := am_R (some (21, 28, 0))) dd_70_42 (by decide +kernel) rfl rfl rfl ?_
  refine am_e_iload_n dd_70_45 rfl rfl ?_
  refine am_e_iload dd_70_46 rfl rfl ?_
  refine am_a_iast dd_70_48 rfl hx_j1 hl_j1 (by decide) rfl ?_
  exact am_e_vret dd_70_49 (by decide +kernel) rfl k

theorem sg_70_50 {sh : am_Sh} {C : Nat → am_M → List am_V → am_O → Prop} {P : am_S ⊕ am_O → Prop} {M : am_M} {x1 : Int32} {x2 : Int32} {x3 : Int32} {x4 : Int32} {M1 : am_M} {r1 : Int32} {j1 : Nat} (hc1 : C 72 M [am_R (some (20, 0, 0)), am_I x2, am_I x3] (M1, Sum.inl (some (am_I r1)))) (hx_j1 : x2 = nI j1) (hl_j1 : j1 < 4) (k1 : ¬ (M1 (21, 5, 0) j1) = 2 → am_ev sh C 70 (74, [some (am_R (some (20, 0, 0))), some (am_I x1), some (am_I x2), some (am_I x3), some (am_I r1)], [], M1, 0) P) (k2 : (M1 (21, 5, 0) j1) = 2 → am_ev sh C 70 (68, [some (am_R (some (20, 0, 0))), some (am_I x1), some (am_I x2), some (am_I x3), some (am_I r1)], [], M1, 0) P) : am_ev sh C 70 (50, [some (am_R (some (20, 0, 0))), some (am_I x1), some (am_I x2), some (am_I x3), some (am_I x4)], [], M, 0) P := by
  refine am_e_aload_n dd_70_50 rfl rfl ?_
  refine am_e_iload_n dd_70_51 rfl rfl ?_
  refine am_e_iload_n dd_70_52 rfl rfl ?_
  refine am_e_callV (c := 72) (k := 3) (as := [am_R (some (20, 0, 0)), am_I x2, am_I x3]) (S' := [am_I r1]) (v := some (am_I r1)) (M' := M1) (n' := 0) dd_70_53 (by decide +kernel) ⟨Nat.le_of_ble_eq_true rfl, Nat.le_of_ble_eq_true rfl, by decide +kernel, (Or.inr (am_rcv_of rfl))⟩ rfl rfl (by decide +kernel) hc1 rfl ?_
  refine am_e_istore dd_70_56 (Nat.le_of_ble_eq_true rfl) rfl rfl ?_
  refine am_e_aload_n dd_70_58 rfl rfl ?_
  refine am_e_gf (ci := 3) (j := 5) (v := am_R (some (21, 5, 0))) dd_70_59 (by decide +kernel) rfl rfl rfl ?_
  refine am_e_iload_n dd_70_62 rfl rfl ?_
  refine am_a_iald dd_70_63 rfl hx_j1 hl_j1 (by decide) rfl ?_
  refine am_e_iconst (v := 2) dd_70_64 rfl rfl ?_
  exact am_a_icmp_ne (tgt := 74) (pc' := 68) dd_70_65 rfl rfl k1 k2

theorem sg_70_68 {sh : am_Sh} {C : Nat → am_M → List am_V → am_O → Prop} {P : am_S ⊕ am_O → Prop} {M : am_M} {x1 : Int32} {x2 : Int32} {x3 : Int32} {x4 : Int32} {M1 : am_M} (hc1 : C 74 M [am_R (some (20, 0, 0)), am_I x2, am_I x3] (M1, Sum.inl none)) (k : am_ev sh C 70 (74, [some (am_R (some (20, 0, 0))), some (am_I x1), some (am_I x2), some (am_I x3), some (am_I x4)], [], M1, 0) P) : am_ev sh C 70 (68, [some (am_R (some (20, 0, 0))), some (am_I x1), some (am_I x2), some (am_I x3), some (am_I x4)], [], M, 0) P := by
  refine am_e_aload_n dd_70_68 rfl rfl ?_
  refine am_e_iload_n dd_70_69 rfl rfl ?_
  refine am_e_iload_n dd_70_70 rfl rfl ?_
  refine am_e_callV (c := 74) (k := 3) (as := [am_R (some (20, 0, 0)), am_I x2, am_I x3]) (S' := []) (v := none) (M' := M1) (n' := 0) dd_70_71 (by decide +kernel) ⟨Nat.le_of_ble_eq_true rfl, Nat.le_of_ble_eq_true rfl, by decide +kernel, (Or.inr (am_rcv_of rfl))⟩ rfl rfl (by decide +kernel) hc1 rfl ?_
  exact k

theorem sg_70_74 {sh : am_Sh} {C : Nat → am_M → List am_V → am_O → Prop} {P : am_S ⊕ am_O → Prop} {M : am_M} {x1 : Int32} {x2 : Int32} {x3 : Int32} {x4 : Int32} {j1 : Nat} {j2 : Nat} {M1 : am_M} (hx_j1 : (6 * x2) + 4 = nI j1) (hl_j1 : j1 < 24) (hx_j2 : x1 = nI j2) (hl_j2 : j2 < 64) (hc1 : C 65 (am_up (am_up M (21, 8, 0) j1 ((M (21, 8, 0) j1) + 1)) (21, 28, 0) j2 x4) [am_R (some (20, 0, 0)), am_I 2, am_I x2, am_I 0, am_I 0, am_I x4] (M1, Sum.inl none)) (k : P (Sum.inr (M1, Sum.inl none))) : am_ev sh C 70 (74, [some (am_R (some (20, 0, 0))), some (am_I x1), some (am_I x2), some (am_I x3), some (am_I x4)], [], M, 0) P := by
  refine am_e_aload_n dd_70_74 rfl rfl ?_
  refine am_e_gf (ci := 3) (j := 8) (v := am_R (some (21, 8, 0))) dd_70_75 (by decide +kernel) rfl rfl rfl ?_
  refine am_e_bipush (v := 6) dd_70_78 (by decide) rfl ?_
  refine am_e_iload_n dd_70_80 rfl rfl ?_
  refine am_e_imul dd_70_81 rfl ?_
  refine am_e_iconst (v := 4) dd_70_82 rfl rfl ?_
  refine am_e_iadd dd_70_83 rfl ?_
  refine am_e_dup2 dd_70_84 rfl rfl rfl ?_
  refine am_a_iald dd_70_85 rfl hx_j1 hl_j1 (by decide) rfl ?_
  refine am_e_iconst (v := 1) dd_70_86 rfl rfl ?_
  refine am_e_iadd dd_70_87 rfl ?_
  refine am_a_iast dd_70_88 rfl hx_j1 hl_j1 (by decide) rfl ?_
  refine am_e_aload_n dd_70_89 rfl rfl ?_
  refine am_e_gf (ci := 3) (j := 28) (v := am_R (some (21, 28, 0))) dd_70_90 (by decide +kernel) rfl rfl rfl ?_
  refine am_e_iload_n dd_70_93 rfl rfl ?_
  refine am_e_iload dd_70_94 rfl rfl ?_
  refine am_a_iast dd_70_96 rfl hx_j2 hl_j2 (by decide) rfl ?_
  refine am_e_aload_n dd_70_97 rfl rfl ?_
  refine am_e_iconst (v := 2) dd_70_98 rfl rfl ?_
  refine am_e_iload_n dd_70_99 rfl rfl ?_
  refine am_e_iconst (v := 0) dd_70_100 rfl rfl ?_
  refine am_e_iconst (v := 0) dd_70_101 rfl rfl ?_
  refine am_e_iload dd_70_102 rfl rfl ?_
  refine am_e_callV (c := 65) (k := 6) (as := [am_R (some (20, 0, 0)), am_I 2, am_I x2, am_I 0, am_I 0, am_I x4]) (S' := []) (v := none) (M' := M1) (n' := 0) dd_70_104 (by decide +kernel) ⟨Nat.le_of_ble_eq_true rfl, Nat.le_of_ble_eq_true rfl, by decide +kernel, (Or.inr (am_rcv_of rfl))⟩ rfl rfl (by decide +kernel) hc1 rfl ?_
  exact am_e_vret dd_70_107 (by decide +kernel) rfl k

-- 71: CacheLadderModel.freeIn(II)I
theorem dd_71_0 : decode (am_b 71) 0 = .ok (.aload_n 0, 1) := by decide +kernel
theorem dd_71_1 : decode (am_b 71) 1 = .ok (.iload_n 1, 1) := by decide +kernel
theorem dd_71_2 : decode (am_b 71) 2 = .ok (.iload_n 2, 1) := by decide +kernel
theorem dd_71_3 : decode (am_b 71) 3 = .ok (.invokevirtual 87, 3) := by decide +kernel
theorem dd_71_6 : decode (am_b 71) 6 = .ok (.istore_n 3, 1) := by decide +kernel
theorem dd_71_7 : decode (am_b 71) 7 = .ok (.iconst (-1), 1) := by decide +kernel
theorem dd_71_8 : decode (am_b 71) 8 = .ok (.istore 4, 2) := by decide +kernel
theorem dd_71_10 : decode (am_b 71) 10 = .ok (.aload_n 0, 1) := by decide +kernel
theorem dd_71_11 : decode (am_b 71) 11 = .ok (.getfield 13, 3) := by decide +kernel
theorem dd_71_14 : decode (am_b 71) 14 = .ok (.iload_n 1, 1) := by decide +kernel
theorem dd_71_15 : decode (am_b 71) 15 = .ok (.iaload, 1) := by decide +kernel
theorem dd_71_16 : decode (am_b 71) 16 = .ok (.iconst 1, 1) := by decide +kernel
theorem dd_71_17 : decode (am_b 71) 17 = .ok (.isub, 1) := by decide +kernel
theorem dd_71_18 : decode (am_b 71) 18 = .ok (.istore 5, 2) := by decide +kernel
theorem dd_71_20 : decode (am_b 71) 20 = .ok (.iload 5, 2) := by decide +kernel
theorem dd_71_22 : decode (am_b 71) 22 = .ok (.ifCond .lt 32, 3) := by decide +kernel
theorem dd_71_25 : decode (am_b 71) 25 = .ok (.aload_n 0, 1) := by decide +kernel
theorem dd_71_26 : decode (am_b 71) 26 = .ok (.getfield 32, 3) := by decide +kernel
theorem dd_71_29 : decode (am_b 71) 29 = .ok (.iload_n 3, 1) := by decide +kernel
theorem dd_71_30 : decode (am_b 71) 30 = .ok (.iload 5, 2) := by decide +kernel
theorem dd_71_32 : decode (am_b 71) 32 = .ok (.iadd, 1) := by decide +kernel
theorem dd_71_33 : decode (am_b 71) 33 = .ok (.iaload, 1) := by decide +kernel
theorem dd_71_34 : decode (am_b 71) 34 = .ok (.ifCond .ge 10, 3) := by decide +kernel
theorem dd_71_37 : decode (am_b 71) 37 = .ok (.iload_n 3, 1) := by decide +kernel
theorem dd_71_38 : decode (am_b 71) 38 = .ok (.iload 5, 2) := by decide +kernel
theorem dd_71_40 : decode (am_b 71) 40 = .ok (.iadd, 1) := by decide +kernel
theorem dd_71_41 : decode (am_b 71) 41 = .ok (.goto 5, 3) := by decide +kernel
theorem dd_71_44 : decode (am_b 71) 44 = .ok (.iload 4, 2) := by decide +kernel
theorem dd_71_46 : decode (am_b 71) 46 = .ok (.istore 4, 2) := by decide +kernel
theorem dd_71_48 : decode (am_b 71) 48 = .ok (.iinc 5 (-1), 3) := by decide +kernel
theorem dd_71_51 : decode (am_b 71) 51 = .ok (.goto (-31), 3) := by decide +kernel
theorem dd_71_54 : decode (am_b 71) 54 = .ok (.iload 4, 2) := by decide +kernel
theorem dd_71_56 : decode (am_b 71) 56 = .ok (.ireturn, 1) := by decide +kernel
theorem sg_71_0 {sh : am_Sh} {C : Nat → am_M → List am_V → am_O → Prop} {P : am_S ⊕ am_O → Prop} {M : am_M} {x1 : Int32} {x2 : Int32} {u3 : Option am_V} {u4 : Option am_V} {u5 : Option am_V} {M1 : am_M} {r1 : Int32} {j1 : Nat} (hc1 : C 69 M [am_R (some (20, 0, 0)), am_I x1, am_I x2] (M1, Sum.inl (some (am_I r1)))) (hx_j1 : x1 = nI j1) (hl_j1 : j1 < 4) (k : am_ev sh C 71 (20, [some (am_R (some (20, 0, 0))), some (am_I x1), some (am_I x2), some (am_I r1), some (am_I (-1)), some (am_I ((M1 (21, 4, 0) j1) - 1))], [], M1, 0) P) : am_ev sh C 71 (0, [some (am_R (some (20, 0, 0))), some (am_I x1), some (am_I x2), u3, u4, u5], [], M, 0) P := by
  refine am_e_aload_n dd_71_0 rfl rfl ?_
  refine am_e_iload_n dd_71_1 rfl rfl ?_
  refine am_e_iload_n dd_71_2 rfl rfl ?_
  refine am_e_callV (c := 69) (k := 3) (as := [am_R (some (20, 0, 0)), am_I x1, am_I x2]) (S' := [am_I r1]) (v := some (am_I r1)) (M' := M1) (n' := 0) dd_71_3 (by decide +kernel) ⟨Nat.le_of_ble_eq_true rfl, Nat.le_of_ble_eq_true rfl, by decide +kernel, (Or.inr (am_rcv_of rfl))⟩ rfl rfl (by decide +kernel) hc1 rfl ?_
  refine am_e_istore_n dd_71_6 (Nat.le_of_ble_eq_true rfl) rfl rfl ?_
  refine am_e_iconst (v := (-1)) dd_71_7 rfl rfl ?_
  refine am_e_istore dd_71_8 (Nat.le_of_ble_eq_true rfl) rfl rfl ?_
  refine am_e_aload_n dd_71_10 rfl rfl ?_
  refine am_e_gf (ci := 3) (j := 4) (v := am_R (some (21, 4, 0))) dd_71_11 (by decide +kernel) rfl rfl rfl ?_
  refine am_e_iload_n dd_71_14 rfl rfl ?_
  refine am_a_iald dd_71_15 rfl hx_j1 hl_j1 (by decide) rfl ?_
  refine am_e_iconst (v := 1) dd_71_16 rfl rfl ?_
  refine am_e_isub dd_71_17 rfl ?_
  refine am_e_istore dd_71_18 (Nat.le_of_ble_eq_true rfl) rfl rfl ?_
  exact k

theorem sg_71_20 {sh : am_Sh} {C : Nat → am_M → List am_V → am_O → Prop} {P : am_S ⊕ am_O → Prop} {M : am_M} {x1 : Int32} {x2 : Int32} {x3 : Int32} {x4 : Int32} {x5 : Int32}  (k1 : x5 < 0 → am_ev sh C 71 (54, [some (am_R (some (20, 0, 0))), some (am_I x1), some (am_I x2), some (am_I x3), some (am_I x4), some (am_I x5)], [], M, 0) P) (k2 : ¬ x5 < 0 → am_ev sh C 71 (25, [some (am_R (some (20, 0, 0))), some (am_I x1), some (am_I x2), some (am_I x3), some (am_I x4), some (am_I x5)], [], M, 0) P) : am_ev sh C 71 (20, [some (am_R (some (20, 0, 0))), some (am_I x1), some (am_I x2), some (am_I x3), some (am_I x4), some (am_I x5)], [], M, 0) P := by
  refine am_e_iload dd_71_20 rfl rfl ?_
  exact am_a_if_lt (tgt := 54) (pc' := 25) dd_71_22 rfl rfl k1 k2

theorem sg_71_25 {sh : am_Sh} {C : Nat → am_M → List am_V → am_O → Prop} {P : am_S ⊕ am_O → Prop} {M : am_M} {x1 : Int32} {x2 : Int32} {x3 : Int32} {x4 : Int32} {x5 : Int32} {j1 : Nat} (hx_j1 : x3 + x5 = nI j1) (hl_j1 : j1 < 256) (k1 : 0 ≤ (M (21, 10, 0) j1) → am_ev sh C 71 (44, [some (am_R (some (20, 0, 0))), some (am_I x1), some (am_I x2), some (am_I x3), some (am_I x4), some (am_I x5)], [], M, 0) P) (k2 : ¬ 0 ≤ (M (21, 10, 0) j1) → am_ev sh C 71 (37, [some (am_R (some (20, 0, 0))), some (am_I x1), some (am_I x2), some (am_I x3), some (am_I x4), some (am_I x5)], [], M, 0) P) : am_ev sh C 71 (25, [some (am_R (some (20, 0, 0))), some (am_I x1), some (am_I x2), some (am_I x3), some (am_I x4), some (am_I x5)], [], M, 0) P := by
  refine am_e_aload_n dd_71_25 rfl rfl ?_
  refine am_e_gf (ci := 3) (j := 10) (v := am_R (some (21, 10, 0))) dd_71_26 (by decide +kernel) rfl rfl rfl ?_
  refine am_e_iload_n dd_71_29 rfl rfl ?_
  refine am_e_iload dd_71_30 rfl rfl ?_
  refine am_e_iadd dd_71_32 rfl ?_
  refine am_a_iald dd_71_33 rfl hx_j1 hl_j1 (by decide) rfl ?_
  exact am_a_if_ge (tgt := 44) (pc' := 37) dd_71_34 rfl rfl k1 k2

theorem sg_71_37 {sh : am_Sh} {C : Nat → am_M → List am_V → am_O → Prop} {P : am_S ⊕ am_O → Prop} {M : am_M} {x1 : Int32} {x2 : Int32} {x3 : Int32} {x4 : Int32} {x5 : Int32}  (k : am_ev sh C 71 (46, [some (am_R (some (20, 0, 0))), some (am_I x1), some (am_I x2), some (am_I x3), some (am_I x4), some (am_I x5)], [am_I (x3 + x5)], M, 0) P) : am_ev sh C 71 (37, [some (am_R (some (20, 0, 0))), some (am_I x1), some (am_I x2), some (am_I x3), some (am_I x4), some (am_I x5)], [], M, 0) P := by
  refine am_e_iload_n dd_71_37 rfl rfl ?_
  refine am_e_iload dd_71_38 rfl rfl ?_
  refine am_e_iadd dd_71_40 rfl ?_
  refine am_e_goto (pc' := 46) dd_71_41 rfl ?_
  exact k

theorem sg_71_44 {sh : am_Sh} {C : Nat → am_M → List am_V → am_O → Prop} {P : am_S ⊕ am_O → Prop} {M : am_M} {x1 : Int32} {x2 : Int32} {x3 : Int32} {x4 : Int32} {x5 : Int32}  (k : am_ev sh C 71 (46, [some (am_R (some (20, 0, 0))), some (am_I x1), some (am_I x2), some (am_I x3), some (am_I x4), some (am_I x5)], [am_I x4], M, 0) P) : am_ev sh C 71 (44, [some (am_R (some (20, 0, 0))), some (am_I x1), some (am_I x2), some (am_I x3), some (am_I x4), some (am_I x5)], [], M, 0) P := by
  refine am_e_iload dd_71_44 rfl rfl ?_
  exact k

theorem sg_71_46 {sh : am_Sh} {C : Nat → am_M → List am_V → am_O → Prop} {P : am_S ⊕ am_O → Prop} {M : am_M} {x1 : Int32} {x2 : Int32} {x3 : Int32} {x4 : Int32} {x5 : Int32} {xs0 : Int32}  (k : am_ev sh C 71 (20, [some (am_R (some (20, 0, 0))), some (am_I x1), some (am_I x2), some (am_I x3), some (am_I xs0), some (am_I (x5 + (-1)))], [], M, 0) P) : am_ev sh C 71 (46, [some (am_R (some (20, 0, 0))), some (am_I x1), some (am_I x2), some (am_I x3), some (am_I x4), some (am_I x5)], [am_I xs0], M, 0) P := by
  refine am_e_istore dd_71_46 (Nat.le_of_ble_eq_true rfl) rfl rfl ?_
  refine am_e_iinc (v := x5 + (-1)) dd_71_48 rfl rfl rfl rfl ?_
  refine am_e_goto (pc' := 20) dd_71_51 rfl ?_
  exact k

theorem sg_71_54 {sh : am_Sh} {C : Nat → am_M → List am_V → am_O → Prop} {P : am_S ⊕ am_O → Prop} {M : am_M} {x1 : Int32} {x2 : Int32} {x3 : Int32} {x4 : Int32} {x5 : Int32}  (k : P (Sum.inr (M, Sum.inl (some (am_I x4))))) : am_ev sh C 71 (54, [some (am_R (some (20, 0, 0))), some (am_I x1), some (am_I x2), some (am_I x3), some (am_I x4), some (am_I x5)], [], M, 0) P := by
  refine am_e_iload dd_71_54 rfl rfl ?_
  exact am_e_iret dd_71_56 (by decide +kernel) (Or.inl rfl) k

-- 72: CacheLadderModel.choice(II)I
theorem dd_72_0 : decode (am_b 72) 0 = .ok (.aload_n 0, 1) := by decide +kernel
theorem dd_72_1 : decode (am_b 72) 1 = .ok (.iload_n 1, 1) := by decide +kernel
theorem dd_72_2 : decode (am_b 72) 2 = .ok (.iload_n 2, 1) := by decide +kernel
theorem dd_72_3 : decode (am_b 72) 3 = .ok (.invokevirtual 87, 3) := by decide +kernel
theorem dd_72_6 : decode (am_b 72) 6 = .ok (.istore_n 3, 1) := by decide +kernel
theorem dd_72_7 : decode (am_b 72) 7 = .ok (.aload_n 0, 1) := by decide +kernel
theorem dd_72_8 : decode (am_b 72) 8 = .ok (.getfield 13, 3) := by decide +kernel
theorem dd_72_11 : decode (am_b 72) 11 = .ok (.iload_n 1, 1) := by decide +kernel
theorem dd_72_12 : decode (am_b 72) 12 = .ok (.iaload, 1) := by decide +kernel
theorem dd_72_13 : decode (am_b 72) 13 = .ok (.istore 4, 2) := by decide +kernel
theorem dd_72_15 : decode (am_b 72) 15 = .ok (.aload_n 0, 1) := by decide +kernel
theorem dd_72_16 : decode (am_b 72) 16 = .ok (.getfield 29, 3) := by decide +kernel
theorem dd_72_19 : decode (am_b 72) 19 = .ok (.bipush 16, 2) := by decide +kernel
theorem dd_72_21 : decode (am_b 72) 21 = .ok (.iload_n 1, 1) := by decide +kernel
theorem dd_72_22 : decode (am_b 72) 22 = .ok (.imul, 1) := by decide +kernel
theorem dd_72_23 : decode (am_b 72) 23 = .ok (.iload_n 2, 1) := by decide +kernel
theorem dd_72_24 : decode (am_b 72) 24 = .ok (.iadd, 1) := by decide +kernel
theorem dd_72_25 : decode (am_b 72) 25 = .ok (.iaload, 1) := by decide +kernel
theorem dd_72_26 : decode (am_b 72) 26 = .ok (.istore 5, 2) := by decide +kernel
theorem dd_72_28 : decode (am_b 72) 28 = .ok (.aload_n 0, 1) := by decide +kernel
theorem dd_72_29 : decode (am_b 72) 29 = .ok (.getfield 16, 3) := by decide +kernel
theorem dd_72_32 : decode (am_b 72) 32 = .ok (.iload_n 1, 1) := by decide +kernel
theorem dd_72_33 : decode (am_b 72) 33 = .ok (.iaload, 1) := by decide +kernel
theorem dd_72_34 : decode (am_b 72) 34 = .ok (.iconst 2, 1) := by decide +kernel
theorem dd_72_35 : decode (am_b 72) 35 = .ok (.if_icmp .ne 10, 3) := by decide +kernel
theorem dd_72_38 : decode (am_b 72) 38 = .ok (.iload_n 3, 1) := by decide +kernel
theorem dd_72_39 : decode (am_b 72) 39 = .ok (.iload 5, 2) := by decide +kernel
theorem dd_72_41 : decode (am_b 72) 41 = .ok (.iadd, 1) := by decide +kernel
theorem dd_72_42 : decode (am_b 72) 42 = .ok (.goto 4, 3) := by decide +kernel
theorem dd_72_45 : decode (am_b 72) 45 = .ok (.iload_n 3, 1) := by decide +kernel
theorem dd_72_46 : decode (am_b 72) 46 = .ok (.istore 6, 2) := by decide +kernel
theorem dd_72_48 : decode (am_b 72) 48 = .ok (.iload 4, 2) := by decide +kernel
theorem dd_72_50 : decode (am_b 72) 50 = .ok (.iconst 1, 1) := by decide +kernel
theorem dd_72_51 : decode (am_b 72) 51 = .ok (.isub, 1) := by decide +kernel
theorem dd_72_52 : decode (am_b 72) 52 = .ok (.istore 7, 2) := by decide +kernel
theorem dd_72_54 : decode (am_b 72) 54 = .ok (.iload 7, 2) := by decide +kernel
theorem dd_72_56 : decode (am_b 72) 56 = .ok (.ifCond .lt 91, 3) := by decide +kernel
theorem dd_72_59 : decode (am_b 72) 59 = .ok (.aload_n 0, 1) := by decide +kernel
theorem dd_72_60 : decode (am_b 72) 60 = .ok (.getfield 16, 3) := by decide +kernel
theorem dd_72_63 : decode (am_b 72) 63 = .ok (.iload_n 1, 1) := by decide +kernel
theorem dd_72_64 : decode (am_b 72) 64 = .ok (.iaload, 1) := by decide +kernel
theorem dd_72_65 : decode (am_b 72) 65 = .ok (.iconst 2, 1) := by decide +kernel
theorem dd_72_66 : decode (am_b 72) 66 = .ok (.if_icmp .ne 16, 3) := by decide +kernel
theorem dd_72_69 : decode (am_b 72) 69 = .ok (.iload_n 3, 1) := by decide +kernel
theorem dd_72_70 : decode (am_b 72) 70 = .ok (.iload 5, 2) := by decide +kernel
theorem dd_72_72 : decode (am_b 72) 72 = .ok (.iload 7, 2) := by decide +kernel
theorem dd_72_74 : decode (am_b 72) 74 = .ok (.iadd, 1) := by decide +kernel
theorem dd_72_75 : decode (am_b 72) 75 = .ok (.iload 4, 2) := by decide +kernel
theorem dd_72_77 : decode (am_b 72) 77 = .ok (.irem, 1) := by decide +kernel
theorem dd_72_78 : decode (am_b 72) 78 = .ok (.iadd, 1) := by decide +kernel
theorem dd_72_79 : decode (am_b 72) 79 = .ok (.goto 7, 3) := by decide +kernel
theorem dd_72_82 : decode (am_b 72) 82 = .ok (.iload_n 3, 1) := by decide +kernel
theorem dd_72_83 : decode (am_b 72) 83 = .ok (.iload 7, 2) := by decide +kernel
theorem dd_72_85 : decode (am_b 72) 85 = .ok (.iadd, 1) := by decide +kernel
theorem dd_72_86 : decode (am_b 72) 86 = .ok (.istore 8, 2) := by decide +kernel
theorem dd_72_88 : decode (am_b 72) 88 = .ok (.aload_n 0, 1) := by decide +kernel
theorem dd_72_89 : decode (am_b 72) 89 = .ok (.getfield 16, 3) := by decide +kernel
theorem dd_72_92 : decode (am_b 72) 92 = .ok (.iload_n 1, 1) := by decide +kernel
theorem dd_72_93 : decode (am_b 72) 93 = .ok (.iaload, 1) := by decide +kernel
theorem dd_72_94 : decode (am_b 72) 94 = .ok (.iconst 2, 1) := by decide +kernel
theorem dd_72_95 : decode (am_b 72) 95 = .ok (.if_icmp .ne 21, 3) := by decide +kernel
theorem dd_72_98 : decode (am_b 72) 98 = .ok (.aload_n 0, 1) := by decide +kernel
theorem dd_72_99 : decode (am_b 72) 99 = .ok (.getfield 47, 3) := by decide +kernel
theorem dd_72_102 : decode (am_b 72) 102 = .ok (.iload 8, 2) := by decide +kernel
theorem dd_72_104 : decode (am_b 72) 104 = .ok (.baload, 1) := by decide +kernel
theorem dd_72_105 : decode (am_b 72) 105 = .ok (.ifCond .ne 7, 3) := by decide +kernel
theorem dd_72_108 : decode (am_b 72) 108 = .ok (.iconst 1, 1) := by decide +kernel
theorem dd_72_109 : decode (am_b 72) 109 = .ok (.goto 16, 3) := by decide +kernel
theorem dd_72_112 : decode (am_b 72) 112 = .ok (.iconst 0, 1) := by decide +kernel
theorem dd_72_113 : decode (am_b 72) 113 = .ok (.goto 12, 3) := by decide +kernel
theorem dd_72_116 : decode (am_b 72) 116 = .ok (.aload_n 0, 1) := by decide +kernel
theorem dd_72_117 : decode (am_b 72) 117 = .ok (.iload_n 1, 1) := by decide +kernel
theorem dd_72_118 : decode (am_b 72) 118 = .ok (.iload 8, 2) := by decide +kernel
theorem dd_72_120 : decode (am_b 72) 120 = .ok (.iload 6, 2) := by decide +kernel
theorem dd_72_122 : decode (am_b 72) 122 = .ok (.invokevirtual 98, 3) := by decide +kernel
theorem dd_72_125 : decode (am_b 72) 125 = .ok (.istore 9, 2) := by decide +kernel
theorem dd_72_127 : decode (am_b 72) 127 = .ok (.iload 9, 2) := by decide +kernel
theorem dd_72_129 : decode (am_b 72) 129 = .ok (.ifCond .eq 8, 3) := by decide +kernel
theorem dd_72_132 : decode (am_b 72) 132 = .ok (.iload 8, 2) := by decide +kernel
theorem dd_72_134 : decode (am_b 72) 134 = .ok (.goto 5, 3) := by decide +kernel
theorem dd_72_137 : decode (am_b 72) 137 = .ok (.iload 6, 2) := by decide +kernel
theorem dd_72_139 : decode (am_b 72) 139 = .ok (.istore 6, 2) := by decide +kernel
theorem dd_72_141 : decode (am_b 72) 141 = .ok (.iinc 7 (-1), 3) := by decide +kernel
theorem dd_72_144 : decode (am_b 72) 144 = .ok (.goto (-90), 3) := by decide +kernel
theorem dd_72_147 : decode (am_b 72) 147 = .ok (.iload 6, 2) := by decide +kernel
theorem dd_72_149 : decode (am_b 72) 149 = .ok (.ireturn, 1) := by decide +kernel
theorem sg_72_0 {sh : am_Sh} {C : Nat → am_M → List am_V → am_O → Prop} {P : am_S ⊕ am_O → Prop} {M : am_M} {x1 : Int32} {x2 : Int32} {u3 : Option am_V} {u4 : Option am_V} {u5 : Option am_V} {u6 : Option am_V} {u7 : Option am_V} {u8 : Option am_V} {u9 : Option am_V} {M1 : am_M} {r1 : Int32} {j1 : Nat} {j2 : Nat} {j3 : Nat} (hc1 : C 69 M [am_R (some (20, 0, 0)), am_I x1, am_I x2] (M1, Sum.inl (some (am_I r1)))) (hx_j1 : x1 = nI j1) (hl_j1 : j1 < 4) (hx_j2 : (16 * x1) + x2 = nI j2) (hl_j2 : j2 < 64) (hx_j3 : x1 = nI j3) (hl_j3 : j3 < 4) (k1 : ¬ (M1 (21, 5, 0) j3) = 2 → am_ev sh C 72 (45, [some (am_R (some (20, 0, 0))), some (am_I x1), some (am_I x2), some (am_I r1), some (am_I (M1 (21, 4, 0) j1)), some (am_I (M1 (21, 9, 0) j2)), u6, u7, u8, u9], [], M1, 0) P) (k2 : (M1 (21, 5, 0) j3) = 2 → am_ev sh C 72 (38, [some (am_R (some (20, 0, 0))), some (am_I x1), some (am_I x2), some (am_I r1), some (am_I (M1 (21, 4, 0) j1)), some (am_I (M1 (21, 9, 0) j2)), u6, u7, u8, u9], [], M1, 0) P) : am_ev sh C 72 (0, [some (am_R (some (20, 0, 0))), some (am_I x1), some (am_I x2), u3, u4, u5, u6, u7, u8, u9], [], M, 0) P := by
  refine am_e_aload_n dd_72_0 rfl rfl ?_
  refine am_e_iload_n dd_72_1 rfl rfl ?_
  refine am_e_iload_n dd_72_2 rfl rfl ?_
  refine am_e_callV (c := 69) (k := 3) (as := [am_R (some (20, 0, 0)), am_I x1, am_I x2]) (S' := [am_I r1]) (v := some (am_I r1)) (M' := M1) (n' := 0) dd_72_3 (by decide +kernel) ⟨Nat.le_of_ble_eq_true rfl, Nat.le_of_ble_eq_true rfl, by decide +kernel, (Or.inr (am_rcv_of rfl))⟩ rfl rfl (by decide +kernel) hc1 rfl ?_
  refine am_e_istore_n dd_72_6 (Nat.le_of_ble_eq_true rfl) rfl rfl ?_
  refine am_e_aload_n dd_72_7 rfl rfl ?_
  refine am_e_gf (ci := 3) (j := 4) (v := am_R (some (21, 4, 0))) dd_72_8 (by decide +kernel) rfl rfl rfl ?_
  refine am_e_iload_n dd_72_11 rfl rfl ?_
  refine am_a_iald dd_72_12 rfl hx_j1 hl_j1 (by decide) rfl ?_
  refine am_e_istore dd_72_13 (Nat.le_of_ble_eq_true rfl) rfl rfl ?_
  refine am_e_aload_n dd_72_15 rfl rfl ?_
  refine am_e_gf (ci := 3) (j := 9) (v := am_R (some (21, 9, 0))) dd_72_16 (by decide +kernel) rfl rfl rfl ?_
  refine am_e_bipush (v := 16) dd_72_19 (by decide) rfl ?_
  refine am_e_iload_n dd_72_21 rfl rfl ?_
  refine am_e_imul dd_72_22 rfl ?_
  refine am_e_iload_n dd_72_23 rfl rfl ?_
  refine am_e_iadd dd_72_24 rfl ?_
  refine am_a_iald dd_72_25 rfl hx_j2 hl_j2 (by decide) rfl ?_
  refine am_e_istore dd_72_26 (Nat.le_of_ble_eq_true rfl) rfl rfl ?_
  refine am_e_aload_n dd_72_28 rfl rfl ?_
  refine am_e_gf (ci := 3) (j := 5) (v := am_R (some (21, 5, 0))) dd_72_29 (by decide +kernel) rfl rfl rfl ?_
  refine am_e_iload_n dd_72_32 rfl rfl ?_
  refine am_a_iald dd_72_33 rfl hx_j3 hl_j3 (by decide) rfl ?_
  refine am_e_iconst (v := 2) dd_72_34 rfl rfl ?_
  exact am_a_icmp_ne (tgt := 45) (pc' := 38) dd_72_35 rfl rfl k1 k2

theorem sg_72_38 {sh : am_Sh} {C : Nat → am_M → List am_V → am_O → Prop} {P : am_S ⊕ am_O → Prop} {M : am_M} {x1 : Int32} {x2 : Int32} {x3 : Int32} {x4 : Int32} {x5 : Int32} {u6 : Option am_V} {u7 : Option am_V} {u8 : Option am_V} {u9 : Option am_V}  (k : am_ev sh C 72 (46, [some (am_R (some (20, 0, 0))), some (am_I x1), some (am_I x2), some (am_I x3), some (am_I x4), some (am_I x5), u6, u7, u8, u9], [am_I (x3 + x5)], M, 0) P) : am_ev sh C 72 (38, [some (am_R (some (20, 0, 0))), some (am_I x1), some (am_I x2), some (am_I x3), some (am_I x4), some (am_I x5), u6, u7, u8, u9], [], M, 0) P := by
  refine am_e_iload_n dd_72_38 rfl rfl ?_
  refine am_e_iload dd_72_39 rfl rfl ?_
  refine am_e_iadd dd_72_41 rfl ?_
  refine am_e_goto (pc' := 46) dd_72_42 rfl ?_
  exact k

theorem sg_72_45 {sh : am_Sh} {C : Nat → am_M → List am_V → am_O → Prop} {P : am_S ⊕ am_O → Prop} {M : am_M} {x1 : Int32} {x2 : Int32} {x3 : Int32} {x4 : Int32} {x5 : Int32} {u6 : Option am_V} {u7 : Option am_V} {u8 : Option am_V} {u9 : Option am_V}  (k : am_ev sh C 72 (46, [some (am_R (some (20, 0, 0))), some (am_I x1), some (am_I x2), some (am_I x3), some (am_I x4), some (am_I x5), u6, u7, u8, u9], [am_I x3], M, 0) P) : am_ev sh C 72 (45, [some (am_R (some (20, 0, 0))), some (am_I x1), some (am_I x2), some (am_I x3), some (am_I x4), some (am_I x5), u6, u7, u8, u9], [], M, 0) P := by
  refine am_e_iload_n dd_72_45 rfl rfl ?_
  exact k

theorem sg_72_46 {sh : am_Sh} {C : Nat → am_M → List am_V → am_O → Prop} {P : am_S ⊕ am_O → Prop} {M : am_M} {x1 : Int32} {x2 : Int32} {x3 : Int32} {x4 : Int32} {x5 : Int32} {u6 : Option am_V} {u7 : Option am_V} {u8 : Option am_V} {u9 : Option am_V} {xs0 : Int32}  (k : am_ev sh C 72 (54, [some (am_R (some (20, 0, 0))), some (am_I x1), some (am_I x2), some (am_I x3), some (am_I x4), some (am_I x5), some (am_I xs0), some (am_I (x4 - 1)), u8, u9], [], M, 0) P) : am_ev sh C 72 (46, [some (am_R (some (20, 0, 0))), some (am_I x1), some (am_I x2), some (am_I x3), some (am_I x4), some (am_I x5), u6, u7, u8, u9], [am_I xs0], M, 0) P := by
  refine am_e_istore dd_72_46 (Nat.le_of_ble_eq_true rfl) rfl rfl ?_
  refine am_e_iload dd_72_48 rfl rfl ?_
  refine am_e_iconst (v := 1) dd_72_50 rfl rfl ?_
  refine am_e_isub dd_72_51 rfl ?_
  refine am_e_istore dd_72_52 (Nat.le_of_ble_eq_true rfl) rfl rfl ?_
  exact k

theorem sg_72_54 {sh : am_Sh} {C : Nat → am_M → List am_V → am_O → Prop} {P : am_S ⊕ am_O → Prop} {M : am_M} {x1 : Int32} {x2 : Int32} {x3 : Int32} {x4 : Int32} {x5 : Int32} {x6 : Int32} {x7 : Int32} {u8 : Option am_V} {u9 : Option am_V}  (k1 : x7 < 0 → am_ev sh C 72 (147, [some (am_R (some (20, 0, 0))), some (am_I x1), some (am_I x2), some (am_I x3), some (am_I x4), some (am_I x5), some (am_I x6), some (am_I x7), u8, u9], [], M, 0) P) (k2 : ¬ x7 < 0 → am_ev sh C 72 (59, [some (am_R (some (20, 0, 0))), some (am_I x1), some (am_I x2), some (am_I x3), some (am_I x4), some (am_I x5), some (am_I x6), some (am_I x7), u8, u9], [], M, 0) P) : am_ev sh C 72 (54, [some (am_R (some (20, 0, 0))), some (am_I x1), some (am_I x2), some (am_I x3), some (am_I x4), some (am_I x5), some (am_I x6), some (am_I x7), u8, u9], [], M, 0) P := by
  refine am_e_iload dd_72_54 rfl rfl ?_
  exact am_a_if_lt (tgt := 147) (pc' := 59) dd_72_56 rfl rfl k1 k2

theorem sg_72_59 {sh : am_Sh} {C : Nat → am_M → List am_V → am_O → Prop} {P : am_S ⊕ am_O → Prop} {M : am_M} {x1 : Int32} {x2 : Int32} {x3 : Int32} {x4 : Int32} {x5 : Int32} {x6 : Int32} {x7 : Int32} {u8 : Option am_V} {u9 : Option am_V} {j1 : Nat} (hx_j1 : x1 = nI j1) (hl_j1 : j1 < 4) (k1 : ¬ (M (21, 5, 0) j1) = 2 → am_ev sh C 72 (82, [some (am_R (some (20, 0, 0))), some (am_I x1), some (am_I x2), some (am_I x3), some (am_I x4), some (am_I x5), some (am_I x6), some (am_I x7), u8, u9], [], M, 0) P) (k2 : (M (21, 5, 0) j1) = 2 → am_ev sh C 72 (69, [some (am_R (some (20, 0, 0))), some (am_I x1), some (am_I x2), some (am_I x3), some (am_I x4), some (am_I x5), some (am_I x6), some (am_I x7), u8, u9], [], M, 0) P) : am_ev sh C 72 (59, [some (am_R (some (20, 0, 0))), some (am_I x1), some (am_I x2), some (am_I x3), some (am_I x4), some (am_I x5), some (am_I x6), some (am_I x7), u8, u9], [], M, 0) P := by
  refine am_e_aload_n dd_72_59 rfl rfl ?_
  refine am_e_gf (ci := 3) (j := 5) (v := am_R (some (21, 5, 0))) dd_72_60 (by decide +kernel) rfl rfl rfl ?_
  refine am_e_iload_n dd_72_63 rfl rfl ?_
  refine am_a_iald dd_72_64 rfl hx_j1 hl_j1 (by decide) rfl ?_
  refine am_e_iconst (v := 2) dd_72_65 rfl rfl ?_
  exact am_a_icmp_ne (tgt := 82) (pc' := 69) dd_72_66 rfl rfl k1 k2

theorem sg_72_69 {sh : am_Sh} {C : Nat → am_M → List am_V → am_O → Prop} {P : am_S ⊕ am_O → Prop} {M : am_M} {x1 : Int32} {x2 : Int32} {x3 : Int32} {x4 : Int32} {x5 : Int32} {x6 : Int32} {x7 : Int32} {u8 : Option am_V} {u9 : Option am_V} (hd1 : ¬ x4 = 0) (k : am_ev sh C 72 (86, [some (am_R (some (20, 0, 0))), some (am_I x1), some (am_I x2), some (am_I x3), some (am_I x4), some (am_I x5), some (am_I x6), some (am_I x7), u8, u9], [am_I (x3 + ((x5 + x7) - (x5 + x7) / x4 * x4))], M, 0) P) : am_ev sh C 72 (69, [some (am_R (some (20, 0, 0))), some (am_I x1), some (am_I x2), some (am_I x3), some (am_I x4), some (am_I x5), some (am_I x6), some (am_I x7), u8, u9], [], M, 0) P := by
  refine am_e_iload_n dd_72_69 rfl rfl ?_
  refine am_e_iload dd_72_70 rfl rfl ?_
  refine am_e_iload dd_72_72 rfl rfl ?_
  refine am_e_iadd dd_72_74 rfl ?_
  refine am_e_iload dd_72_75 rfl rfl ?_
  refine am_e_irem dd_72_77 hd1 rfl ?_
  refine am_e_iadd dd_72_78 rfl ?_
  refine am_e_goto (pc' := 86) dd_72_79 rfl ?_
  exact k

theorem sg_72_82 {sh : am_Sh} {C : Nat → am_M → List am_V → am_O → Prop} {P : am_S ⊕ am_O → Prop} {M : am_M} {x1 : Int32} {x2 : Int32} {x3 : Int32} {x4 : Int32} {x5 : Int32} {x6 : Int32} {x7 : Int32} {u8 : Option am_V} {u9 : Option am_V}  (k : am_ev sh C 72 (86, [some (am_R (some (20, 0, 0))), some (am_I x1), some (am_I x2), some (am_I x3), some (am_I x4), some (am_I x5), some (am_I x6), some (am_I x7), u8, u9], [am_I (x3 + x7)], M, 0) P) : am_ev sh C 72 (82, [some (am_R (some (20, 0, 0))), some (am_I x1), some (am_I x2), some (am_I x3), some (am_I x4), some (am_I x5), some (am_I x6), some (am_I x7), u8, u9], [], M, 0) P := by
  refine am_e_iload_n dd_72_82 rfl rfl ?_
  refine am_e_iload dd_72_83 rfl rfl ?_
  refine am_e_iadd dd_72_85 rfl ?_
  exact k

theorem sg_72_86 {sh : am_Sh} {C : Nat → am_M → List am_V → am_O → Prop} {P : am_S ⊕ am_O → Prop} {M : am_M} {x1 : Int32} {x2 : Int32} {x3 : Int32} {x4 : Int32} {x5 : Int32} {x6 : Int32} {x7 : Int32} {u8 : Option am_V} {u9 : Option am_V} {xs0 : Int32} {j1 : Nat} (hx_j1 : x1 = nI j1) (hl_j1 : j1 < 4) (k1 : ¬ (M (21, 5, 0) j1) = 2 → am_ev sh C 72 (116, [some (am_R (some (20, 0, 0))), some (am_I x1), some (am_I x2), some (am_I x3), some (am_I x4), some (am_I x5), some (am_I x6), some (am_I x7), some (am_I xs0), u9], [], M, 0) P) (k2 : (M (21, 5, 0) j1) = 2 → am_ev sh C 72 (98, [some (am_R (some (20, 0, 0))), some (am_I x1), some (am_I x2), some (am_I x3), some (am_I x4), some (am_I x5), some (am_I x6), some (am_I x7), some (am_I xs0), u9], [], M, 0) P) : am_ev sh C 72 (86, [some (am_R (some (20, 0, 0))), some (am_I x1), some (am_I x2), some (am_I x3), some (am_I x4), some (am_I x5), some (am_I x6), some (am_I x7), u8, u9], [am_I xs0], M, 0) P := by
  refine am_e_istore dd_72_86 (Nat.le_of_ble_eq_true rfl) rfl rfl ?_
  refine am_e_aload_n dd_72_88 rfl rfl ?_
  refine am_e_gf (ci := 3) (j := 5) (v := am_R (some (21, 5, 0))) dd_72_89 (by decide +kernel) rfl rfl rfl ?_
  refine am_e_iload_n dd_72_92 rfl rfl ?_
  refine am_a_iald dd_72_93 rfl hx_j1 hl_j1 (by decide) rfl ?_
  refine am_e_iconst (v := 2) dd_72_94 rfl rfl ?_
  exact am_a_icmp_ne (tgt := 116) (pc' := 98) dd_72_95 rfl rfl k1 k2

theorem sg_72_98 {sh : am_Sh} {C : Nat → am_M → List am_V → am_O → Prop} {P : am_S ⊕ am_O → Prop} {M : am_M} {x1 : Int32} {x2 : Int32} {x3 : Int32} {x4 : Int32} {x5 : Int32} {x6 : Int32} {x7 : Int32} {x8 : Int32} {u9 : Option am_V} {j1 : Nat} (hx_j1 : x8 = nI j1) (hl_j1 : j1 < 256) (k1 : ¬ (M (21, 15, 0) j1) = 0 → am_ev sh C 72 (112, [some (am_R (some (20, 0, 0))), some (am_I x1), some (am_I x2), some (am_I x3), some (am_I x4), some (am_I x5), some (am_I x6), some (am_I x7), some (am_I x8), u9], [], M, 0) P) (k2 : (M (21, 15, 0) j1) = 0 → am_ev sh C 72 (108, [some (am_R (some (20, 0, 0))), some (am_I x1), some (am_I x2), some (am_I x3), some (am_I x4), some (am_I x5), some (am_I x6), some (am_I x7), some (am_I x8), u9], [], M, 0) P) : am_ev sh C 72 (98, [some (am_R (some (20, 0, 0))), some (am_I x1), some (am_I x2), some (am_I x3), some (am_I x4), some (am_I x5), some (am_I x6), some (am_I x7), some (am_I x8), u9], [], M, 0) P := by
  refine am_e_aload_n dd_72_98 rfl rfl ?_
  refine am_e_gf (ci := 3) (j := 15) (v := am_R (some (21, 15, 0))) dd_72_99 (by decide +kernel) rfl rfl rfl ?_
  refine am_e_iload dd_72_102 rfl rfl ?_
  refine am_a_zald dd_72_104 rfl hx_j1 hl_j1 (by decide) rfl ?_
  exact am_a_if_ne (tgt := 112) (pc' := 108) dd_72_105 rfl rfl k1 k2

theorem sg_72_108 {sh : am_Sh} {C : Nat → am_M → List am_V → am_O → Prop} {P : am_S ⊕ am_O → Prop} {M : am_M} {x1 : Int32} {x2 : Int32} {x3 : Int32} {x4 : Int32} {x5 : Int32} {x6 : Int32} {x7 : Int32} {x8 : Int32} {u9 : Option am_V}  (k : am_ev sh C 72 (125, [some (am_R (some (20, 0, 0))), some (am_I x1), some (am_I x2), some (am_I x3), some (am_I x4), some (am_I x5), some (am_I x6), some (am_I x7), some (am_I x8), u9], [am_I 1], M, 0) P) : am_ev sh C 72 (108, [some (am_R (some (20, 0, 0))), some (am_I x1), some (am_I x2), some (am_I x3), some (am_I x4), some (am_I x5), some (am_I x6), some (am_I x7), some (am_I x8), u9], [], M, 0) P := by
  refine am_e_iconst (v := 1) dd_72_108 rfl rfl ?_
  refine am_e_goto (pc' := 125) dd_72_109 rfl ?_
  exact k

theorem sg_72_112 {sh : am_Sh} {C : Nat → am_M → List am_V → am_O → Prop} {P : am_S ⊕ am_O → Prop} {M : am_M} {x1 : Int32} {x2 : Int32} {x3 : Int32} {x4 : Int32} {x5 : Int32} {x6 : Int32} {x7 : Int32} {x8 : Int32} {u9 : Option am_V}  (k : am_ev sh C 72 (125, [some (am_R (some (20, 0, 0))), some (am_I x1), some (am_I x2), some (am_I x3), some (am_I x4), some (am_I x5), some (am_I x6), some (am_I x7), some (am_I x8), u9], [am_I 0], M, 0) P) : am_ev sh C 72 (112, [some (am_R (some (20, 0, 0))), some (am_I x1), some (am_I x2), some (am_I x3), some (am_I x4), some (am_I x5), some (am_I x6), some (am_I x7), some (am_I x8), u9], [], M, 0) P := by
  refine am_e_iconst (v := 0) dd_72_112 rfl rfl ?_
  refine am_e_goto (pc' := 125) dd_72_113 rfl ?_
  exact k

theorem sg_72_116 {sh : am_Sh} {C : Nat → am_M → List am_V → am_O → Prop} {P : am_S ⊕ am_O → Prop} {M : am_M} {x1 : Int32} {x2 : Int32} {x3 : Int32} {x4 : Int32} {x5 : Int32} {x6 : Int32} {x7 : Int32} {x8 : Int32} {u9 : Option am_V} {M1 : am_M} {r1 : Int32} (hc1 : C 73 M [am_R (some (20, 0, 0)), am_I x1, am_I x8, am_I x6] (M1, Sum.inl (some (am_I r1)))) (k : am_ev sh C 72 (125, [some (am_R (some (20, 0, 0))), some (am_I x1), some (am_I x2), some (am_I x3), some (am_I x4), some (am_I x5), some (am_I x6), some (am_I x7), some (am_I x8), u9], [am_I r1], M1, 0) P) : am_ev sh C 72 (116, [some (am_R (some (20, 0, 0))), some (am_I x1), some (am_I x2), some (am_I x3), some (am_I x4), some (am_I x5), some (am_I x6), some (am_I x7), some (am_I x8), u9], [], M, 0) P := by
  refine am_e_aload_n dd_72_116 rfl rfl ?_
  refine am_e_iload_n dd_72_117 rfl rfl ?_
  refine am_e_iload dd_72_118 rfl rfl ?_
  refine am_e_iload dd_72_120 rfl rfl ?_
  refine am_e_callV (c := 73) (k := 4) (as := [am_R (some (20, 0, 0)), am_I x1, am_I x8, am_I x6]) (S' := [am_I r1]) (v := some (am_I r1)) (M' := M1) (n' := 0) dd_72_122 (by decide +kernel) ⟨Nat.le_of_ble_eq_true rfl, Nat.le_of_ble_eq_true rfl, by decide +kernel, (Or.inr (am_rcv_of rfl))⟩ rfl rfl (by decide +kernel) hc1 rfl ?_
  exact k

theorem sg_72_125 {sh : am_Sh} {C : Nat → am_M → List am_V → am_O → Prop} {P : am_S ⊕ am_O → Prop} {M : am_M} {x1 : Int32} {x2 : Int32} {x3 : Int32} {x4 : Int32} {x5 : Int32} {x6 : Int32} {x7 : Int32} {x8 : Int32} {u9 : Option am_V} {xs0 : Int32}  (k1 : xs0 = 0 → am_ev sh C 72 (137, [some (am_R (some (20, 0, 0))), some (am_I x1), some (am_I x2), some (am_I x3), some (am_I x4), some (am_I x5), some (am_I x6), some (am_I x7), some (am_I x8), some (am_I xs0)], [], M, 0) P) (k2 : ¬ xs0 = 0 → am_ev sh C 72 (132, [some (am_R (some (20, 0, 0))), some (am_I x1), some (am_I x2), some (am_I x3), some (am_I x4), some (am_I x5), some (am_I x6), some (am_I x7), some (am_I x8), some (am_I xs0)], [], M, 0) P) : am_ev sh C 72 (125, [some (am_R (some (20, 0, 0))), some (am_I x1), some (am_I x2), some (am_I x3), some (am_I x4), some (am_I x5), some (am_I x6), some (am_I x7), some (am_I x8), u9], [am_I xs0], M, 0) P := by
  refine am_e_istore dd_72_125 (Nat.le_of_ble_eq_true rfl) rfl rfl ?_
  refine am_e_iload dd_72_127 rfl rfl ?_
  exact am_a_if_eq (tgt := 137) (pc' := 132) dd_72_129 rfl rfl k1 k2

theorem sg_72_132 {sh : am_Sh} {C : Nat → am_M → List am_V → am_O → Prop} {P : am_S ⊕ am_O → Prop} {M : am_M} {x1 : Int32} {x2 : Int32} {x3 : Int32} {x4 : Int32} {x5 : Int32} {x6 : Int32} {x7 : Int32} {x8 : Int32} {x9 : Int32}  (k : am_ev sh C 72 (139, [some (am_R (some (20, 0, 0))), some (am_I x1), some (am_I x2), some (am_I x3), some (am_I x4), some (am_I x5), some (am_I x6), some (am_I x7), some (am_I x8), some (am_I x9)], [am_I x8], M, 0) P) : am_ev sh C 72 (132, [some (am_R (some (20, 0, 0))), some (am_I x1), some (am_I x2), some (am_I x3), some (am_I x4), some (am_I x5), some (am_I x6), some (am_I x7), some (am_I x8), some (am_I x9)], [], M, 0) P := by
  refine am_e_iload dd_72_132 rfl rfl ?_
  refine am_e_goto (pc' := 139) dd_72_134 rfl ?_
  exact k

theorem sg_72_137 {sh : am_Sh} {C : Nat → am_M → List am_V → am_O → Prop} {P : am_S ⊕ am_O → Prop} {M : am_M} {x1 : Int32} {x2 : Int32} {x3 : Int32} {x4 : Int32} {x5 : Int32} {x6 : Int32} {x7 : Int32} {x8 : Int32} {x9 : Int32}  (k : am_ev sh C 72 (139, [some (am_R (some (20, 0, 0))), some (am_I x1), some (am_I x2), some (am_I x3), some (am_I x4), some (am_I x5), some (am_I x6), some (am_I x7), some (am_I x8), some (am_I x9)], [am_I x6], M, 0) P) : am_ev sh C 72 (137, [some (am_R (some (20, 0, 0))), some (am_I x1), some (am_I x2), some (am_I x3), some (am_I x4), some (am_I x5), some (am_I x6), some (am_I x7), some (am_I x8), some (am_I x9)], [], M, 0) P := by
  refine am_e_iload dd_72_137 rfl rfl ?_
  exact k

theorem sg_72_139 {sh : am_Sh} {C : Nat → am_M → List am_V → am_O → Prop} {P : am_S ⊕ am_O → Prop} {M : am_M} {x1 : Int32} {x2 : Int32} {x3 : Int32} {x4 : Int32} {x5 : Int32} {x6 : Int32} {x7 : Int32} {x8 : Int32} {x9 : Int32} {xs0 : Int32}  (k : am_ev sh C 72 (54, [some (am_R (some (20, 0, 0))), some (am_I x1), some (am_I x2), some (am_I x3), some (am_I x4), some (am_I x5), some (am_I xs0), some (am_I (x7 + (-1))), some (am_I x8), some (am_I x9)], [], M, 0) P) : am_ev sh C 72 (139, [some (am_R (some (20, 0, 0))), some (am_I x1), some (am_I x2), some (am_I x3), some (am_I x4), some (am_I x5), some (am_I x6), some (am_I x7), some (am_I x8), some (am_I x9)], [am_I xs0], M, 0) P := by
  refine am_e_istore dd_72_139 (Nat.le_of_ble_eq_true rfl) rfl rfl ?_
  refine am_e_iinc (v := x7 + (-1)) dd_72_141 rfl rfl rfl rfl ?_
  refine am_e_goto (pc' := 54) dd_72_144 rfl ?_
  exact k

theorem sg_72_147 {sh : am_Sh} {C : Nat → am_M → List am_V → am_O → Prop} {P : am_S ⊕ am_O → Prop} {M : am_M} {x1 : Int32} {x2 : Int32} {x3 : Int32} {x4 : Int32} {x5 : Int32} {x6 : Int32} {x7 : Int32} {u8 : Option am_V} {u9 : Option am_V}  (k : P (Sum.inr (M, Sum.inl (some (am_I x6))))) : am_ev sh C 72 (147, [some (am_R (some (20, 0, 0))), some (am_I x1), some (am_I x2), some (am_I x3), some (am_I x4), some (am_I x5), some (am_I x6), some (am_I x7), u8, u9], [], M, 0) P := by
  refine am_e_iload dd_72_147 rfl rfl ?_
  exact am_e_iret dd_72_149 (by decide +kernel) (Or.inl rfl) k

