-- stretches between which a tier is made
section XH
variable {sh : am_Sh} {C : Nat → am_M → List am_V → am_O → Prop} {P : am_S ⊕ am_O → Prop} {M : am_M} {x1 x2 x3 x4 x5 : Int32}
theorem dd_25_92 : decode (am_b 25) 92 = .ok (.aload_n 0, 1) := by decide +kernel
theorem dd_25_93 : decode (am_b 25) 93 = .ok (.getfield 15, 3) := by decide +kernel
theorem dd_25_96 : decode (am_b 25) 96 = .ok (.aload_n 0, 1) := by decide +kernel
theorem dd_25_97 : decode (am_b 25) 97 = .ok (.getfield 38, 3) := by decide +kernel
theorem dd_25_100 : decode (am_b 25) 100 = .ok (.new 13, 3) := by decide +kernel
theorem dd_25_103 : decode (am_b 25) 103 = .ok (.dup, 1) := by decide +kernel
theorem dd_25_104 : decode (am_b 25) 104 = .ok (.iload_n 1, 1) := by decide +kernel
theorem dd_25_105 : decode (am_b 25) 105 = .ok (.iload_n 2, 1) := by decide +kernel
theorem dd_25_106 : decode (am_b 25) 106 = .ok (.iload_n 3, 1) := by decide +kernel
theorem dd_25_107 : decode (am_b 25) 107 = .ok (.iload 4, 2) := by decide +kernel
theorem dd_25_109 : decode (am_b 25) 109 = .ok (.iload 5, 2) := by decide +kernel
theorem dd_25_111 : decode (am_b 25) 111 = .ok (.invokespecial 56, 3) := by decide +kernel
theorem dd_25_114 : decode (am_b 25) 114 = .ok (.aastore, 1) := by decide +kernel
theorem dd_25_115 : decode (am_b 25) 115 = .ok (.aload_n 0, 1) := by decide +kernel
theorem dd_25_116 : decode (am_b 25) 116 = .ok (.dup, 1) := by decide +kernel
theorem dd_25_117 : decode (am_b 25) 117 = .ok (.getfield 38, 3) := by decide +kernel
theorem dd_25_120 : decode (am_b 25) 120 = .ok (.iconst 1, 1) := by decide +kernel
theorem dd_25_121 : decode (am_b 25) 121 = .ok (.iadd, 1) := by decide +kernel
theorem dd_25_122 : decode (am_b 25) 122 = .ok (.putfield 38, 3) := by decide +kernel
theorem dd_25_125 : decode (am_b 25) 125 = .ok (.aload_n 0, 1) := by decide +kernel
theorem dd_25_126 : decode (am_b 25) 126 = .ok (.getfield 38, 3) := by decide +kernel
theorem dd_25_129 : decode (am_b 25) 129 = .ok (.iconst 1, 1) := by decide +kernel
theorem dd_25_130 : decode (am_b 25) 130 = .ok (.isub, 1) := by decide +kernel
theorem dd_25_131 : decode (am_b 25) 131 = .ok (.ireturn, 1) := by decide +kernel
theorem sg_25_92 (k : am_ev sh C 25 (100, [some clk, some (am_I x1), some (am_I x2), some (am_I x3), some (am_I x4), some (am_I x5)], [am_I (M (0, 0, 0) 4), am_R (some (2, 0, 0))], M, 0) P) : am_ev sh C 25 (92, [some clk, some (am_I x1), some (am_I x2), some (am_I x3), some (am_I x4), some (am_I x5)], [], M, 0) P := by
  refine am_e_aload_n dd_25_92 rfl rfl ?_
  refine am_e_gf (ci := 2) (j := 1) (v := am_R (some (2, 0, 0))) dd_25_93 (by decide +kernel) rfl rfl rfl ?_
  refine am_e_aload_n dd_25_96 rfl rfl ?_
  refine am_e_gf (ci := 2) (j := 4) (v := am_I (M (0, 0, 0) 4)) dd_25_97 (by decide +kernel) rfl rfl rfl ?_
  exact k
theorem sg_25_115 (k : P (Sum.inr (am_up M (0, 0, 0) 4 (M (0, 0, 0) 4 + 1), Sum.inl (some (am_I (am_up M (0, 0, 0) 4 (M (0, 0, 0) 4 + 1) (0, 0, 0) 4 - 1)))))) : am_ev sh C 25 (115, [some clk, some (am_I x1), some (am_I x2), some (am_I x3), some (am_I x4), some (am_I x5)], [], M, 0) P := by
  refine am_e_aload_n dd_25_115 rfl rfl ?_
  refine am_e_dup dd_25_116 rfl rfl ?_
  refine am_e_gf (ci := 2) (j := 4) (v := am_I (M (0, 0, 0) 4)) dd_25_117 (by decide +kernel) rfl rfl rfl ?_
  refine am_e_iconst (v := 1) dd_25_120 rfl rfl ?_
  refine am_e_iadd dd_25_121 rfl ?_
  refine am_e_pf (ci := 2) (j := 4) dd_25_122 (by decide +kernel) rfl rfl (Or.inl rfl) rfl ?_
  refine am_e_aload_n dd_25_125 rfl rfl ?_
  refine am_e_gf (ci := 2) (j := 4) (v := am_I (am_up M (0, 0, 0) 4 (M (0, 0, 0) 4 + 1) (0, 0, 0) 4)) dd_25_126 (by decide +kernel) rfl rfl rfl ?_
  refine am_e_iconst (v := 1) dd_25_129 rfl rfl ?_
  refine am_e_isub dd_25_130 rfl ?_
  exact am_e_iret dd_25_131 (by decide +kernel) (Or.inl rfl) k
theorem sg_107_p {u7 : Option am_V} (k : am_ev sh C 107 (11, [some clk, some (am_I x1), some (am_I x2), some (am_I x3), some (am_I x4), some (am_I x5), some outk, u7], [am_I x5, am_I x4, am_I x3, am_I x2, am_I x1, clk, am_I 0, outk], M, 0) P) : am_ev sh C 107 (0, [some clk, some (am_I x1), some (am_I x2), some (am_I x3), some (am_I x4), some (am_I x5), some outk, u7], [], M, 0) P := by
  refine am_e_aload dd_107_0 rfl rfl ?_
  refine am_e_iconst (v := 0) dd_107_2 rfl rfl ?_
  refine am_e_aload_n dd_107_3 rfl rfl ?_
  refine am_e_iload_n dd_107_4 rfl rfl ?_
  refine am_e_iload_n dd_107_5 rfl rfl ?_
  refine am_e_iload_n dd_107_6 rfl rfl ?_
  refine am_e_iload dd_107_7 rfl rfl ?_
  refine am_e_iload dd_107_9 rfl rfl ?_
  exact k
theorem sg_107_14 {u7 : Option am_V} {r1 : Int32} (k : P (Sum.inr ((am_up M (30, 0, 0) 0 r1), Sum.inl (some (am_I 0))))) : am_ev sh C 107 (14, [some clk, some (am_I x1), some (am_I x2), some (am_I x3), some (am_I x4), some (am_I x5), some outk, u7], [am_I r1, am_I 0, outk], M, 0) P := by
  refine am_e_i2l dd_107_14 rfl ?_
  refine am_a_last dd_107_15 rfl rfl (by decide) (by decide) rfl ?_
  refine am_e_goto (pc' := 31) dd_107_16 rfl ?_
  refine am_e_iconst (v := 0) dd_107_31 rfl rfl ?_
  exact am_e_iret dd_107_32 (by decide +kernel) (Or.inl rfl) k
theorem sg_121_168 {u5 u6 : Option am_V} {xs1 xs2 xs3 xs4 xs5 : Int32} (k : am_ev sh C 121 (168, [some sck, some clk, some mok, some outk, some (am_I x4), u5, u6], [outk, am_I xs5, am_I xs4, am_I xs3, am_I xs2, am_I xs1, clk], M, 0) P) : am_ev sh C 121 (167, [some sck, some clk, some mok, some outk, some (am_I x4), u5, u6], [am_I xs5, am_I xs4, am_I xs3, am_I xs2, am_I xs1, clk], M, 0) P := by
  refine am_e_aload_n dd_121_167 rfl rfl ?_
  exact k
theorem sg_121_171 {u5 u6 : Option am_V} {r1 : Int32} {j1 j2 j3 j4 j5 : Nat} (hL : sh.2.2.2 < 2147483648) (hx_j1 : x4 + 1 = nI j1) (hl_j1 : j1 < sh.2.2.2) (hx_j2 : x4 + 2 = nI j2) (hl_j2 : j2 < sh.2.2.2) (hx_j3 : x4 + 3 = nI j3) (hl_j3 : j3 < sh.2.2.2) (hx_j4 : x4 + 4 = nI j4) (hl_j4 : j4 < sh.2.2.2) (hx_j5 : x4 + 5 = nI j5) (hl_j5 : j5 < sh.2.2.2) (k1 : (M (31, 0, 0) j5) = 0 → am_ev sh C 121 (211, [some (am_R (some (31, 0, 0))), some (am_R (some (0, 0, 0))), some (am_R (some (20, 0, 0))), some (am_R (some (30, 0, 0))), some (am_I x4), some (am_I r1), u6], [am_I (M (31, 0, 0) j4), am_I (M (31, 0, 0) j3), am_I (M (31, 0, 0) j2), am_I (M (31, 0, 0) j1), am_R (some (20, 0, 0))], M, 1) P) (k2 : ¬ (M (31, 0, 0) j5) = 0 → am_ev sh C 121 (207, [some (am_R (some (31, 0, 0))), some (am_R (some (0, 0, 0))), some (am_R (some (20, 0, 0))), some (am_R (some (30, 0, 0))), some (am_I x4), some (am_I r1), u6], [am_I (M (31, 0, 0) j4), am_I (M (31, 0, 0) j3), am_I (M (31, 0, 0) j2), am_I (M (31, 0, 0) j1), am_R (some (20, 0, 0))], M, 1) P) : am_ev sh C 121 (171, [some sck, some clk, some mok, some outk, some (am_I x4), u5, u6], [am_I r1], M, 1) P := by
  refine am_e_istore dd_121_171 (Nat.le_of_ble_eq_true rfl) rfl rfl ?_
  refine am_e_aload_n dd_121_173 rfl rfl ?_
  refine am_e_aload_n dd_121_174 rfl rfl ?_
  refine am_e_iload dd_121_175 rfl rfl ?_
  refine am_e_iconst (v := 1) dd_121_177 rfl rfl ?_
  refine am_e_iadd dd_121_178 rfl ?_
  refine am_a_sald dd_121_179 rfl hx_j1 hl_j1 hL rfl ?_
  refine am_e_aload_n dd_121_180 rfl rfl ?_
  refine am_e_iload dd_121_181 rfl rfl ?_
  refine am_e_iconst (v := 2) dd_121_183 rfl rfl ?_
  refine am_e_iadd dd_121_184 rfl ?_
  refine am_a_sald dd_121_185 rfl hx_j2 hl_j2 hL rfl ?_
  refine am_e_aload_n dd_121_186 rfl rfl ?_
  refine am_e_iload dd_121_187 rfl rfl ?_
  refine am_e_iconst (v := 3) dd_121_189 rfl rfl ?_
  refine am_e_iadd dd_121_190 rfl ?_
  refine am_a_sald dd_121_191 rfl hx_j3 hl_j3 hL rfl ?_
  refine am_e_aload_n dd_121_192 rfl rfl ?_
  refine am_e_iload dd_121_193 rfl rfl ?_
  refine am_e_iconst (v := 4) dd_121_195 rfl rfl ?_
  refine am_e_iadd dd_121_196 rfl ?_
  refine am_a_sald dd_121_197 rfl hx_j4 hl_j4 hL rfl ?_
  refine am_e_aload_n dd_121_198 rfl rfl ?_
  refine am_e_iload dd_121_199 rfl rfl ?_
  refine am_e_iconst (v := 5) dd_121_201 rfl rfl ?_
  refine am_e_iadd dd_121_202 rfl ?_
  refine am_a_sald dd_121_203 rfl hx_j5 hl_j5 hL rfl ?_
  exact am_a_if_eq (tgt := 211) (pc' := 207) dd_121_204 rfl rfl k1 k2
end XH
