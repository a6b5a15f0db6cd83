-- the law, its loop (0)
theorem dd_121_23 : decode (am_b 121) 23 = .ok (.iload 4, 2) := by decide +kernel
theorem dd_121_25 : decode (am_b 121) 25 = .ok (.aload_n 0, 1) := by decide +kernel
theorem dd_121_26 : decode (am_b 121) 26 = .ok (.arraylength, 1) := by decide +kernel
theorem dd_121_27 : decode (am_b 121) 27 = .ok (.bipush 6, 2) := by decide +kernel
theorem dd_121_29 : decode (am_b 121) 29 = .ok (.isub, 1) := by decide +kernel
theorem dd_121_30 : decode (am_b 121) 30 = .ok (.if_icmp .gt 1136, 3) := by decide +kernel
theorem dd_121_33 : decode (am_b 121) 33 = .ok (.aload_n 0, 1) := by decide +kernel
theorem dd_121_34 : decode (am_b 121) 34 = .ok (.iload 4, 2) := by decide +kernel
theorem dd_121_36 : decode (am_b 121) 36 = .ok (.iaload, 1) := by decide +kernel
theorem dd_121_37 : decode (am_b 121) 37 = .ok (.bipush 31, 2) := by decide +kernel
theorem dd_121_39 : decode (am_b 121) 39 = .ok (.iand, 1) := by decide +kernel
theorem dd_121_40 : decode (am_b 121) 40 = .ok (.tableswitch 1120 0 17 #[88, 208, 264, 312, 384, 464, 520, 576, 632, 688, 701, 769, 810, 890, 958, 1026, 1094, 1107], 88) := by decide +kernel
theorem dd_121_128 : decode (am_b 121) 128 = .ok (.aload_n 1, 1) := by decide +kernel
theorem dd_121_129 : decode (am_b 121) 129 = .ok (.aload_n 0, 1) := by decide +kernel
theorem dd_121_130 : decode (am_b 121) 130 = .ok (.iload 4, 2) := by decide +kernel
theorem dd_121_132 : decode (am_b 121) 132 = .ok (.iconst 1, 1) := by decide +kernel
theorem dd_121_133 : decode (am_b 121) 133 = .ok (.iadd, 1) := by decide +kernel
theorem dd_121_134 : decode (am_b 121) 134 = .ok (.iaload, 1) := by decide +kernel
theorem dd_121_135 : decode (am_b 121) 135 = .ok (.aload_n 0, 1) := by decide +kernel
theorem dd_121_136 : decode (am_b 121) 136 = .ok (.iload 4, 2) := by decide +kernel
theorem dd_121_138 : decode (am_b 121) 138 = .ok (.iconst 2, 1) := by decide +kernel
theorem dd_121_139 : decode (am_b 121) 139 = .ok (.iadd, 1) := by decide +kernel
theorem dd_121_140 : decode (am_b 121) 140 = .ok (.iaload, 1) := by decide +kernel
theorem dd_121_141 : decode (am_b 121) 141 = .ok (.aload_n 0, 1) := by decide +kernel
theorem dd_121_142 : decode (am_b 121) 142 = .ok (.iload 4, 2) := by decide +kernel
theorem dd_121_144 : decode (am_b 121) 144 = .ok (.iconst 3, 1) := by decide +kernel
theorem dd_121_145 : decode (am_b 121) 145 = .ok (.iadd, 1) := by decide +kernel
theorem dd_121_146 : decode (am_b 121) 146 = .ok (.iaload, 1) := by decide +kernel
theorem dd_121_147 : decode (am_b 121) 147 = .ok (.aload_n 0, 1) := by decide +kernel
theorem dd_121_148 : decode (am_b 121) 148 = .ok (.iload 4, 2) := by decide +kernel
theorem dd_121_150 : decode (am_b 121) 150 = .ok (.iconst 4, 1) := by decide +kernel
theorem dd_121_151 : decode (am_b 121) 151 = .ok (.iadd, 1) := by decide +kernel
theorem dd_121_152 : decode (am_b 121) 152 = .ok (.iaload, 1) := by decide +kernel
theorem dd_121_153 : decode (am_b 121) 153 = .ok (.aload_n 0, 1) := by decide +kernel
theorem dd_121_154 : decode (am_b 121) 154 = .ok (.iload 4, 2) := by decide +kernel
theorem dd_121_156 : decode (am_b 121) 156 = .ok (.iconst 5, 1) := by decide +kernel
theorem dd_121_157 : decode (am_b 121) 157 = .ok (.iadd, 1) := by decide +kernel
theorem dd_121_158 : decode (am_b 121) 158 = .ok (.iaload, 1) := by decide +kernel
theorem dd_121_159 : decode (am_b 121) 159 = .ok (.ifCond .eq 7, 3) := by decide +kernel
theorem dd_121_162 : decode (am_b 121) 162 = .ok (.iconst 1, 1) := by decide +kernel
theorem dd_121_163 : decode (am_b 121) 163 = .ok (.goto 4, 3) := by decide +kernel
theorem dd_121_166 : decode (am_b 121) 166 = .ok (.iconst 0, 1) := by decide +kernel
theorem dd_121_167 : decode (am_b 121) 167 = .ok (.aload_n 3, 1) := by decide +kernel
theorem dd_121_168 : decode (am_b 121) 168 = .ok (.invokestatic 69, 3) := by decide +kernel
theorem dd_121_171 : decode (am_b 121) 171 = .ok (.istore 5, 2) := by decide +kernel
theorem dd_121_173 : decode (am_b 121) 173 = .ok (.aload_n 2, 1) := by decide +kernel
theorem dd_121_174 : decode (am_b 121) 174 = .ok (.aload_n 0, 1) := by decide +kernel
theorem dd_121_175 : decode (am_b 121) 175 = .ok (.iload 4, 2) := by decide +kernel
theorem dd_121_177 : decode (am_b 121) 177 = .ok (.iconst 1, 1) := by decide +kernel
theorem dd_121_178 : decode (am_b 121) 178 = .ok (.iadd, 1) := by decide +kernel
theorem dd_121_179 : decode (am_b 121) 179 = .ok (.iaload, 1) := by decide +kernel
theorem dd_121_180 : decode (am_b 121) 180 = .ok (.aload_n 0, 1) := by decide +kernel
theorem dd_121_181 : decode (am_b 121) 181 = .ok (.iload 4, 2) := by decide +kernel
theorem dd_121_183 : decode (am_b 121) 183 = .ok (.iconst 2, 1) := by decide +kernel
theorem dd_121_184 : decode (am_b 121) 184 = .ok (.iadd, 1) := by decide +kernel
theorem dd_121_185 : decode (am_b 121) 185 = .ok (.iaload, 1) := by decide +kernel
theorem dd_121_186 : decode (am_b 121) 186 = .ok (.aload_n 0, 1) := by decide +kernel
theorem dd_121_187 : decode (am_b 121) 187 = .ok (.iload 4, 2) := by decide +kernel
theorem dd_121_189 : decode (am_b 121) 189 = .ok (.iconst 3, 1) := by decide +kernel
theorem dd_121_190 : decode (am_b 121) 190 = .ok (.iadd, 1) := by decide +kernel
theorem dd_121_191 : decode (am_b 121) 191 = .ok (.iaload, 1) := by decide +kernel
theorem dd_121_192 : decode (am_b 121) 192 = .ok (.aload_n 0, 1) := by decide +kernel
theorem dd_121_193 : decode (am_b 121) 193 = .ok (.iload 4, 2) := by decide +kernel
theorem dd_121_195 : decode (am_b 121) 195 = .ok (.iconst 4, 1) := by decide +kernel
theorem dd_121_196 : decode (am_b 121) 196 = .ok (.iadd, 1) := by decide +kernel
theorem dd_121_197 : decode (am_b 121) 197 = .ok (.iaload, 1) := by decide +kernel
theorem dd_121_198 : decode (am_b 121) 198 = .ok (.aload_n 0, 1) := by decide +kernel
theorem dd_121_199 : decode (am_b 121) 199 = .ok (.iload 4, 2) := by decide +kernel
theorem dd_121_201 : decode (am_b 121) 201 = .ok (.iconst 5, 1) := by decide +kernel
theorem dd_121_202 : decode (am_b 121) 202 = .ok (.iadd, 1) := by decide +kernel
theorem dd_121_203 : decode (am_b 121) 203 = .ok (.iaload, 1) := by decide +kernel
theorem dd_121_204 : decode (am_b 121) 204 = .ok (.ifCond .eq 7, 3) := by decide +kernel
theorem dd_121_207 : decode (am_b 121) 207 = .ok (.iconst 1, 1) := by decide +kernel
theorem dd_121_208 : decode (am_b 121) 208 = .ok (.goto 4, 3) := by decide +kernel
theorem dd_121_211 : decode (am_b 121) 211 = .ok (.iconst 0, 1) := by decide +kernel
theorem dd_121_212 : decode (am_b 121) 212 = .ok (.invokevirtual 74, 3) := by decide +kernel
theorem dd_121_215 : decode (am_b 121) 215 = .ok (.istore 6, 2) := by decide +kernel
theorem dd_121_217 : decode (am_b 121) 217 = .ok (.aload_n 2, 1) := by decide +kernel
theorem dd_121_218 : decode (am_b 121) 218 = .ok (.invokevirtual 75, 3) := by decide +kernel
theorem dd_121_221 : decode (am_b 121) 221 = .ok (.iload 5, 2) := by decide +kernel
theorem dd_121_223 : decode (am_b 121) 223 = .ok (.if_icmp .eq 5, 3) := by decide +kernel
theorem dd_121_226 : decode (am_b 121) 226 = .ok (.iconst 0, 1) := by decide +kernel
theorem dd_121_227 : decode (am_b 121) 227 = .ok (.ireturn, 1) := by decide +kernel
theorem dd_121_228 : decode (am_b 121) 228 = .ok (.iload 5, 2) := by decide +kernel
theorem dd_121_230 : decode (am_b 121) 230 = .ok (.ifCond .ne 15, 3) := by decide +kernel
theorem dd_121_233 : decode (am_b 121) 233 = .ok (.aload_n 3, 1) := by decide +kernel
theorem dd_121_234 : decode (am_b 121) 234 = .ok (.iconst 0, 1) := by decide +kernel
theorem dd_121_235 : decode (am_b 121) 235 = .ok (.laload, 1) := by decide +kernel
theorem dd_121_236 : decode (am_b 121) 236 = .ok (.iload 6, 2) := by decide +kernel
theorem dd_121_238 : decode (am_b 121) 238 = .ok (.i2l, 1) := by decide +kernel
theorem dd_121_239 : decode (am_b 121) 239 = .ok (.lcmp, 1) := by decide +kernel
theorem dd_121_240 : decode (am_b 121) 240 = .ok (.ifCond .eq 5, 3) := by decide +kernel
theorem dd_121_243 : decode (am_b 121) 243 = .ok (.iconst 0, 1) := by decide +kernel
theorem dd_121_244 : decode (am_b 121) 244 = .ok (.ireturn, 1) := by decide +kernel
theorem dd_121_245 : decode (am_b 121) 245 = .ok (.goto 915, 3) := by decide +kernel
theorem dd_121_248 : decode (am_b 121) 248 = .ok (.aload_n 1, 1) := by decide +kernel
theorem dd_121_249 : decode (am_b 121) 249 = .ok (.aload_n 0, 1) := by decide +kernel
theorem dd_121_250 : decode (am_b 121) 250 = .ok (.iload 4, 2) := by decide +kernel
theorem dd_121_252 : decode (am_b 121) 252 = .ok (.iconst 1, 1) := by decide +kernel
theorem dd_121_253 : decode (am_b 121) 253 = .ok (.iadd, 1) := by decide +kernel
theorem dd_121_254 : decode (am_b 121) 254 = .ok (.iaload, 1) := by decide +kernel
theorem dd_121_255 : decode (am_b 121) 255 = .ok (.aload_n 3, 1) := by decide +kernel
theorem dd_121_256 : decode (am_b 121) 256 = .ok (.invokestatic 79, 3) := by decide +kernel
theorem dd_121_259 : decode (am_b 121) 259 = .ok (.istore 5, 2) := by decide +kernel
theorem dd_121_261 : decode (am_b 121) 261 = .ok (.aload_n 2, 1) := by decide +kernel
theorem dd_121_262 : decode (am_b 121) 262 = .ok (.aload_n 0, 1) := by decide +kernel
theorem dd_121_263 : decode (am_b 121) 263 = .ok (.iload 4, 2) := by decide +kernel
theorem dd_121_265 : decode (am_b 121) 265 = .ok (.iconst 1, 1) := by decide +kernel
theorem dd_121_266 : decode (am_b 121) 266 = .ok (.iadd, 1) := by decide +kernel
theorem dd_121_267 : decode (am_b 121) 267 = .ok (.iaload, 1) := by decide +kernel
theorem dd_121_268 : decode (am_b 121) 268 = .ok (.invokevirtual 82, 3) := by decide +kernel
theorem dd_121_271 : decode (am_b 121) 271 = .ok (.istore 6, 2) := by decide +kernel
theorem dd_121_273 : decode (am_b 121) 273 = .ok (.aload_n 2, 1) := by decide +kernel
theorem dd_121_274 : decode (am_b 121) 274 = .ok (.invokevirtual 75, 3) := by decide +kernel
theorem dd_121_277 : decode (am_b 121) 277 = .ok (.iload 5, 2) := by decide +kernel
theorem dd_121_279 : decode (am_b 121) 279 = .ok (.if_icmp .eq 5, 3) := by decide +kernel
theorem dd_121_1160 : decode (am_b 121) 1160 = .ok (.iinc 4 6, 3) := by decide +kernel
theorem dd_121_1163 : decode (am_b 121) 1163 = .ok (.goto (-1140), 3) := by decide +kernel
theorem sg_121_23 {sh : am_Sh} {C : Nat → am_M → List am_V → am_O → Prop} {P : am_S ⊕ am_O → Prop} {M : am_M} {x4 : Int32} {u5 : Option am_V} {u6 : Option am_V} (hL : sh.2.2.2 < 2147483648) (k1 : ((nI sh.2.2.2) - 6) < x4 → am_ev sh C 121 (1166, [some (am_R (some (31, 0, 0))), some (am_R (some (0, 0, 0))), some (am_R (some (20, 0, 0))), some (am_R (some (30, 0, 0))), some (am_I x4), u5, u6], [], M, 0) P) (k2 : ¬ ((nI sh.2.2.2) - 6) < x4 → am_ev sh C 121 (33, [some (am_R (some (31, 0, 0))), some (am_R (some (0, 0, 0))), some (am_R (some (20, 0, 0))), some (am_R (some (30, 0, 0))), some (am_I x4), u5, u6], [], M, 0) P) : am_ev sh C 121 (23, [some (am_R (some (31, 0, 0))), some (am_R (some (0, 0, 0))), some (am_R (some (20, 0, 0))), some (am_R (some (30, 0, 0))), some (am_I x4), u5, u6], [], M, 0) P := by
  refine am_e_iload dd_121_23 rfl rfl ?_
  refine am_e_aload_n dd_121_25 rfl rfl ?_
  refine am_e_len dd_121_26 rfl rfl ?_
  refine am_e_bipush (v := 6) dd_121_27 (by decide) rfl ?_
  refine am_e_isub dd_121_29 rfl ?_
  exact am_a_icmp_gt (tgt := 1166) (pc' := 33) dd_121_30 rfl rfl k1 k2

theorem sg_121_33 {sh : am_Sh} {C : Nat → am_M → List am_V → am_O → Prop} {P : am_S ⊕ am_O → Prop} {M : am_M} {x4 : Int32} {u5 : Option am_V} {u6 : Option am_V} {j1 : Nat} (hL : sh.2.2.2 < 2147483648) (hx_j1 : x4 = nI j1) (hl_j1 : j1 < sh.2.2.2) (k : am_ev sh C 121 (40, [some (am_R (some (31, 0, 0))), some (am_R (some (0, 0, 0))), some (am_R (some (20, 0, 0))), some (am_R (some (30, 0, 0))), some (am_I x4), u5, u6], [am_I ((M (31, 0, 0) j1) &&& 31)], M, 0) P) : am_ev sh C 121 (33, [some (am_R (some (31, 0, 0))), some (am_R (some (0, 0, 0))), some (am_R (some (20, 0, 0))), some (am_R (some (30, 0, 0))), some (am_I x4), u5, u6], [], M, 0) P := by
  refine am_e_aload_n dd_121_33 rfl rfl ?_
  refine am_e_iload dd_121_34 rfl rfl ?_
  refine am_a_sald dd_121_36 rfl hx_j1 hl_j1 hL rfl ?_
  refine am_e_bipush (v := 31) dd_121_37 (by decide) rfl ?_
  refine am_e_iand dd_121_39 rfl ?_
  exact k

theorem sg_121_128 {sh : am_Sh} {C : Nat → am_M → List am_V → am_O → Prop} {P : am_S ⊕ am_O → Prop} {M : am_M} {x4 : Int32} {u5 : Option am_V} {u6 : Option am_V} {j1 : Nat} {j2 : Nat} {j3 : Nat} {j4 : Nat} {j5 : Nat} (hL : sh.2.2.2 < 2147483648) (hx_j1 : x4 + 1 = nI j1) (hl_j1 : j1 < sh.2.2.2) (hx_j2 : x4 + 2 = nI j2) (hl_j2 : j2 < sh.2.2.2) (hx_j3 : x4 + 3 = nI j3) (hl_j3 : j3 < sh.2.2.2) (hx_j4 : x4 + 4 = nI j4) (hl_j4 : j4 < sh.2.2.2) (hx_j5 : x4 + 5 = nI j5) (hl_j5 : j5 < sh.2.2.2) (k1 : (M (31, 0, 0) j5) = 0 → am_ev sh C 121 (166, [some (am_R (some (31, 0, 0))), some (am_R (some (0, 0, 0))), some (am_R (some (20, 0, 0))), some (am_R (some (30, 0, 0))), some (am_I x4), u5, u6], [am_I (M (31, 0, 0) j4), am_I (M (31, 0, 0) j3), am_I (M (31, 0, 0) j2), am_I (M (31, 0, 0) j1), am_R (some (0, 0, 0))], M, 0) P) (k2 : ¬ (M (31, 0, 0) j5) = 0 → am_ev sh C 121 (162, [some (am_R (some (31, 0, 0))), some (am_R (some (0, 0, 0))), some (am_R (some (20, 0, 0))), some (am_R (some (30, 0, 0))), some (am_I x4), u5, u6], [am_I (M (31, 0, 0) j4), am_I (M (31, 0, 0) j3), am_I (M (31, 0, 0) j2), am_I (M (31, 0, 0) j1), am_R (some (0, 0, 0))], M, 0) P) : am_ev sh C 121 (128, [some (am_R (some (31, 0, 0))), some (am_R (some (0, 0, 0))), some (am_R (some (20, 0, 0))), some (am_R (some (30, 0, 0))), some (am_I x4), u5, u6], [], M, 0) P := by
  refine am_e_aload_n dd_121_128 rfl rfl ?_
  refine am_e_aload_n dd_121_129 rfl rfl ?_
  refine am_e_iload dd_121_130 rfl rfl ?_
  refine am_e_iconst (v := 1) dd_121_132 rfl rfl ?_
  refine am_e_iadd dd_121_133 rfl ?_
  refine am_a_sald dd_121_134 rfl hx_j1 hl_j1 hL rfl ?_
  refine am_e_aload_n dd_121_135 rfl rfl ?_
  refine am_e_iload dd_121_136 rfl rfl ?_
  refine am_e_iconst (v := 2) dd_121_138 rfl rfl ?_
  refine am_e_iadd dd_121_139 rfl ?_
  refine am_a_sald dd_121_140 rfl hx_j2 hl_j2 hL rfl ?_
  refine am_e_aload_n dd_121_141 rfl rfl ?_
  refine am_e_iload dd_121_142 rfl rfl ?_
  refine am_e_iconst (v := 3) dd_121_144 rfl rfl ?_
  refine am_e_iadd dd_121_145 rfl ?_
  refine am_a_sald dd_121_146 rfl hx_j3 hl_j3 hL rfl ?_
  refine am_e_aload_n dd_121_147 rfl rfl ?_
  refine am_e_iload dd_121_148 rfl rfl ?_
  refine am_e_iconst (v := 4) dd_121_150 rfl rfl ?_
  refine am_e_iadd dd_121_151 rfl ?_
  refine am_a_sald dd_121_152 rfl hx_j4 hl_j4 hL rfl ?_
  refine am_e_aload_n dd_121_153 rfl rfl ?_
  refine am_e_iload dd_121_154 rfl rfl ?_
  refine am_e_iconst (v := 5) dd_121_156 rfl rfl ?_
  refine am_e_iadd dd_121_157 rfl ?_
  refine am_a_sald dd_121_158 rfl hx_j5 hl_j5 hL rfl ?_
  exact am_a_if_eq (tgt := 166) (pc' := 162) dd_121_159 rfl rfl k1 k2

theorem sg_121_162 {sh : am_Sh} {C : Nat → am_M → List am_V → am_O → Prop} {P : am_S ⊕ am_O → Prop} {M : am_M} {x4 : Int32} {u5 : Option am_V} {u6 : Option am_V} {xs1 : Int32} {xs2 : Int32} {xs3 : Int32} {xs4 : Int32}  (k : am_ev sh C 121 (167, [some (am_R (some (31, 0, 0))), some (am_R (some (0, 0, 0))), some (am_R (some (20, 0, 0))), some (am_R (some (30, 0, 0))), some (am_I x4), u5, u6], [am_I 1, am_I xs4, am_I xs3, am_I xs2, am_I xs1, am_R (some (0, 0, 0))], M, 0) P) : am_ev sh C 121 (162, [some (am_R (some (31, 0, 0))), some (am_R (some (0, 0, 0))), some (am_R (some (20, 0, 0))), some (am_R (some (30, 0, 0))), some (am_I x4), u5, u6], [am_I xs4, am_I xs3, am_I xs2, am_I xs1, am_R (some (0, 0, 0))], M, 0) P := by
  refine am_e_iconst (v := 1) dd_121_162 rfl rfl ?_
  refine am_e_goto (pc' := 167) dd_121_163 rfl ?_
  exact k

theorem sg_121_166 {sh : am_Sh} {C : Nat → am_M → List am_V → am_O → Prop} {P : am_S ⊕ am_O → Prop} {M : am_M} {x4 : Int32} {u5 : Option am_V} {u6 : Option am_V} {xs1 : Int32} {xs2 : Int32} {xs3 : Int32} {xs4 : Int32}  (k : am_ev sh C 121 (167, [some (am_R (some (31, 0, 0))), some (am_R (some (0, 0, 0))), some (am_R (some (20, 0, 0))), some (am_R (some (30, 0, 0))), some (am_I x4), u5, u6], [am_I 0, am_I xs4, am_I xs3, am_I xs2, am_I xs1, am_R (some (0, 0, 0))], M, 0) P) : am_ev sh C 121 (166, [some (am_R (some (31, 0, 0))), some (am_R (some (0, 0, 0))), some (am_R (some (20, 0, 0))), some (am_R (some (30, 0, 0))), some (am_I x4), u5, u6], [am_I xs4, am_I xs3, am_I xs2, am_I xs1, am_R (some (0, 0, 0))], M, 0) P := by
  refine am_e_iconst (v := 0) dd_121_166 rfl rfl ?_
  exact k

theorem sg_121_167 {sh : am_Sh} {C : Nat → am_M → List am_V → am_O → Prop} {P : am_S ⊕ am_O → Prop} {M : am_M} {x4 : Int32} {u5 : Option am_V} {u6 : Option am_V} {xs1 : Int32} {xs2 : Int32} {xs3 : Int32} {xs4 : Int32} {xs5 : Int32} {M1 : am_M} {r1 : Int32} {j1 : Nat} {j2 : Nat} {j3 : Nat} {j4 : Nat} {j5 : Nat} (hc1 : C 107 M [am_R (some (0, 0, 0)), am_I xs1, am_I xs2, am_I xs3, am_I xs4, am_I xs5, am_R (some (30, 0, 0))] (M1, Sum.inl (some (am_I r1)))) (hL : sh.2.2.2 < 2147483648) (hx_j1 : x4 + 1 = nI j1) (hl_j1 : j1 < sh.2.2.2) (hx_j2 : x4 + 2 = nI j2) (hl_j2 : j2 < sh.2.2.2) (hx_j3 : x4 + 3 = nI j3) (hl_j3 : j3 < sh.2.2.2) (hx_j4 : x4 + 4 = nI j4) (hl_j4 : j4 < sh.2.2.2) (hx_j5 : x4 + 5 = nI j5) (hl_j5 : j5 < sh.2.2.2) (k1 : (M1 (31, 0, 0) j5) = 0 → am_ev sh C 121 (211, [some (am_R (some (31, 0, 0))), some (am_R (some (0, 0, 0))), some (am_R (some (20, 0, 0))), some (am_R (some (30, 0, 0))), some (am_I x4), some (am_I r1), u6], [am_I (M1 (31, 0, 0) j4), am_I (M1 (31, 0, 0) j3), am_I (M1 (31, 0, 0) j2), am_I (M1 (31, 0, 0) j1), am_R (some (20, 0, 0))], M1, 1) P) (k2 : ¬ (M1 (31, 0, 0) j5) = 0 → am_ev sh C 121 (207, [some (am_R (some (31, 0, 0))), some (am_R (some (0, 0, 0))), some (am_R (some (20, 0, 0))), some (am_R (some (30, 0, 0))), some (am_I x4), some (am_I r1), u6], [am_I (M1 (31, 0, 0) j4), am_I (M1 (31, 0, 0) j3), am_I (M1 (31, 0, 0) j2), am_I (M1 (31, 0, 0) j1), am_R (some (20, 0, 0))], M1, 1) P) : am_ev sh C 121 (167, [some (am_R (some (31, 0, 0))), some (am_R (some (0, 0, 0))), some (am_R (some (20, 0, 0))), some (am_R (some (30, 0, 0))), some (am_I x4), u5, u6], [am_I xs5, am_I xs4, am_I xs3, am_I xs2, am_I xs1, am_R (some (0, 0, 0))], M, 0) P := by
  refine am_e_aload_n dd_121_167 rfl rfl ?_
  refine am_e_callS (c := 107) (k := 7) (as := [am_R (some (0, 0, 0)), am_I xs1, am_I xs2, am_I xs3, am_I xs4, am_I xs5, am_R (some (30, 0, 0))]) (S' := [am_I r1]) (v := some (am_I r1)) (M' := M1) (n' := 1) dd_121_168 (by decide +kernel) (by decide +kernel) ⟨Nat.le_of_ble_eq_true rfl, Nat.le_of_ble_eq_true rfl, by decide +kernel, (Or.inl rfl)⟩ rfl rfl (by decide +kernel) hc1 rfl ?_
  refine am_e_istore dd_121_171 (Nat.le_of_ble_eq_true rfl) rfl rfl ?_
  refine am_e_aload_n dd_121_173 rfl rfl ?_
  refine am_e_aload_n dd_121_174 rfl rfl ?_
  refine am_e_iload dd_121_175 rfl rfl ?_
  refine am_e_iconst (v := 1) dd_121_177 rfl rfl ?_
  refine am_e_iadd dd_121_178 rfl ?_
  refine am_a_sald dd_121_179 rfl hx_j1 hl_j1 hL rfl ?_
  refine am_e_aload_n dd_121_180 rfl rfl ?_
  refine am_e_iload dd_121_181 rfl rfl ?_
  refine am_e_iconst (v := 2) dd_121_183 rfl rfl ?_
  refine am_e_iadd dd_121_184 rfl ?_
  refine am_a_sald dd_121_185 rfl hx_j2 hl_j2 hL rfl ?_
  refine am_e_aload_n dd_121_186 rfl rfl ?_
  refine am_e_iload dd_121_187 rfl rfl ?_
  refine am_e_iconst (v := 3) dd_121_189 rfl rfl ?_
  refine am_e_iadd dd_121_190 rfl ?_
  refine am_a_sald dd_121_191 rfl hx_j3 hl_j3 hL rfl ?_
  refine am_e_aload_n dd_121_192 rfl rfl ?_
  refine am_e_iload dd_121_193 rfl rfl ?_
  refine am_e_iconst (v := 4) dd_121_195 rfl rfl ?_
  refine am_e_iadd dd_121_196 rfl ?_
  refine am_a_sald dd_121_197 rfl hx_j4 hl_j4 hL rfl ?_
  refine am_e_aload_n dd_121_198 rfl rfl ?_
  refine am_e_iload dd_121_199 rfl rfl ?_
  refine am_e_iconst (v := 5) dd_121_201 rfl rfl ?_
  refine am_e_iadd dd_121_202 rfl ?_
  refine am_a_sald dd_121_203 rfl hx_j5 hl_j5 hL rfl ?_
  exact am_a_if_eq (tgt := 211) (pc' := 207) dd_121_204 rfl rfl k1 k2

theorem sg_121_207 {sh : am_Sh} {C : Nat → am_M → List am_V → am_O → Prop} {P : am_S ⊕ am_O → Prop} {M : am_M} {x4 : Int32} {x5 : Int32} {u6 : Option am_V} {xs1 : Int32} {xs2 : Int32} {xs3 : Int32} {xs4 : Int32}  (k : am_ev sh C 121 (212, [some (am_R (some (31, 0, 0))), some (am_R (some (0, 0, 0))), some (am_R (some (20, 0, 0))), some (am_R (some (30, 0, 0))), some (am_I x4), some (am_I x5), u6], [am_I 1, am_I xs4, am_I xs3, am_I xs2, am_I xs1, am_R (some (20, 0, 0))], M, 1) P) : am_ev sh C 121 (207, [some (am_R (some (31, 0, 0))), some (am_R (some (0, 0, 0))), some (am_R (some (20, 0, 0))), some (am_R (some (30, 0, 0))), some (am_I x4), some (am_I x5), u6], [am_I xs4, am_I xs3, am_I xs2, am_I xs1, am_R (some (20, 0, 0))], M, 1) P := by
  refine am_e_iconst (v := 1) dd_121_207 rfl rfl ?_
  refine am_e_goto (pc' := 212) dd_121_208 rfl ?_
  exact k

theorem sg_121_211 {sh : am_Sh} {C : Nat → am_M → List am_V → am_O → Prop} {P : am_S ⊕ am_O → Prop} {M : am_M} {x4 : Int32} {x5 : Int32} {u6 : Option am_V} {xs1 : Int32} {xs2 : Int32} {xs3 : Int32} {xs4 : Int32}  (k : am_ev sh C 121 (212, [some (am_R (some (31, 0, 0))), some (am_R (some (0, 0, 0))), some (am_R (some (20, 0, 0))), some (am_R (some (30, 0, 0))), some (am_I x4), some (am_I x5), u6], [am_I 0, am_I xs4, am_I xs3, am_I xs2, am_I xs1, am_R (some (20, 0, 0))], M, 1) P) : am_ev sh C 121 (211, [some (am_R (some (31, 0, 0))), some (am_R (some (0, 0, 0))), some (am_R (some (20, 0, 0))), some (am_R (some (30, 0, 0))), some (am_I x4), some (am_I x5), u6], [am_I xs4, am_I xs3, am_I xs2, am_I xs1, am_R (some (20, 0, 0))], M, 1) P := by
  refine am_e_iconst (v := 0) dd_121_211 rfl rfl ?_
  exact k

theorem sg_121_212 {sh : am_Sh} {C : Nat → am_M → List am_V → am_O → Prop} {P : am_S ⊕ am_O → Prop} {M : am_M} {x4 : Int32} {x5 : Int32} {u6 : Option am_V} {xs1 : Int32} {xs2 : Int32} {xs3 : Int32} {xs4 : Int32} {xs5 : Int32} {M1 : am_M} {r1 : Int32} {M2 : am_M} {r2 : Int32} (hc1 : C 61 M [am_R (some (20, 0, 0)), am_I xs1, am_I xs2, am_I xs3, am_I xs4, am_I xs5] (M1, Sum.inl (some (am_I r1)))) (hc2 : C 60 M1 [am_R (some (20, 0, 0))] (M2, Sum.inl (some (am_I r2)))) (k1 : r2 = x5 → am_ev sh C 121 (228, [some (am_R (some (31, 0, 0))), some (am_R (some (0, 0, 0))), some (am_R (some (20, 0, 0))), some (am_R (some (30, 0, 0))), some (am_I x4), some (am_I x5), some (am_I r1)], [], M2, 1) P) (k2 : ¬ r2 = x5 → am_ev sh C 121 (226, [some (am_R (some (31, 0, 0))), some (am_R (some (0, 0, 0))), some (am_R (some (20, 0, 0))), some (am_R (some (30, 0, 0))), some (am_I x4), some (am_I x5), some (am_I r1)], [], M2, 1) P) : am_ev sh C 121 (212, [some (am_R (some (31, 0, 0))), some (am_R (some (0, 0, 0))), some (am_R (some (20, 0, 0))), some (am_R (some (30, 0, 0))), some (am_I x4), some (am_I x5), u6], [am_I xs5, am_I xs4, am_I xs3, am_I xs2, am_I xs1, am_R (some (20, 0, 0))], M, 1) P := by
  refine am_e_callV (c := 61) (k := 6) (as := [am_R (some (20, 0, 0)), am_I xs1, am_I xs2, am_I xs3, am_I xs4, am_I xs5]) (S' := [am_I r1]) (v := some (am_I r1)) (M' := M1) (n' := 1) dd_121_212 (by decide +kernel) ⟨Nat.le_of_ble_eq_true rfl, Nat.le_of_ble_eq_true rfl, by decide +kernel, (Or.inr (am_rcv_of rfl))⟩ rfl rfl (by decide +kernel) hc1 rfl ?_
  refine am_e_istore dd_121_215 (Nat.le_of_ble_eq_true rfl) rfl rfl ?_
  refine am_e_aload_n dd_121_217 rfl rfl ?_
  refine am_e_callV (c := 60) (k := 1) (as := [am_R (some (20, 0, 0))]) (S' := [am_I r2]) (v := some (am_I r2)) (M' := M2) (n' := 1) dd_121_218 (by decide +kernel) ⟨Nat.le_of_ble_eq_true rfl, Nat.le_of_ble_eq_true rfl, by decide +kernel, (Or.inr (am_rcv_of rfl))⟩ rfl rfl (by decide +kernel) hc2 rfl ?_
  refine am_e_iload dd_121_221 rfl rfl ?_
  exact am_a_icmp_eq (tgt := 228) (pc' := 226) dd_121_223 rfl rfl k1 k2

theorem sg_121_226 {sh : am_Sh} {C : Nat → am_M → List am_V → am_O → Prop} {P : am_S ⊕ am_O → Prop} {M : am_M} {x4 : Int32} {x5 : Int32} {x6 : Int32}  (k : P (Sum.inr (M, Sum.inl (some (am_I 0))))) : am_ev sh C 121 (226, [some (am_R (some (31, 0, 0))), some (am_R (some (0, 0, 0))), some (am_R (some (20, 0, 0))), some (am_R (some (30, 0, 0))), some (am_I x4), some (am_I x5), some (am_I x6)], [], M, 1) P := by
  refine am_e_iconst (v := 0) dd_121_226 rfl rfl ?_
  exact am_e_iret dd_121_227 (by decide +kernel) (Or.inr ⟨rfl, Or.inl rfl⟩) k

theorem sg_121_228 {sh : am_Sh} {C : Nat → am_M → List am_V → am_O → Prop} {P : am_S ⊕ am_O → Prop} {M : am_M} {x4 : Int32} {x5 : Int32} {x6 : Int32}  (k1 : ¬ x5 = 0 → am_ev sh C 121 (245, [some (am_R (some (31, 0, 0))), some (am_R (some (0, 0, 0))), some (am_R (some (20, 0, 0))), some (am_R (some (30, 0, 0))), some (am_I x4), some (am_I x5), some (am_I x6)], [], M, 1) P) (k2 : x5 = 0 → am_ev sh C 121 (233, [some (am_R (some (31, 0, 0))), some (am_R (some (0, 0, 0))), some (am_R (some (20, 0, 0))), some (am_R (some (30, 0, 0))), some (am_I x4), some (am_I x5), some (am_I x6)], [], M, 1) P) : am_ev sh C 121 (228, [some (am_R (some (31, 0, 0))), some (am_R (some (0, 0, 0))), some (am_R (some (20, 0, 0))), some (am_R (some (30, 0, 0))), some (am_I x4), some (am_I x5), some (am_I x6)], [], M, 1) P := by
  refine am_e_iload dd_121_228 rfl rfl ?_
  exact am_a_if_ne (tgt := 245) (pc' := 233) dd_121_230 rfl rfl k1 k2

theorem sg_121_233 {sh : am_Sh} {C : Nat → am_M → List am_V → am_O → Prop} {P : am_S ⊕ am_O → Prop} {M : am_M} {x4 : Int32} {x5 : Int32} {x6 : Int32}  (k1 : (lg_cmp (M (30, 0, 0) 0).toInt64 (x6).toInt64) = 0 → am_ev sh C 121 (245, [some (am_R (some (31, 0, 0))), some (am_R (some (0, 0, 0))), some (am_R (some (20, 0, 0))), some (am_R (some (30, 0, 0))), some (am_I x4), some (am_I x5), some (am_I x6)], [], M, 1) P) (k2 : ¬ (lg_cmp (M (30, 0, 0) 0).toInt64 (x6).toInt64) = 0 → am_ev sh C 121 (243, [some (am_R (some (31, 0, 0))), some (am_R (some (0, 0, 0))), some (am_R (some (20, 0, 0))), some (am_R (some (30, 0, 0))), some (am_I x4), some (am_I x5), some (am_I x6)], [], M, 1) P) : am_ev sh C 121 (233, [some (am_R (some (31, 0, 0))), some (am_R (some (0, 0, 0))), some (am_R (some (20, 0, 0))), some (am_R (some (30, 0, 0))), some (am_I x4), some (am_I x5), some (am_I x6)], [], M, 1) P := by
  refine am_e_aload_n dd_121_233 rfl rfl ?_
  refine am_e_iconst (v := 0) dd_121_234 rfl rfl ?_
  refine am_a_lald dd_121_235 rfl rfl (by decide) (by decide) rfl ?_
  refine am_e_iload dd_121_236 rfl rfl ?_
  refine am_e_i2l dd_121_238 rfl ?_
  refine am_e_lcmp dd_121_239 rfl ?_
  exact am_a_if_eq (tgt := 245) (pc' := 243) dd_121_240 rfl rfl k1 k2

theorem sg_121_243 {sh : am_Sh} {C : Nat → am_M → List am_V → am_O → Prop} {P : am_S ⊕ am_O → Prop} {M : am_M} {x4 : Int32} {x5 : Int32} {x6 : Int32}  (k : P (Sum.inr (M, Sum.inl (some (am_I 0))))) : am_ev sh C 121 (243, [some (am_R (some (31, 0, 0))), some (am_R (some (0, 0, 0))), some (am_R (some (20, 0, 0))), some (am_R (some (30, 0, 0))), some (am_I x4), some (am_I x5), some (am_I x6)], [], M, 1) P := by
  refine am_e_iconst (v := 0) dd_121_243 rfl rfl ?_
  exact am_e_iret dd_121_244 (by decide +kernel) (Or.inr ⟨rfl, Or.inl rfl⟩) k

theorem sg_121_245 {sh : am_Sh} {C : Nat → am_M → List am_V → am_O → Prop} {P : am_S ⊕ am_O → Prop} {M : am_M} {x4 : Int32} {x5 : Int32} {x6 : Int32}  (k : am_ev sh C 121 (1160, [some (am_R (some (31, 0, 0))), some (am_R (some (0, 0, 0))), some (am_R (some (20, 0, 0))), some (am_R (some (30, 0, 0))), some (am_I x4), some (am_I x5), some (am_I x6)], [], M, 1) P) : am_ev sh C 121 (245, [some (am_R (some (31, 0, 0))), some (am_R (some (0, 0, 0))), some (am_R (some (20, 0, 0))), some (am_R (some (30, 0, 0))), some (am_I x4), some (am_I x5), some (am_I x6)], [], M, 1) P := by
  refine am_e_goto (pc' := 1160) dd_121_245 rfl ?_
  exact k

theorem sg_121_248 {sh : am_Sh} {C : Nat → am_M → List am_V → am_O → Prop} {P : am_S ⊕ am_O → Prop} {M : am_M} {x4 : Int32} {u5 : Option am_V} {u6 : Option am_V} {j1 : Nat} {M1 : am_M} {r1 : Int32} {M2 : am_M} {r2 : Int32} {M3 : am_M} {r3 : Int32} (hL : sh.2.2.2 < 2147483648) (hx_j1 : x4 + 1 = nI j1) (hl_j1 : j1 < sh.2.2.2) (hc1 : C 108 M [am_R (some (0, 0, 0)), am_I (M (31, 0, 0) j1), am_R (some (30, 0, 0))] (M1, Sum.inl (some (am_I r1)))) (hc2 : C 63 M1 [am_R (some (20, 0, 0)), am_I (M1 (31, 0, 0) j1)] (M2, Sum.inl (some (am_I r2)))) (hc3 : C 60 M2 [am_R (some (20, 0, 0))] (M3, Sum.inl (some (am_I r3)))) (k1 : r3 = r1 → am_ev sh C 121 (284, [some (am_R (some (31, 0, 0))), some (am_R (some (0, 0, 0))), some (am_R (some (20, 0, 0))), some (am_R (some (30, 0, 0))), some (am_I x4), some (am_I r1), some (am_I r2)], [], M3, 1) P) (k2 : ¬ r3 = r1 → am_ev sh C 121 (282, [some (am_R (some (31, 0, 0))), some (am_R (some (0, 0, 0))), some (am_R (some (20, 0, 0))), some (am_R (some (30, 0, 0))), some (am_I x4), some (am_I r1), some (am_I r2)], [], M3, 1) P) : am_ev sh C 121 (248, [some (am_R (some (31, 0, 0))), some (am_R (some (0, 0, 0))), some (am_R (some (20, 0, 0))), some (am_R (some (30, 0, 0))), some (am_I x4), u5, u6], [], M, 0) P := by
  refine am_e_aload_n dd_121_248 rfl rfl ?_
  refine am_e_aload_n dd_121_249 rfl rfl ?_
  refine am_e_iload dd_121_250 rfl rfl ?_
  refine am_e_iconst (v := 1) dd_121_252 rfl rfl ?_
  refine am_e_iadd dd_121_253 rfl ?_
  refine am_a_sald dd_121_254 rfl hx_j1 hl_j1 hL rfl ?_
  refine am_e_aload_n dd_121_255 rfl rfl ?_
  refine am_e_callS (c := 108) (k := 3) (as := [am_R (some (0, 0, 0)), am_I (M (31, 0, 0) j1), am_R (some (30, 0, 0))]) (S' := [am_I r1]) (v := some (am_I r1)) (M' := M1) (n' := 1) dd_121_256 (by decide +kernel) (by decide +kernel) ⟨Nat.le_of_ble_eq_true rfl, Nat.le_of_ble_eq_true rfl, by decide +kernel, (Or.inl rfl)⟩ rfl rfl (by decide +kernel) hc1 rfl ?_
  refine am_e_istore dd_121_259 (Nat.le_of_ble_eq_true rfl) rfl rfl ?_
  refine am_e_aload_n dd_121_261 rfl rfl ?_
  refine am_e_aload_n dd_121_262 rfl rfl ?_
  refine am_e_iload dd_121_263 rfl rfl ?_
  refine am_e_iconst (v := 1) dd_121_265 rfl rfl ?_
  refine am_e_iadd dd_121_266 rfl ?_
  refine am_a_sald dd_121_267 rfl hx_j1 hl_j1 hL rfl ?_
  refine am_e_callV (c := 63) (k := 2) (as := [am_R (some (20, 0, 0)), am_I (M1 (31, 0, 0) j1)]) (S' := [am_I r2]) (v := some (am_I r2)) (M' := M2) (n' := 1) dd_121_268 (by decide +kernel) ⟨Nat.le_of_ble_eq_true rfl, Nat.le_of_ble_eq_true rfl, by decide +kernel, (Or.inr (am_rcv_of rfl))⟩ rfl rfl (by decide +kernel) hc2 rfl ?_
  refine am_e_istore dd_121_271 (Nat.le_of_ble_eq_true rfl) rfl rfl ?_
  refine am_e_aload_n dd_121_273 rfl rfl ?_
  refine am_e_callV (c := 60) (k := 1) (as := [am_R (some (20, 0, 0))]) (S' := [am_I r3]) (v := some (am_I r3)) (M' := M3) (n' := 1) dd_121_274 (by decide +kernel) ⟨Nat.le_of_ble_eq_true rfl, Nat.le_of_ble_eq_true rfl, by decide +kernel, (Or.inr (am_rcv_of rfl))⟩ rfl rfl (by decide +kernel) hc3 rfl ?_
  refine am_e_iload dd_121_277 rfl rfl ?_
  exact am_a_icmp_eq (tgt := 284) (pc' := 282) dd_121_279 rfl rfl k1 k2

