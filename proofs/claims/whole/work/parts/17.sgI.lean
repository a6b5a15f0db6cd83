-- 79: CacheLadderModel.stepWrite(I)V
theorem dd_79_0 : decode (am_b 79) 0 = .ok (.aload_n 0, 1) := by decide +kernel
theorem dd_79_1 : decode (am_b 79) 1 = .ok (.getfield 65, 3) := by decide +kernel
theorem dd_79_4 : decode (am_b 79) 4 = .ok (.iload_n 1, 1) := by decide +kernel
theorem dd_79_5 : decode (am_b 79) 5 = .ok (.iaload, 1) := by decide +kernel
theorem dd_79_6 : decode (am_b 79) 6 = .ok (.istore_n 2, 1) := by decide +kernel
theorem dd_79_7 : decode (am_b 79) 7 = .ok (.aload_n 0, 1) := by decide +kernel
theorem dd_79_8 : decode (am_b 79) 8 = .ok (.getfield 68, 3) := by decide +kernel
theorem dd_79_11 : decode (am_b 79) 11 = .ok (.iload_n 1, 1) := by decide +kernel
theorem dd_79_12 : decode (am_b 79) 12 = .ok (.iaload, 1) := by decide +kernel
theorem dd_79_13 : decode (am_b 79) 13 = .ok (.istore_n 3, 1) := by decide +kernel
theorem dd_79_14 : decode (am_b 79) 14 = .ok (.aload_n 0, 1) := by decide +kernel
theorem dd_79_15 : decode (am_b 79) 15 = .ok (.getfield 71, 3) := by decide +kernel
theorem dd_79_18 : decode (am_b 79) 18 = .ok (.iload_n 1, 1) := by decide +kernel
theorem dd_79_19 : decode (am_b 79) 19 = .ok (.iaload, 1) := by decide +kernel
theorem dd_79_20 : decode (am_b 79) 20 = .ok (.istore 4, 2) := by decide +kernel
theorem dd_79_22 : decode (am_b 79) 22 = .ok (.iload_n 2, 1) := by decide +kernel
theorem dd_79_23 : decode (am_b 79) 23 = .ok (.aload_n 0, 1) := by decide +kernel
theorem dd_79_24 : decode (am_b 79) 24 = .ok (.getfield 131, 3) := by decide +kernel
theorem dd_79_27 : decode (am_b 79) 27 = .ok (.if_icmp .ne 11, 3) := by decide +kernel
theorem dd_79_30 : decode (am_b 79) 30 = .ok (.aload_n 0, 1) := by decide +kernel
theorem dd_79_31 : decode (am_b 79) 31 = .ok (.iload_n 3, 1) := by decide +kernel
theorem dd_79_32 : decode (am_b 79) 32 = .ok (.iload 4, 2) := by decide +kernel
theorem dd_79_34 : decode (am_b 79) 34 = .ok (.invokevirtual 157, 3) := by decide +kernel
theorem dd_79_37 : decode (am_b 79) 37 = .ok (.return_, 1) := by decide +kernel
theorem dd_79_38 : decode (am_b 79) 38 = .ok (.aload_n 0, 1) := by decide +kernel
theorem dd_79_39 : decode (am_b 79) 39 = .ok (.getfield 77, 3) := by decide +kernel
theorem dd_79_42 : decode (am_b 79) 42 = .ok (.iload_n 1, 1) := by decide +kernel
theorem dd_79_43 : decode (am_b 79) 43 = .ok (.iaload, 1) := by decide +kernel
theorem dd_79_44 : decode (am_b 79) 44 = .ok (.tableswitch 250 0 4 #[36, 44, 96, 112, 225], 36) := by decide +kernel
theorem dd_79_80 : decode (am_b 79) 80 = .ok (.aload_n 0, 1) := by decide +kernel
theorem dd_79_81 : decode (am_b 79) 81 = .ok (.iload_n 1, 1) := by decide +kernel
theorem dd_79_82 : decode (am_b 79) 82 = .ok (.invokevirtual 160, 3) := by decide +kernel
theorem dd_79_85 : decode (am_b 79) 85 = .ok (.goto 219, 3) := by decide +kernel
theorem dd_79_88 : decode (am_b 79) 88 = .ok (.iload 4, 2) := by decide +kernel
theorem dd_79_90 : decode (am_b 79) 90 = .ok (.bipush 15, 2) := by decide +kernel
theorem dd_79_92 : decode (am_b 79) 92 = .ok (.if_icmp .ne 11, 3) := by decide +kernel
theorem dd_79_95 : decode (am_b 79) 95 = .ok (.aload_n 0, 1) := by decide +kernel
theorem dd_79_96 : decode (am_b 79) 96 = .ok (.iload_n 2, 1) := by decide +kernel
theorem dd_79_97 : decode (am_b 79) 97 = .ok (.invokevirtual 163, 3) := by decide +kernel
theorem dd_79_100 : decode (am_b 79) 100 = .ok (.ifCond .eq 24, 3) := by decide +kernel
theorem dd_79_103 : decode (am_b 79) 103 = .ok (.aload_n 0, 1) := by decide +kernel
theorem dd_79_104 : decode (am_b 79) 104 = .ok (.getfield 77, 3) := by decide +kernel
theorem dd_79_107 : decode (am_b 79) 107 = .ok (.iload_n 1, 1) := by decide +kernel
theorem dd_79_108 : decode (am_b 79) 108 = .ok (.iconst 2, 1) := by decide +kernel
theorem dd_79_109 : decode (am_b 79) 109 = .ok (.iastore, 1) := by decide +kernel
theorem dd_79_110 : decode (am_b 79) 110 = .ok (.aload_n 0, 1) := by decide +kernel
theorem dd_79_111 : decode (am_b 79) 111 = .ok (.iconst 0, 1) := by decide +kernel
theorem dd_79_112 : decode (am_b 79) 112 = .ok (.iload_n 2, 1) := by decide +kernel
theorem dd_79_113 : decode (am_b 79) 113 = .ok (.iconst 1, 1) := by decide +kernel
theorem dd_79_114 : decode (am_b 79) 114 = .ok (.iadd, 1) := by decide +kernel
theorem dd_79_115 : decode (am_b 79) 115 = .ok (.iload_n 3, 1) := by decide +kernel
theorem dd_79_116 : decode (am_b 79) 116 = .ok (.iconst 0, 1) := by decide +kernel
theorem dd_79_117 : decode (am_b 79) 117 = .ok (.iconst 0, 1) := by decide +kernel
theorem dd_79_118 : decode (am_b 79) 118 = .ok (.invokevirtual 124, 3) := by decide +kernel
theorem dd_79_121 : decode (am_b 79) 121 = .ok (.goto 183, 3) := by decide +kernel
theorem dd_79_124 : decode (am_b 79) 124 = .ok (.aload_n 0, 1) := by decide +kernel
theorem dd_79_125 : decode (am_b 79) 125 = .ok (.iload_n 1, 1) := by decide +kernel
theorem dd_79_126 : decode (am_b 79) 126 = .ok (.iconst 0, 1) := by decide +kernel
theorem dd_79_127 : decode (am_b 79) 127 = .ok (.invokevirtual 146, 3) := by decide +kernel
theorem dd_79_130 : decode (am_b 79) 130 = .ok (.aload_n 0, 1) := by decide +kernel
theorem dd_79_131 : decode (am_b 79) 131 = .ok (.getfield 77, 3) := by decide +kernel
theorem dd_79_134 : decode (am_b 79) 134 = .ok (.iload_n 1, 1) := by decide +kernel
theorem dd_79_135 : decode (am_b 79) 135 = .ok (.iconst 3, 1) := by decide +kernel
theorem dd_79_136 : decode (am_b 79) 136 = .ok (.iastore, 1) := by decide +kernel
theorem dd_79_137 : decode (am_b 79) 137 = .ok (.goto 167, 3) := by decide +kernel
theorem dd_79_140 : decode (am_b 79) 140 = .ok (.aload_n 0, 1) := by decide +kernel
theorem dd_79_141 : decode (am_b 79) 141 = .ok (.iload_n 1, 1) := by decide +kernel
theorem dd_79_142 : decode (am_b 79) 142 = .ok (.iconst 1, 1) := by decide +kernel
theorem dd_79_143 : decode (am_b 79) 143 = .ok (.invokevirtual 146, 3) := by decide +kernel
theorem dd_79_146 : decode (am_b 79) 146 = .ok (.aload_n 0, 1) := by decide +kernel
theorem dd_79_147 : decode (am_b 79) 147 = .ok (.getfield 77, 3) := by decide +kernel
theorem dd_79_150 : decode (am_b 79) 150 = .ok (.iload_n 1, 1) := by decide +kernel
theorem dd_79_151 : decode (am_b 79) 151 = .ok (.iconst 3, 1) := by decide +kernel
theorem dd_79_152 : decode (am_b 79) 152 = .ok (.iastore, 1) := by decide +kernel
theorem dd_79_153 : decode (am_b 79) 153 = .ok (.goto 151, 3) := by decide +kernel
theorem dd_79_156 : decode (am_b 79) 156 = .ok (.iconst 0, 1) := by decide +kernel
theorem dd_79_157 : decode (am_b 79) 157 = .ok (.istore 5, 2) := by decide +kernel
theorem dd_79_159 : decode (am_b 79) 159 = .ok (.iload 5, 2) := by decide +kernel
theorem dd_79_161 : decode (am_b 79) 161 = .ok (.iconst 4, 1) := by decide +kernel
theorem dd_79_162 : decode (am_b 79) 162 = .ok (.if_icmp .ge 61, 3) := by decide +kernel
theorem dd_79_165 : decode (am_b 79) 165 = .ok (.iconst 4, 1) := by decide +kernel
theorem dd_79_166 : decode (am_b 79) 166 = .ok (.aload_n 0, 1) := by decide +kernel
theorem dd_79_167 : decode (am_b 79) 167 = .ok (.getfield 74, 3) := by decide +kernel
theorem dd_79_170 : decode (am_b 79) 170 = .ok (.iload_n 1, 1) := by decide +kernel
theorem dd_79_171 : decode (am_b 79) 171 = .ok (.iaload, 1) := by decide +kernel
theorem dd_79_172 : decode (am_b 79) 172 = .ok (.imul, 1) := by decide +kernel
theorem dd_79_173 : decode (am_b 79) 173 = .ok (.iload 5, 2) := by decide +kernel
theorem dd_79_175 : decode (am_b 79) 175 = .ok (.iadd, 1) := by decide +kernel
theorem dd_79_176 : decode (am_b 79) 176 = .ok (.istore 6, 2) := by decide +kernel
theorem dd_79_178 : decode (am_b 79) 178 = .ok (.aload_n 0, 1) := by decide +kernel
theorem dd_79_179 : decode (am_b 79) 179 = .ok (.getfield 50, 3) := by decide +kernel
theorem dd_79_182 : decode (am_b 79) 182 = .ok (.iload 6, 2) := by decide +kernel
theorem dd_79_184 : decode (am_b 79) 184 = .ok (.iload 4, 2) := by decide +kernel
theorem dd_79_186 : decode (am_b 79) 186 = .ok (.iload 5, 2) := by decide +kernel
theorem dd_79_188 : decode (am_b 79) 188 = .ok (.ishr, 1) := by decide +kernel
theorem dd_79_189 : decode (am_b 79) 189 = .ok (.iconst 1, 1) := by decide +kernel
theorem dd_79_190 : decode (am_b 79) 190 = .ok (.iand, 1) := by decide +kernel
theorem dd_79_191 : decode (am_b 79) 191 = .ok (.iconst 1, 1) := by decide +kernel
theorem dd_79_192 : decode (am_b 79) 192 = .ok (.if_icmp .ne 17, 3) := by decide +kernel
theorem dd_79_195 : decode (am_b 79) 195 = .ok (.aload_n 0, 1) := by decide +kernel
theorem dd_79_196 : decode (am_b 79) 196 = .ok (.getfield 59, 3) := by decide +kernel
theorem dd_79_199 : decode (am_b 79) 199 = .ok (.iconst 4, 1) := by decide +kernel
theorem dd_79_200 : decode (am_b 79) 200 = .ok (.iload_n 2, 1) := by decide +kernel
theorem dd_79_201 : decode (am_b 79) 201 = .ok (.imul, 1) := by decide +kernel
theorem dd_79_202 : decode (am_b 79) 202 = .ok (.iload 5, 2) := by decide +kernel
theorem dd_79_204 : decode (am_b 79) 204 = .ok (.iadd, 1) := by decide +kernel
theorem dd_79_205 : decode (am_b 79) 205 = .ok (.iaload, 1) := by decide +kernel
theorem dd_79_206 : decode (am_b 79) 206 = .ok (.goto 10, 3) := by decide +kernel
theorem dd_79_209 : decode (am_b 79) 209 = .ok (.aload_n 0, 1) := by decide +kernel
theorem dd_79_210 : decode (am_b 79) 210 = .ok (.getfield 50, 3) := by decide +kernel
theorem dd_79_213 : decode (am_b 79) 213 = .ok (.iload 6, 2) := by decide +kernel
theorem dd_79_215 : decode (am_b 79) 215 = .ok (.iaload, 1) := by decide +kernel
theorem dd_79_216 : decode (am_b 79) 216 = .ok (.iastore, 1) := by decide +kernel
theorem dd_79_217 : decode (am_b 79) 217 = .ok (.iinc 5 1, 3) := by decide +kernel
theorem dd_79_220 : decode (am_b 79) 220 = .ok (.goto (-61), 3) := by decide +kernel
theorem dd_79_223 : decode (am_b 79) 223 = .ok (.aload_n 0, 1) := by decide +kernel
theorem dd_79_224 : decode (am_b 79) 224 = .ok (.getfield 77, 3) := by decide +kernel
theorem dd_79_227 : decode (am_b 79) 227 = .ok (.iload_n 1, 1) := by decide +kernel
theorem dd_79_228 : decode (am_b 79) 228 = .ok (.iconst 4, 1) := by decide +kernel
theorem dd_79_229 : decode (am_b 79) 229 = .ok (.iastore, 1) := by decide +kernel
theorem dd_79_230 : decode (am_b 79) 230 = .ok (.aload_n 0, 1) := by decide +kernel
theorem dd_79_231 : decode (am_b 79) 231 = .ok (.getfield 19, 3) := by decide +kernel
theorem dd_79_234 : decode (am_b 79) 234 = .ok (.iload_n 2, 1) := by decide +kernel
theorem dd_79_235 : decode (am_b 79) 235 = .ok (.iaload, 1) := by decide +kernel
theorem dd_79_236 : decode (am_b 79) 236 = .ok (.iconst 1, 1) := by decide +kernel
theorem dd_79_237 : decode (am_b 79) 237 = .ok (.if_icmp .ne 67, 3) := by decide +kernel
theorem dd_79_240 : decode (am_b 79) 240 = .ok (.aload_n 0, 1) := by decide +kernel
theorem dd_79_241 : decode (am_b 79) 241 = .ok (.getfield 35, 3) := by decide +kernel
theorem dd_79_244 : decode (am_b 79) 244 = .ok (.aload_n 0, 1) := by decide +kernel
theorem dd_79_245 : decode (am_b 79) 245 = .ok (.getfield 74, 3) := by decide +kernel
theorem dd_79_248 : decode (am_b 79) 248 = .ok (.iload_n 1, 1) := by decide +kernel
theorem dd_79_249 : decode (am_b 79) 249 = .ok (.iaload, 1) := by decide +kernel
theorem dd_79_250 : decode (am_b 79) 250 = .ok (.dup2, 1) := by decide +kernel
theorem dd_79_251 : decode (am_b 79) 251 = .ok (.iaload, 1) := by decide +kernel
theorem dd_79_252 : decode (am_b 79) 252 = .ok (.iload 4, 2) := by decide +kernel
theorem dd_79_254 : decode (am_b 79) 254 = .ok (.ior, 1) := by decide +kernel
theorem dd_79_255 : decode (am_b 79) 255 = .ok (.iastore, 1) := by decide +kernel
theorem dd_79_256 : decode (am_b 79) 256 = .ok (.aload_n 0, 1) := by decide +kernel
theorem dd_79_257 : decode (am_b 79) 257 = .ok (.dup, 1) := by decide +kernel
theorem dd_79_258 : decode (am_b 79) 258 = .ok (.getfield 102, 3) := by decide +kernel
theorem dd_79_261 : decode (am_b 79) 261 = .ok (.iconst 1, 1) := by decide +kernel
theorem dd_79_262 : decode (am_b 79) 262 = .ok (.isub, 1) := by decide +kernel
theorem dd_79_263 : decode (am_b 79) 263 = .ok (.putfield 102, 3) := by decide +kernel
theorem dd_79_266 : decode (am_b 79) 266 = .ok (.goto 38, 3) := by decide +kernel
theorem dd_79_269 : decode (am_b 79) 269 = .ok (.aload_n 0, 1) := by decide +kernel
theorem dd_79_270 : decode (am_b 79) 270 = .ok (.getfield 77, 3) := by decide +kernel
theorem dd_79_273 : decode (am_b 79) 273 = .ok (.iload_n 1, 1) := by decide +kernel
theorem dd_79_274 : decode (am_b 79) 274 = .ok (.iconst 5, 1) := by decide +kernel
theorem dd_79_275 : decode (am_b 79) 275 = .ok (.iastore, 1) := by decide +kernel
theorem dd_79_276 : decode (am_b 79) 276 = .ok (.aload_n 0, 1) := by decide +kernel
theorem dd_79_277 : decode (am_b 79) 277 = .ok (.iload_n 2, 1) := by decide +kernel
theorem dd_79_278 : decode (am_b 79) 278 = .ok (.iload_n 3, 1) := by decide +kernel
theorem dd_79_279 : decode (am_b 79) 279 = .ok (.iload 4, 2) := by decide +kernel
theorem dd_79_281 : decode (am_b 79) 281 = .ok (.aload_n 0, 1) := by decide +kernel
theorem dd_79_282 : decode (am_b 79) 282 = .ok (.getfield 59, 3) := by decide +kernel
theorem dd_79_285 : decode (am_b 79) 285 = .ok (.iconst 4, 1) := by decide +kernel
theorem dd_79_286 : decode (am_b 79) 286 = .ok (.iload_n 2, 1) := by decide +kernel
theorem dd_79_287 : decode (am_b 79) 287 = .ok (.imul, 1) := by decide +kernel
theorem dd_79_288 : decode (am_b 79) 288 = .ok (.invokevirtual 167, 3) := by decide +kernel
theorem dd_79_291 : decode (am_b 79) 291 = .ok (.goto 13, 3) := by decide +kernel
theorem dd_79_294 : decode (am_b 79) 294 = .ok (.aload_n 0, 1) := by decide +kernel
theorem dd_79_295 : decode (am_b 79) 295 = .ok (.dup, 1) := by decide +kernel
theorem dd_79_296 : decode (am_b 79) 296 = .ok (.getfield 102, 3) := by decide +kernel
theorem dd_79_299 : decode (am_b 79) 299 = .ok (.iconst 1, 1) := by decide +kernel
theorem dd_79_300 : decode (am_b 79) 300 = .ok (.isub, 1) := by decide +kernel
theorem dd_79_301 : decode (am_b 79) 301 = .ok (.putfield 102, 3) := by decide +kernel
theorem dd_79_304 : decode (am_b 79) 304 = .ok (.return_, 1) := by decide +kernel
theorem sg_79_0 {sh : am_Sh} {C : Nat → am_M → List am_V → am_O → Prop} {P : am_S ⊕ am_O → Prop} {M : am_M} {x1 : Int32} {u2 : Option am_V} {u3 : Option am_V} {u4 : Option am_V} {u5 : Option am_V} {u6 : Option am_V} {j1 : Nat} {j2 : Nat} {j3 : Nat} (hx_j1 : x1 = nI j1) (hl_j1 : j1 < 64) (hx_j2 : x1 = nI j2) (hl_j2 : j2 < 64) (hx_j3 : x1 = nI j3) (hl_j3 : j3 < 64) (k1 : ¬ (M (21, 25, 0) j1) = (M (20, 0, 0) 1) → am_ev sh C 79 (38, [some (am_R (some (20, 0, 0))), some (am_I x1), some (am_I (M (21, 25, 0) j1)), some (am_I (M (21, 26, 0) j2)), some (am_I (M (21, 27, 0) j3)), u5, u6], [], M, 0) P) (k2 : (M (21, 25, 0) j1) = (M (20, 0, 0) 1) → am_ev sh C 79 (30, [some (am_R (some (20, 0, 0))), some (am_I x1), some (am_I (M (21, 25, 0) j1)), some (am_I (M (21, 26, 0) j2)), some (am_I (M (21, 27, 0) j3)), u5, u6], [], M, 0) P) : am_ev sh C 79 (0, [some (am_R (some (20, 0, 0))), some (am_I x1), u2, u3, u4, u5, u6], [], M, 0) P := by
  refine am_e_aload_n dd_79_0 rfl rfl ?_
  refine am_e_gf (ci := 3) (j := 25) (v := am_R (some (21, 25, 0))) dd_79_1 (by decide +kernel) rfl rfl rfl ?_
  refine am_e_iload_n dd_79_4 rfl rfl ?_
  refine am_a_iald dd_79_5 rfl hx_j1 hl_j1 (by decide) rfl ?_
  refine am_e_istore_n dd_79_6 (Nat.le_of_ble_eq_true rfl) rfl rfl ?_
  refine am_e_aload_n dd_79_7 rfl rfl ?_
  refine am_e_gf (ci := 3) (j := 26) (v := am_R (some (21, 26, 0))) dd_79_8 (by decide +kernel) rfl rfl rfl ?_
  refine am_e_iload_n dd_79_11 rfl rfl ?_
  refine am_a_iald dd_79_12 rfl hx_j2 hl_j2 (by decide) rfl ?_
  refine am_e_istore_n dd_79_13 (Nat.le_of_ble_eq_true rfl) rfl rfl ?_
  refine am_e_aload_n dd_79_14 rfl rfl ?_
  refine am_e_gf (ci := 3) (j := 27) (v := am_R (some (21, 27, 0))) dd_79_15 (by decide +kernel) rfl rfl rfl ?_
  refine am_e_iload_n dd_79_18 rfl rfl ?_
  refine am_a_iald dd_79_19 rfl hx_j3 hl_j3 (by decide) rfl ?_
  refine am_e_istore dd_79_20 (Nat.le_of_ble_eq_true rfl) rfl rfl ?_
  refine am_e_iload_n dd_79_22 rfl rfl ?_
  refine am_e_aload_n dd_79_23 rfl rfl ?_
  refine am_e_gf (ci := 3) (j := 1) (v := am_I (M (20, 0, 0) 1)) dd_79_24 (by decide +kernel) rfl rfl rfl ?_
  exact am_a_icmp_ne (tgt := 38) (pc' := 30) dd_79_27 rfl rfl k1 k2

theorem sg_79_30 {sh : am_Sh} {C : Nat → am_M → List am_V → am_O → Prop} {P : am_S ⊕ am_O → Prop} {M : am_M} {x1 : Int32} {x2 : Int32} {x3 : Int32} {x4 : Int32} {u5 : Option am_V} {u6 : Option am_V} {M1 : am_M} (hc1 : C 80 M [am_R (some (20, 0, 0)), am_I x3, am_I x4] (M1, Sum.inl none)) (k : P (Sum.inr (M1, Sum.inl none))) : am_ev sh C 79 (30, [some (am_R (some (20, 0, 0))), some (am_I x1), some (am_I x2), some (am_I x3), some (am_I x4), u5, u6], [], M, 0) P := by
  refine am_e_aload_n dd_79_30 rfl rfl ?_
  refine am_e_iload_n dd_79_31 rfl rfl ?_
  refine am_e_iload dd_79_32 rfl rfl ?_
  refine am_e_callV (c := 80) (k := 3) (as := [am_R (some (20, 0, 0)), am_I x3, am_I x4]) (S' := []) (v := none) (M' := M1) (n' := 0) dd_79_34 (by decide +kernel) ⟨Nat.le_of_ble_eq_true rfl, Nat.le_of_ble_eq_true rfl, by decide +kernel, (Or.inr (am_rcv_of rfl))⟩ rfl rfl (by decide +kernel) hc1 rfl ?_
  exact am_e_vret dd_79_37 (by decide +kernel) rfl k

theorem sg_79_38 {sh : am_Sh} {C : Nat → am_M → List am_V → am_O → Prop} {P : am_S ⊕ am_O → Prop} {M : am_M} {x1 : Int32} {x2 : Int32} {x3 : Int32} {x4 : Int32} {u5 : Option am_V} {u6 : Option am_V} {j1 : Nat} (hx_j1 : x1 = nI j1) (hl_j1 : j1 < 64) (k : am_ev sh C 79 (44, [some (am_R (some (20, 0, 0))), some (am_I x1), some (am_I x2), some (am_I x3), some (am_I x4), u5, u6], [am_I (M (21, 29, 0) j1)], M, 0) P) : am_ev sh C 79 (38, [some (am_R (some (20, 0, 0))), some (am_I x1), some (am_I x2), some (am_I x3), some (am_I x4), u5, u6], [], M, 0) P := by
  refine am_e_aload_n dd_79_38 rfl rfl ?_
  refine am_e_gf (ci := 3) (j := 29) (v := am_R (some (21, 29, 0))) dd_79_39 (by decide +kernel) rfl rfl rfl ?_
  refine am_e_iload_n dd_79_42 rfl rfl ?_
  refine am_a_iald dd_79_43 rfl hx_j1 hl_j1 (by decide) rfl ?_
  exact k

theorem sg_79_80 {sh : am_Sh} {C : Nat → am_M → List am_V → am_O → Prop} {P : am_S ⊕ am_O → Prop} {M : am_M} {x1 : Int32} {x2 : Int32} {x3 : Int32} {x4 : Int32} {u5 : Option am_V} {u6 : Option am_V} {M1 : am_M} (hc1 : C 81 M [am_R (some (20, 0, 0)), am_I x1] (M1, Sum.inl none)) (k : am_ev sh C 79 (304, [some (am_R (some (20, 0, 0))), some (am_I x1), some (am_I x2), some (am_I x3), some (am_I x4), u5, u6], [], M1, 0) P) : am_ev sh C 79 (80, [some (am_R (some (20, 0, 0))), some (am_I x1), some (am_I x2), some (am_I x3), some (am_I x4), u5, u6], [], M, 0) P := by
  refine am_e_aload_n dd_79_80 rfl rfl ?_
  refine am_e_iload_n dd_79_81 rfl rfl ?_
  refine am_e_callV (c := 81) (k := 2) (as := [am_R (some (20, 0, 0)), am_I x1]) (S' := []) (v := none) (M' := M1) (n' := 0) dd_79_82 (by decide +kernel) ⟨Nat.le_of_ble_eq_true rfl, Nat.le_of_ble_eq_true rfl, by decide +kernel, (Or.inr (am_rcv_of rfl))⟩ rfl rfl (by decide +kernel) hc1 rfl ?_
  refine am_e_goto (pc' := 304) dd_79_85 rfl ?_
  exact k

theorem sg_79_88 {sh : am_Sh} {C : Nat → am_M → List am_V → am_O → Prop} {P : am_S ⊕ am_O → Prop} {M : am_M} {x1 : Int32} {x2 : Int32} {x3 : Int32} {x4 : Int32} {u5 : Option am_V} {u6 : Option am_V}  (k1 : ¬ x4 = 15 → am_ev sh C 79 (103, [some (am_R (some (20, 0, 0))), some (am_I x1), some (am_I x2), some (am_I x3), some (am_I x4), u5, u6], [], M, 0) P) (k2 : x4 = 15 → am_ev sh C 79 (95, [some (am_R (some (20, 0, 0))), some (am_I x1), some (am_I x2), some (am_I x3), some (am_I x4), u5, u6], [], M, 0) P) : am_ev sh C 79 (88, [some (am_R (some (20, 0, 0))), some (am_I x1), some (am_I x2), some (am_I x3), some (am_I x4), u5, u6], [], M, 0) P := by
  refine am_e_iload dd_79_88 rfl rfl ?_
  refine am_e_bipush (v := 15) dd_79_90 (by decide) rfl ?_
  exact am_a_icmp_ne (tgt := 103) (pc' := 95) dd_79_92 rfl rfl k1 k2

theorem sg_79_95 {sh : am_Sh} {C : Nat → am_M → List am_V → am_O → Prop} {P : am_S ⊕ am_O → Prop} {M : am_M} {x1 : Int32} {x2 : Int32} {x3 : Int32} {x4 : Int32} {u5 : Option am_V} {u6 : Option am_V} {M1 : am_M} {r1 : Int32} (hc1 : C 82 M [am_R (some (20, 0, 0)), am_I x2] (M1, Sum.inl (some (am_I r1)))) (k1 : r1 = 0 → am_ev sh C 79 (124, [some (am_R (some (20, 0, 0))), some (am_I x1), some (am_I x2), some (am_I x3), some (am_I x4), u5, u6], [], M1, 0) P) (k2 : ¬ r1 = 0 → am_ev sh C 79 (103, [some (am_R (some (20, 0, 0))), some (am_I x1), some (am_I x2), some (am_I x3), some (am_I x4), u5, u6], [], M1, 0) P) : am_ev sh C 79 (95, [some (am_R (some (20, 0, 0))), some (am_I x1), some (am_I x2), some (am_I x3), some (am_I x4), u5, u6], [], M, 0) P := by
  refine am_e_aload_n dd_79_95 rfl rfl ?_
  refine am_e_iload_n dd_79_96 rfl rfl ?_
  refine am_e_callV (c := 82) (k := 2) (as := [am_R (some (20, 0, 0)), am_I x2]) (S' := [am_I r1]) (v := some (am_I r1)) (M' := M1) (n' := 0) dd_79_97 (by decide +kernel) ⟨Nat.le_of_ble_eq_true rfl, Nat.le_of_ble_eq_true rfl, by decide +kernel, (Or.inr (am_rcv_of rfl))⟩ rfl rfl (by decide +kernel) hc1 rfl ?_
  exact am_a_if_eq (tgt := 124) (pc' := 103) dd_79_100 rfl rfl k1 k2

theorem sg_79_103 {sh : am_Sh} {C : Nat → am_M → List am_V → am_O → Prop} {P : am_S ⊕ am_O → Prop} {M : am_M} {x1 : Int32} {x2 : Int32} {x3 : Int32} {x4 : Int32} {u5 : Option am_V} {u6 : Option am_V} {j1 : Nat} {M1 : am_M} (hx_j1 : x1 = nI j1) (hl_j1 : j1 < 64) (hc1 : C 65 (am_up M (21, 29, 0) j1 2) [am_R (some (20, 0, 0)), am_I 0, am_I (x2 + 1), am_I x3, am_I 0, am_I 0] (M1, Sum.inl none)) (k : am_ev sh C 79 (304, [some (am_R (some (20, 0, 0))), some (am_I x1), some (am_I x2), some (am_I x3), some (am_I x4), u5, u6], [], M1, 0) P) : am_ev sh C 79 (103, [some (am_R (some (20, 0, 0))), some (am_I x1), some (am_I x2), some (am_I x3), some (am_I x4), u5, u6], [], M, 0) P := by
  refine am_e_aload_n dd_79_103 rfl rfl ?_
  refine am_e_gf (ci := 3) (j := 29) (v := am_R (some (21, 29, 0))) dd_79_104 (by decide +kernel) rfl rfl rfl ?_
  refine am_e_iload_n dd_79_107 rfl rfl ?_
  refine am_e_iconst (v := 2) dd_79_108 rfl rfl ?_
  refine am_a_iast dd_79_109 rfl hx_j1 hl_j1 (by decide) rfl ?_
  refine am_e_aload_n dd_79_110 rfl rfl ?_
  refine am_e_iconst (v := 0) dd_79_111 rfl rfl ?_
  refine am_e_iload_n dd_79_112 rfl rfl ?_
  refine am_e_iconst (v := 1) dd_79_113 rfl rfl ?_
  refine am_e_iadd dd_79_114 rfl ?_
  refine am_e_iload_n dd_79_115 rfl rfl ?_
  refine am_e_iconst (v := 0) dd_79_116 rfl rfl ?_
  refine am_e_iconst (v := 0) dd_79_117 rfl rfl ?_
  refine am_e_callV (c := 65) (k := 6) (as := [am_R (some (20, 0, 0)), am_I 0, am_I (x2 + 1), am_I x3, am_I 0, am_I 0]) (S' := []) (v := none) (M' := M1) (n' := 0) dd_79_118 (by decide +kernel) ⟨Nat.le_of_ble_eq_true rfl, Nat.le_of_ble_eq_true rfl, by decide +kernel, (Or.inr (am_rcv_of rfl))⟩ rfl rfl (by decide +kernel) hc1 rfl ?_
  refine am_e_goto (pc' := 304) dd_79_121 rfl ?_
  exact k

theorem sg_79_124 {sh : am_Sh} {C : Nat → am_M → List am_V → am_O → Prop} {P : am_S ⊕ am_O → Prop} {M : am_M} {x1 : Int32} {x2 : Int32} {x3 : Int32} {x4 : Int32} {u5 : Option am_V} {u6 : Option am_V} {M1 : am_M} {j1 : Nat} (hc1 : C 77 M [am_R (some (20, 0, 0)), am_I x1, am_I 0] (M1, Sum.inl none)) (hx_j1 : x1 = nI j1) (hl_j1 : j1 < 64) (k : am_ev sh C 79 (304, [some (am_R (some (20, 0, 0))), some (am_I x1), some (am_I x2), some (am_I x3), some (am_I x4), u5, u6], [], (am_up M1 (21, 29, 0) j1 3), 0) P) : am_ev sh C 79 (124, [some (am_R (some (20, 0, 0))), some (am_I x1), some (am_I x2), some (am_I x3), some (am_I x4), u5, u6], [], M, 0) P := by
  refine am_e_aload_n dd_79_124 rfl rfl ?_
  refine am_e_iload_n dd_79_125 rfl rfl ?_
  refine am_e_iconst (v := 0) dd_79_126 rfl rfl ?_
  refine am_e_callV (c := 77) (k := 3) (as := [am_R (some (20, 0, 0)), am_I x1, am_I 0]) (S' := []) (v := none) (M' := M1) (n' := 0) dd_79_127 (by decide +kernel) ⟨Nat.le_of_ble_eq_true rfl, Nat.le_of_ble_eq_true rfl, by decide +kernel, (Or.inr (am_rcv_of rfl))⟩ rfl rfl (by decide +kernel) hc1 rfl ?_
  refine am_e_aload_n dd_79_130 rfl rfl ?_
  refine am_e_gf (ci := 3) (j := 29) (v := am_R (some (21, 29, 0))) dd_79_131 (by decide +kernel) rfl rfl rfl ?_
  refine am_e_iload_n dd_79_134 rfl rfl ?_
  refine am_e_iconst (v := 3) dd_79_135 rfl rfl ?_
  refine am_a_iast dd_79_136 rfl hx_j1 hl_j1 (by decide) rfl ?_
  refine am_e_goto (pc' := 304) dd_79_137 rfl ?_
  exact k

theorem sg_79_140 {sh : am_Sh} {C : Nat → am_M → List am_V → am_O → Prop} {P : am_S ⊕ am_O → Prop} {M : am_M} {x1 : Int32} {x2 : Int32} {x3 : Int32} {x4 : Int32} {u5 : Option am_V} {u6 : Option am_V} {M1 : am_M} {j1 : Nat} (hc1 : C 77 M [am_R (some (20, 0, 0)), am_I x1, am_I 1] (M1, Sum.inl none)) (hx_j1 : x1 = nI j1) (hl_j1 : j1 < 64) (k : am_ev sh C 79 (304, [some (am_R (some (20, 0, 0))), some (am_I x1), some (am_I x2), some (am_I x3), some (am_I x4), u5, u6], [], (am_up M1 (21, 29, 0) j1 3), 0) P) : am_ev sh C 79 (140, [some (am_R (some (20, 0, 0))), some (am_I x1), some (am_I x2), some (am_I x3), some (am_I x4), u5, u6], [], M, 0) P := by
  refine am_e_aload_n dd_79_140 rfl rfl ?_
  refine am_e_iload_n dd_79_141 rfl rfl ?_
  refine am_e_iconst (v := 1) dd_79_142 rfl rfl ?_
  refine am_e_callV (c := 77) (k := 3) (as := [am_R (some (20, 0, 0)), am_I x1, am_I 1]) (S' := []) (v := none) (M' := M1) (n' := 0) dd_79_143 (by decide +kernel) ⟨Nat.le_of_ble_eq_true rfl, Nat.le_of_ble_eq_true rfl, by decide +kernel, (Or.inr (am_rcv_of rfl))⟩ rfl rfl (by decide +kernel) hc1 rfl ?_
  refine am_e_aload_n dd_79_146 rfl rfl ?_
  refine am_e_gf (ci := 3) (j := 29) (v := am_R (some (21, 29, 0))) dd_79_147 (by decide +kernel) rfl rfl rfl ?_
  refine am_e_iload_n dd_79_150 rfl rfl ?_
  refine am_e_iconst (v := 3) dd_79_151 rfl rfl ?_
  refine am_a_iast dd_79_152 rfl hx_j1 hl_j1 (by decide) rfl ?_
  refine am_e_goto (pc' := 304) dd_79_153 rfl ?_
  exact k

theorem sg_79_156 {sh : am_Sh} {C : Nat → am_M → List am_V → am_O → Prop} {P : am_S ⊕ am_O → Prop} {M : am_M} {x1 : Int32} {x2 : Int32} {x3 : Int32} {x4 : Int32} {u5 : Option am_V} {u6 : Option am_V}  (k : am_ev sh C 79 (159, [some (am_R (some (20, 0, 0))), some (am_I x1), some (am_I x2), some (am_I x3), some (am_I x4), some (am_I 0), u6], [], M, 0) P) : am_ev sh C 79 (156, [some (am_R (some (20, 0, 0))), some (am_I x1), some (am_I x2), some (am_I x3), some (am_I x4), u5, u6], [], M, 0) P := by
  refine am_e_iconst (v := 0) dd_79_156 rfl rfl ?_
  refine am_e_istore dd_79_157 (Nat.le_of_ble_eq_true rfl) rfl rfl ?_
  exact k

theorem sg_79_159 {sh : am_Sh} {C : Nat → am_M → List am_V → am_O → Prop} {P : am_S ⊕ am_O → Prop} {M : am_M} {x1 : Int32} {x2 : Int32} {x3 : Int32} {x4 : Int32} {x5 : Int32} {u6 : Option am_V}  (k1 : 4 ≤ x5 → am_ev sh C 79 (223, [some (am_R (some (20, 0, 0))), some (am_I x1), some (am_I x2), some (am_I x3), some (am_I x4), some (am_I x5), u6], [], M, 0) P) (k2 : ¬ 4 ≤ x5 → am_ev sh C 79 (165, [some (am_R (some (20, 0, 0))), some (am_I x1), some (am_I x2), some (am_I x3), some (am_I x4), some (am_I x5), u6], [], M, 0) P) : am_ev sh C 79 (159, [some (am_R (some (20, 0, 0))), some (am_I x1), some (am_I x2), some (am_I x3), some (am_I x4), some (am_I x5), u6], [], M, 0) P := by
  refine am_e_iload dd_79_159 rfl rfl ?_
  refine am_e_iconst (v := 4) dd_79_161 rfl rfl ?_
  exact am_a_icmp_ge (tgt := 223) (pc' := 165) dd_79_162 rfl rfl k1 k2

theorem sg_79_165 {sh : am_Sh} {C : Nat → am_M → List am_V → am_O → Prop} {P : am_S ⊕ am_O → Prop} {M : am_M} {x1 : Int32} {x2 : Int32} {x3 : Int32} {x4 : Int32} {x5 : Int32} {u6 : Option am_V} {j1 : Nat} (hx_j1 : x1 = nI j1) (hl_j1 : j1 < 64) (k1 : ¬ ((x4 >>> (x5 &&& 31)) &&& 1) = 1 → am_ev sh C 79 (209, [some (am_R (some (20, 0, 0))), some (am_I x1), some (am_I x2), some (am_I x3), some (am_I x4), some (am_I x5), some (am_I ((4 * (M (21, 28, 0) j1)) + x5))], [am_I ((4 * (M (21, 28, 0) j1)) + x5), am_R (some (21, 16, 0))], M, 0) P) (k2 : ((x4 >>> (x5 &&& 31)) &&& 1) = 1 → am_ev sh C 79 (195, [some (am_R (some (20, 0, 0))), some (am_I x1), some (am_I x2), some (am_I x3), some (am_I x4), some (am_I x5), some (am_I ((4 * (M (21, 28, 0) j1)) + x5))], [am_I ((4 * (M (21, 28, 0) j1)) + x5), am_R (some (21, 16, 0))], M, 0) P) : am_ev sh C 79 (165, [some (am_R (some (20, 0, 0))), some (am_I x1), some (am_I x2), some (am_I x3), some (am_I x4), some (am_I x5), u6], [], M, 0) P := by
  refine am_e_iconst (v := 4) dd_79_165 rfl rfl ?_
  refine am_e_aload_n dd_79_166 rfl rfl ?_
  refine am_e_gf (ci := 3) (j := 28) (v := am_R (some (21, 28, 0))) dd_79_167 (by decide +kernel) rfl rfl rfl ?_
  refine am_e_iload_n dd_79_170 rfl rfl ?_
  refine am_a_iald dd_79_171 rfl hx_j1 hl_j1 (by decide) rfl ?_
  refine am_e_imul dd_79_172 rfl ?_
  refine am_e_iload dd_79_173 rfl rfl ?_
  refine am_e_iadd dd_79_175 rfl ?_
  refine am_e_istore dd_79_176 (Nat.le_of_ble_eq_true rfl) rfl rfl ?_
  refine am_e_aload_n dd_79_178 rfl rfl ?_
  refine am_e_gf (ci := 3) (j := 16) (v := am_R (some (21, 16, 0))) dd_79_179 (by decide +kernel) rfl rfl rfl ?_
  refine am_e_iload dd_79_182 rfl rfl ?_
  refine am_e_iload dd_79_184 rfl rfl ?_
  refine am_e_iload dd_79_186 rfl rfl ?_
  refine am_e_ishr dd_79_188 rfl ?_
  refine am_e_iconst (v := 1) dd_79_189 rfl rfl ?_
  refine am_e_iand dd_79_190 rfl ?_
  refine am_e_iconst (v := 1) dd_79_191 rfl rfl ?_
  exact am_a_icmp_ne (tgt := 209) (pc' := 195) dd_79_192 rfl rfl k1 k2

theorem sg_79_195 {sh : am_Sh} {C : Nat → am_M → List am_V → am_O → Prop} {P : am_S ⊕ am_O → Prop} {M : am_M} {x1 : Int32} {x2 : Int32} {x3 : Int32} {x4 : Int32} {x5 : Int32} {x6 : Int32} {os0 : Option am_K} {xs1 : Int32} {j1 : Nat} (hx_j1 : (4 * x2) + x5 = nI j1) (hl_j1 : j1 < 20) (k : am_ev sh C 79 (216, [some (am_R (some (20, 0, 0))), some (am_I x1), some (am_I x2), some (am_I x3), some (am_I x4), some (am_I x5), some (am_I x6)], [am_I (M (21, 22, 0) j1), am_I xs1, am_R os0], M, 0) P) : am_ev sh C 79 (195, [some (am_R (some (20, 0, 0))), some (am_I x1), some (am_I x2), some (am_I x3), some (am_I x4), some (am_I x5), some (am_I x6)], [am_I xs1, am_R os0], M, 0) P := by
  refine am_e_aload_n dd_79_195 rfl rfl ?_
  refine am_e_gf (ci := 3) (j := 22) (v := am_R (some (21, 22, 0))) dd_79_196 (by decide +kernel) rfl rfl rfl ?_
  refine am_e_iconst (v := 4) dd_79_199 rfl rfl ?_
  refine am_e_iload_n dd_79_200 rfl rfl ?_
  refine am_e_imul dd_79_201 rfl ?_
  refine am_e_iload dd_79_202 rfl rfl ?_
  refine am_e_iadd dd_79_204 rfl ?_
  refine am_a_iald dd_79_205 rfl hx_j1 hl_j1 (by decide) rfl ?_
  refine am_e_goto (pc' := 216) dd_79_206 rfl ?_
  exact k

theorem sg_79_209 {sh : am_Sh} {C : Nat → am_M → List am_V → am_O → Prop} {P : am_S ⊕ am_O → Prop} {M : am_M} {x1 : Int32} {x2 : Int32} {x3 : Int32} {x4 : Int32} {x5 : Int32} {x6 : Int32} {os0 : Option am_K} {xs1 : Int32} {j1 : Nat} (hx_j1 : x6 = nI j1) (hl_j1 : j1 < 1024) (k : am_ev sh C 79 (216, [some (am_R (some (20, 0, 0))), some (am_I x1), some (am_I x2), some (am_I x3), some (am_I x4), some (am_I x5), some (am_I x6)], [am_I (M (21, 16, 0) j1), am_I xs1, am_R os0], M, 0) P) : am_ev sh C 79 (209, [some (am_R (some (20, 0, 0))), some (am_I x1), some (am_I x2), some (am_I x3), some (am_I x4), some (am_I x5), some (am_I x6)], [am_I xs1, am_R os0], M, 0) P := by
  refine am_e_aload_n dd_79_209 rfl rfl ?_
  refine am_e_gf (ci := 3) (j := 16) (v := am_R (some (21, 16, 0))) dd_79_210 (by decide +kernel) rfl rfl rfl ?_
  refine am_e_iload dd_79_213 rfl rfl ?_
  refine am_a_iald dd_79_215 rfl hx_j1 hl_j1 (by decide) rfl ?_
  exact k

theorem sg_79_216 {sh : am_Sh} {C : Nat → am_M → List am_V → am_O → Prop} {P : am_S ⊕ am_O → Prop} {M : am_M} {x1 : Int32} {x2 : Int32} {x3 : Int32} {x4 : Int32} {x5 : Int32} {x6 : Int32} {ks0 : am_K} {Ns0 : Nat} {xs1 : Int32} {xs2 : Int32} {j1 : Nat} (hz_ks0 : Ns0 < 2147483648) (hx_j1 : xs1 = nI j1) (hl_j1 : j1 < Ns0) (hk_ks0 : am_ct sh ks0 = some (Sum.inr (0, Ns0))) (k : am_ev sh C 79 (159, [some (am_R (some (20, 0, 0))), some (am_I x1), some (am_I x2), some (am_I x3), some (am_I x4), some (am_I (x5 + 1)), some (am_I x6)], [], (am_up M ks0 j1 xs2), 0) P) : am_ev sh C 79 (216, [some (am_R (some (20, 0, 0))), some (am_I x1), some (am_I x2), some (am_I x3), some (am_I x4), some (am_I x5), some (am_I x6)], [am_I xs2, am_I xs1, am_R (some ks0)], M, 0) P := by
  refine am_a_iast dd_79_216 hk_ks0 hx_j1 hl_j1 hz_ks0 rfl ?_
  refine am_e_iinc (v := x5 + 1) dd_79_217 rfl rfl rfl rfl ?_
  refine am_e_goto (pc' := 159) dd_79_220 rfl ?_
  exact k

theorem sg_79_223 {sh : am_Sh} {C : Nat → am_M → List am_V → am_O → Prop} {P : am_S ⊕ am_O → Prop} {M : am_M} {x1 : Int32} {x2 : Int32} {x3 : Int32} {x4 : Int32} {x5 : Int32} {u6 : Option am_V} {j1 : Nat} {j2 : Nat} (hx_j1 : x1 = nI j1) (hl_j1 : j1 < 64) (hx_j2 : x2 = nI j2) (hl_j2 : j2 < 4) (k1 : ¬ ((am_up M (21, 29, 0) j1 4) (21, 6, 0) j2) = 1 → am_ev sh C 79 (304, [some (am_R (some (20, 0, 0))), some (am_I x1), some (am_I x2), some (am_I x3), some (am_I x4), some (am_I x5), u6], [], (am_up M (21, 29, 0) j1 4), 0) P) (k2 : ((am_up M (21, 29, 0) j1 4) (21, 6, 0) j2) = 1 → am_ev sh C 79 (240, [some (am_R (some (20, 0, 0))), some (am_I x1), some (am_I x2), some (am_I x3), some (am_I x4), some (am_I x5), u6], [], (am_up M (21, 29, 0) j1 4), 0) P) : am_ev sh C 79 (223, [some (am_R (some (20, 0, 0))), some (am_I x1), some (am_I x2), some (am_I x3), some (am_I x4), some (am_I x5), u6], [], M, 0) P := by
  refine am_e_aload_n dd_79_223 rfl rfl ?_
  refine am_e_gf (ci := 3) (j := 29) (v := am_R (some (21, 29, 0))) dd_79_224 (by decide +kernel) rfl rfl rfl ?_
  refine am_e_iload_n dd_79_227 rfl rfl ?_
  refine am_e_iconst (v := 4) dd_79_228 rfl rfl ?_
  refine am_a_iast dd_79_229 rfl hx_j1 hl_j1 (by decide) rfl ?_
  refine am_e_aload_n dd_79_230 rfl rfl ?_
  refine am_e_gf (ci := 3) (j := 6) (v := am_R (some (21, 6, 0))) dd_79_231 (by decide +kernel) rfl rfl rfl ?_
  refine am_e_iload_n dd_79_234 rfl rfl ?_
  refine am_a_iald dd_79_235 rfl hx_j2 hl_j2 (by decide) rfl ?_
  refine am_e_iconst (v := 1) dd_79_236 rfl rfl ?_
  exact am_a_icmp_ne (tgt := 304) (pc' := 240) dd_79_237 rfl rfl k1 k2

theorem sg_79_240 {sh : am_Sh} {C : Nat → am_M → List am_V → am_O → Prop} {P : am_S ⊕ am_O → Prop} {M : am_M} {x1 : Int32} {x2 : Int32} {x3 : Int32} {x4 : Int32} {x5 : Int32} {u6 : Option am_V} {j1 : Nat} {j2 : Nat} (hx_j1 : x1 = nI j1) (hl_j1 : j1 < 64) (hx_j2 : M (21, 28, 0) j1 = nI j2) (hl_j2 : j2 < 256) (k : am_ev sh C 79 (304, [some (am_R (some (20, 0, 0))), some (am_I x1), some (am_I x2), some (am_I x3), some (am_I x4), some (am_I x5), u6], [], (am_up (am_up M (21, 11, 0) j2 ((M (21, 11, 0) j2) ||| x4)) (20, 0, 0) 23 (((am_up M (21, 11, 0) j2 ((M (21, 11, 0) j2) ||| x4)) (20, 0, 0) 23) - 1)), 0) P) : am_ev sh C 79 (240, [some (am_R (some (20, 0, 0))), some (am_I x1), some (am_I x2), some (am_I x3), some (am_I x4), some (am_I x5), u6], [], M, 0) P := by
  refine am_e_aload_n dd_79_240 rfl rfl ?_
  refine am_e_gf (ci := 3) (j := 11) (v := am_R (some (21, 11, 0))) dd_79_241 (by decide +kernel) rfl rfl rfl ?_
  refine am_e_aload_n dd_79_244 rfl rfl ?_
  refine am_e_gf (ci := 3) (j := 28) (v := am_R (some (21, 28, 0))) dd_79_245 (by decide +kernel) rfl rfl rfl ?_
  refine am_e_iload_n dd_79_248 rfl rfl ?_
  refine am_a_iald dd_79_249 rfl hx_j1 hl_j1 (by decide) rfl ?_
  refine am_e_dup2 dd_79_250 rfl rfl rfl ?_
  refine am_a_iald dd_79_251 rfl hx_j2 hl_j2 (by decide) rfl ?_
  refine am_e_iload dd_79_252 rfl rfl ?_
  refine am_e_ior dd_79_254 rfl ?_
  refine am_a_iast dd_79_255 rfl hx_j2 hl_j2 (by decide) rfl ?_
  refine am_e_aload_n dd_79_256 rfl rfl ?_
  refine am_e_dup dd_79_257 rfl rfl ?_
  refine am_e_gf (ci := 3) (j := 23) (v := am_I ((am_up M (21, 11, 0) j2 ((M (21, 11, 0) j2) ||| x4)) (20, 0, 0) 23)) dd_79_258 (by decide +kernel) rfl rfl rfl ?_
  refine am_e_iconst (v := 1) dd_79_261 rfl rfl ?_
  refine am_e_isub dd_79_262 rfl ?_
  refine am_e_pf (ci := 3) (j := 23) dd_79_263 (by decide +kernel) rfl rfl (Or.inl rfl) rfl ?_
  refine am_e_goto (pc' := 304) dd_79_266 rfl ?_
  exact k

theorem sg_79_269 {sh : am_Sh} {C : Nat → am_M → List am_V → am_O → Prop} {P : am_S ⊕ am_O → Prop} {M : am_M} {x1 : Int32} {x2 : Int32} {x3 : Int32} {x4 : Int32} {u5 : Option am_V} {u6 : Option am_V} {j1 : Nat} {M1 : am_M} (hx_j1 : x1 = nI j1) (hl_j1 : j1 < 64) (hc1 : C 83 (am_up M (21, 29, 0) j1 5) [am_R (some (20, 0, 0)), am_I x2, am_I x3, am_I x4, am_R (some (21, 22, 0)), am_I (4 * x2)] (M1, Sum.inl none)) (k : am_ev sh C 79 (304, [some (am_R (some (20, 0, 0))), some (am_I x1), some (am_I x2), some (am_I x3), some (am_I x4), u5, u6], [], M1, 0) P) : am_ev sh C 79 (269, [some (am_R (some (20, 0, 0))), some (am_I x1), some (am_I x2), some (am_I x3), some (am_I x4), u5, u6], [], M, 0) P := by
  refine am_e_aload_n dd_79_269 rfl rfl ?_
  refine am_e_gf (ci := 3) (j := 29) (v := am_R (some (21, 29, 0))) dd_79_270 (by decide +kernel) rfl rfl rfl ?_
  refine am_e_iload_n dd_79_273 rfl rfl ?_
  refine am_e_iconst (v := 5) dd_79_274 rfl rfl ?_
  refine am_a_iast dd_79_275 rfl hx_j1 hl_j1 (by decide) rfl ?_
  refine am_e_aload_n dd_79_276 rfl rfl ?_
  refine am_e_iload_n dd_79_277 rfl rfl ?_
  refine am_e_iload_n dd_79_278 rfl rfl ?_
  refine am_e_iload dd_79_279 rfl rfl ?_
  refine am_e_aload_n dd_79_281 rfl rfl ?_
  refine am_e_gf (ci := 3) (j := 22) (v := am_R (some (21, 22, 0))) dd_79_282 (by decide +kernel) rfl rfl rfl ?_
  refine am_e_iconst (v := 4) dd_79_285 rfl rfl ?_
  refine am_e_iload_n dd_79_286 rfl rfl ?_
  refine am_e_imul dd_79_287 rfl ?_
  refine am_e_callV (c := 83) (k := 6) (as := [am_R (some (20, 0, 0)), am_I x2, am_I x3, am_I x4, am_R (some (21, 22, 0)), am_I (4 * x2)]) (S' := []) (v := none) (M' := M1) (n' := 0) dd_79_288 (by decide +kernel) ⟨Nat.le_of_ble_eq_true rfl, Nat.le_of_ble_eq_true rfl, by decide +kernel, (Or.inr (am_rcv_of rfl))⟩ rfl rfl (by decide +kernel) hc1 rfl ?_
  refine am_e_goto (pc' := 304) dd_79_291 rfl ?_
  exact k

theorem sg_79_294 {sh : am_Sh} {C : Nat → am_M → List am_V → am_O → Prop} {P : am_S ⊕ am_O → Prop} {M : am_M} {x1 : Int32} {x2 : Int32} {x3 : Int32} {x4 : Int32} {u5 : Option am_V} {u6 : Option am_V}  (k : am_ev sh C 79 (304, [some (am_R (some (20, 0, 0))), some (am_I x1), some (am_I x2), some (am_I x3), some (am_I x4), u5, u6], [], (am_up M (20, 0, 0) 23 ((M (20, 0, 0) 23) - 1)), 0) P) : am_ev sh C 79 (294, [some (am_R (some (20, 0, 0))), some (am_I x1), some (am_I x2), some (am_I x3), some (am_I x4), u5, u6], [], M, 0) P := by
  refine am_e_aload_n dd_79_294 rfl rfl ?_
  refine am_e_dup dd_79_295 rfl rfl ?_
  refine am_e_gf (ci := 3) (j := 23) (v := am_I (M (20, 0, 0) 23)) dd_79_296 (by decide +kernel) rfl rfl rfl ?_
  refine am_e_iconst (v := 1) dd_79_299 rfl rfl ?_
  refine am_e_isub dd_79_300 rfl ?_
  refine am_e_pf (ci := 3) (j := 23) dd_79_301 (by decide +kernel) rfl rfl (Or.inl rfl) rfl ?_
  exact k

theorem sg_79_304 {sh : am_Sh} {C : Nat → am_M → List am_V → am_O → Prop} {P : am_S ⊕ am_O → Prop} {M : am_M} {x1 : Int32} {x2 : Int32} {x3 : Int32} {x4 : Int32} {u5 : Option am_V} {u6 : Option am_V}  (k : P (Sum.inr (M, Sum.inl none))) : am_ev sh C 79 (304, [some (am_R (some (20, 0, 0))), some (am_I x1), some (am_I x2), some (am_I x3), some (am_I x4), u5, u6], [], M, 0) P := by
  exact am_e_vret dd_79_304 (by decide +kernel) rfl k

-- 80: CacheLadderModel.storeWords(II)V
theorem dd_80_0 : decode (am_b 80) 0 = .ok (.aload_n 0, 1) := by decide +kernel
theorem dd_80_1 : decode (am_b 80) 1 = .ok (.dup, 1) := by decide +kernel
theorem dd_80_2 : decode (am_b 80) 2 = .ok (.getfield 154, 3) := by decide +kernel
theorem dd_80_5 : decode (am_b 80) 5 = .ok (.iconst 1, 1) := by decide +kernel
theorem dd_80_6 : decode (am_b 80) 6 = .ok (.iadd, 1) := by decide +kernel
theorem dd_80_7 : decode (am_b 80) 7 = .ok (.putfield 154, 3) := by decide +kernel
theorem dd_80_10 : decode (am_b 80) 10 = .ok (.iconst 0, 1) := by decide +kernel
theorem dd_80_11 : decode (am_b 80) 11 = .ok (.istore_n 3, 1) := by decide +kernel
theorem dd_80_12 : decode (am_b 80) 12 = .ok (.iload_n 3, 1) := by decide +kernel
theorem dd_80_13 : decode (am_b 80) 13 = .ok (.iconst 4, 1) := by decide +kernel
theorem dd_80_14 : decode (am_b 80) 14 = .ok (.if_icmp .ge 54, 3) := by decide +kernel
theorem dd_80_17 : decode (am_b 80) 17 = .ok (.aload_n 0, 1) := by decide +kernel
theorem dd_80_18 : decode (am_b 80) 18 = .ok (.getfield 53, 3) := by decide +kernel
theorem dd_80_21 : decode (am_b 80) 21 = .ok (.iconst 4, 1) := by decide +kernel
theorem dd_80_22 : decode (am_b 80) 22 = .ok (.iload_n 1, 1) := by decide +kernel
theorem dd_80_23 : decode (am_b 80) 23 = .ok (.imul, 1) := by decide +kernel
theorem dd_80_24 : decode (am_b 80) 24 = .ok (.iload_n 3, 1) := by decide +kernel
theorem dd_80_25 : decode (am_b 80) 25 = .ok (.iadd, 1) := by decide +kernel
theorem dd_80_26 : decode (am_b 80) 26 = .ok (.iload_n 2, 1) := by decide +kernel
theorem dd_80_27 : decode (am_b 80) 27 = .ok (.iload_n 3, 1) := by decide +kernel
theorem dd_80_28 : decode (am_b 80) 28 = .ok (.ishr, 1) := by decide +kernel
theorem dd_80_29 : decode (am_b 80) 29 = .ok (.iconst 1, 1) := by decide +kernel
theorem dd_80_30 : decode (am_b 80) 30 = .ok (.iand, 1) := by decide +kernel
theorem dd_80_31 : decode (am_b 80) 31 = .ok (.iconst 1, 1) := by decide +kernel
theorem dd_80_32 : decode (am_b 80) 32 = .ok (.if_icmp .ne 19, 3) := by decide +kernel
theorem dd_80_35 : decode (am_b 80) 35 = .ok (.aload_n 0, 1) := by decide +kernel
theorem dd_80_36 : decode (am_b 80) 36 = .ok (.getfield 59, 3) := by decide +kernel
theorem dd_80_39 : decode (am_b 80) 39 = .ok (.iconst 4, 1) := by decide +kernel
theorem dd_80_40 : decode (am_b 80) 40 = .ok (.aload_n 0, 1) := by decide +kernel
theorem dd_80_41 : decode (am_b 80) 41 = .ok (.getfield 131, 3) := by decide +kernel
theorem dd_80_44 : decode (am_b 80) 44 = .ok (.imul, 1) := by decide +kernel
theorem dd_80_45 : decode (am_b 80) 45 = .ok (.iload_n 3, 1) := by decide +kernel
theorem dd_80_46 : decode (am_b 80) 46 = .ok (.iadd, 1) := by decide +kernel
theorem dd_80_47 : decode (am_b 80) 47 = .ok (.iaload, 1) := by decide +kernel
theorem dd_80_48 : decode (am_b 80) 48 = .ok (.goto 13, 3) := by decide +kernel
theorem dd_80_51 : decode (am_b 80) 51 = .ok (.aload_n 0, 1) := by decide +kernel
theorem dd_80_52 : decode (am_b 80) 52 = .ok (.getfield 53, 3) := by decide +kernel
theorem dd_80_55 : decode (am_b 80) 55 = .ok (.iconst 4, 1) := by decide +kernel
theorem dd_80_56 : decode (am_b 80) 56 = .ok (.iload_n 1, 1) := by decide +kernel
theorem dd_80_57 : decode (am_b 80) 57 = .ok (.imul, 1) := by decide +kernel
theorem dd_80_58 : decode (am_b 80) 58 = .ok (.iload_n 3, 1) := by decide +kernel
theorem dd_80_59 : decode (am_b 80) 59 = .ok (.iadd, 1) := by decide +kernel
theorem dd_80_60 : decode (am_b 80) 60 = .ok (.iaload, 1) := by decide +kernel
theorem dd_80_61 : decode (am_b 80) 61 = .ok (.iastore, 1) := by decide +kernel
theorem dd_80_62 : decode (am_b 80) 62 = .ok (.iinc 3 1, 3) := by decide +kernel
theorem dd_80_65 : decode (am_b 80) 65 = .ok (.goto (-53), 3) := by decide +kernel
theorem dd_80_68 : decode (am_b 80) 68 = .ok (.aload_n 0, 1) := by decide +kernel
theorem dd_80_69 : decode (am_b 80) 69 = .ok (.dup, 1) := by decide +kernel
theorem dd_80_70 : decode (am_b 80) 70 = .ok (.getfield 102, 3) := by decide +kernel
theorem dd_80_73 : decode (am_b 80) 73 = .ok (.iconst 1, 1) := by decide +kernel
theorem dd_80_74 : decode (am_b 80) 74 = .ok (.isub, 1) := by decide +kernel
theorem dd_80_75 : decode (am_b 80) 75 = .ok (.putfield 102, 3) := by decide +kernel
theorem dd_80_78 : decode (am_b 80) 78 = .ok (.return_, 1) := by decide +kernel
theorem sg_80_0 {sh : am_Sh} {C : Nat → am_M → List am_V → am_O → Prop} {P : am_S ⊕ am_O → Prop} {M : am_M} {x1 : Int32} {x2 : Int32} {u3 : Option am_V}  (k : am_ev sh C 80 (12, [some (am_R (some (20, 0, 0))), some (am_I x1), some (am_I x2), some (am_I 0)], [], (am_up M (20, 0, 0) 20 ((M (20, 0, 0) 20) + 1)), 0) P) : am_ev sh C 80 (0, [some (am_R (some (20, 0, 0))), some (am_I x1), some (am_I x2), u3], [], M, 0) P := by
  refine am_e_aload_n dd_80_0 rfl rfl ?_
  refine am_e_dup dd_80_1 rfl rfl ?_
  refine am_e_gf (ci := 3) (j := 20) (v := am_I (M (20, 0, 0) 20)) dd_80_2 (by decide +kernel) rfl rfl rfl ?_
  refine am_e_iconst (v := 1) dd_80_5 rfl rfl ?_
  refine am_e_iadd dd_80_6 rfl ?_
  refine am_e_pf (ci := 3) (j := 20) dd_80_7 (by decide +kernel) rfl rfl (Or.inl rfl) rfl ?_
  refine am_e_iconst (v := 0) dd_80_10 rfl rfl ?_
  refine am_e_istore_n dd_80_11 (Nat.le_of_ble_eq_true rfl) rfl rfl ?_
  exact k

theorem sg_80_12 {sh : am_Sh} {C : Nat → am_M → List am_V → am_O → Prop} {P : am_S ⊕ am_O → Prop} {M : am_M} {x1 : Int32} {x2 : Int32} {x3 : Int32}  (k1 : 4 ≤ x3 → am_ev sh C 80 (68, [some (am_R (some (20, 0, 0))), some (am_I x1), some (am_I x2), some (am_I x3)], [], M, 0) P) (k2 : ¬ 4 ≤ x3 → am_ev sh C 80 (17, [some (am_R (some (20, 0, 0))), some (am_I x1), some (am_I x2), some (am_I x3)], [], M, 0) P) : am_ev sh C 80 (12, [some (am_R (some (20, 0, 0))), some (am_I x1), some (am_I x2), some (am_I x3)], [], M, 0) P := by
  refine am_e_iload_n dd_80_12 rfl rfl ?_
  refine am_e_iconst (v := 4) dd_80_13 rfl rfl ?_
  exact am_a_icmp_ge (tgt := 68) (pc' := 17) dd_80_14 rfl rfl k1 k2

theorem sg_80_17 {sh : am_Sh} {C : Nat → am_M → List am_V → am_O → Prop} {P : am_S ⊕ am_O → Prop} {M : am_M} {x1 : Int32} {x2 : Int32} {x3 : Int32}  (k1 : ¬ ((x2 >>> (x3 &&& 31)) &&& 1) = 1 → am_ev sh C 80 (51, [some (am_R (some (20, 0, 0))), some (am_I x1), some (am_I x2), some (am_I x3)], [am_I ((4 * x1) + x3), am_R (some (21, 18, 0))], M, 0) P) (k2 : ((x2 >>> (x3 &&& 31)) &&& 1) = 1 → am_ev sh C 80 (35, [some (am_R (some (20, 0, 0))), some (am_I x1), some (am_I x2), some (am_I x3)], [am_I ((4 * x1) + x3), am_R (some (21, 18, 0))], M, 0) P) : am_ev sh C 80 (17, [some (am_R (some (20, 0, 0))), some (am_I x1), some (am_I x2), some (am_I x3)], [], M, 0) P := by
  refine am_e_aload_n dd_80_17 rfl rfl ?_
  refine am_e_gf (ci := 3) (j := 18) (v := am_R (some (21, 18, 0))) dd_80_18 (by decide +kernel) rfl rfl rfl ?_
  refine am_e_iconst (v := 4) dd_80_21 rfl rfl ?_
  refine am_e_iload_n dd_80_22 rfl rfl ?_
  refine am_e_imul dd_80_23 rfl ?_
  refine am_e_iload_n dd_80_24 rfl rfl ?_
  refine am_e_iadd dd_80_25 rfl ?_
  refine am_e_iload_n dd_80_26 rfl rfl ?_
  refine am_e_iload_n dd_80_27 rfl rfl ?_
  refine am_e_ishr dd_80_28 rfl ?_
  refine am_e_iconst (v := 1) dd_80_29 rfl rfl ?_
  refine am_e_iand dd_80_30 rfl ?_
  refine am_e_iconst (v := 1) dd_80_31 rfl rfl ?_
  exact am_a_icmp_ne (tgt := 51) (pc' := 35) dd_80_32 rfl rfl k1 k2

theorem sg_80_35 {sh : am_Sh} {C : Nat → am_M → List am_V → am_O → Prop} {P : am_S ⊕ am_O → Prop} {M : am_M} {x1 : Int32} {x2 : Int32} {x3 : Int32} {os0 : Option am_K} {xs1 : Int32} {j1 : Nat} (hx_j1 : (4 * (M (20, 0, 0) 1)) + x3 = nI j1) (hl_j1 : j1 < 20) (k : am_ev sh C 80 (61, [some (am_R (some (20, 0, 0))), some (am_I x1), some (am_I x2), some (am_I x3)], [am_I (M (21, 22, 0) j1), am_I xs1, am_R os0], M, 0) P) : am_ev sh C 80 (35, [some (am_R (some (20, 0, 0))), some (am_I x1), some (am_I x2), some (am_I x3)], [am_I xs1, am_R os0], M, 0) P := by
  refine am_e_aload_n dd_80_35 rfl rfl ?_
  refine am_e_gf (ci := 3) (j := 22) (v := am_R (some (21, 22, 0))) dd_80_36 (by decide +kernel) rfl rfl rfl ?_
  refine am_e_iconst (v := 4) dd_80_39 rfl rfl ?_
  refine am_e_aload_n dd_80_40 rfl rfl ?_
  refine am_e_gf (ci := 3) (j := 1) (v := am_I (M (20, 0, 0) 1)) dd_80_41 (by decide +kernel) rfl rfl rfl ?_
  refine am_e_imul dd_80_44 rfl ?_
  refine am_e_iload_n dd_80_45 rfl rfl ?_
  refine am_e_iadd dd_80_46 rfl ?_
  refine am_a_iald dd_80_47 rfl hx_j1 hl_j1 (by decide) rfl ?_
  refine am_e_goto (pc' := 61) dd_80_48 rfl ?_
  exact k

theorem sg_80_51 {sh : am_Sh} {C : Nat → am_M → List am_V → am_O → Prop} {P : am_S ⊕ am_O → Prop} {M : am_M} {x1 : Int32} {x2 : Int32} {x3 : Int32} {os0 : Option am_K} {xs1 : Int32} {j1 : Nat} (hx_j1 : (4 * x1) + x3 = nI j1) (hl_j1 : j1 < 1024) (k : am_ev sh C 80 (61, [some (am_R (some (20, 0, 0))), some (am_I x1), some (am_I x2), some (am_I x3)], [am_I (M (21, 18, 0) j1), am_I xs1, am_R os0], M, 0) P) : am_ev sh C 80 (51, [some (am_R (some (20, 0, 0))), some (am_I x1), some (am_I x2), some (am_I x3)], [am_I xs1, am_R os0], M, 0) P := by
  refine am_e_aload_n dd_80_51 rfl rfl ?_
  refine am_e_gf (ci := 3) (j := 18) (v := am_R (some (21, 18, 0))) dd_80_52 (by decide +kernel) rfl rfl rfl ?_
  refine am_e_iconst (v := 4) dd_80_55 rfl rfl ?_
  refine am_e_iload_n dd_80_56 rfl rfl ?_
  refine am_e_imul dd_80_57 rfl ?_
  refine am_e_iload_n dd_80_58 rfl rfl ?_
  refine am_e_iadd dd_80_59 rfl ?_
  refine am_a_iald dd_80_60 rfl hx_j1 hl_j1 (by decide) rfl ?_
  exact k

theorem sg_80_61 {sh : am_Sh} {C : Nat → am_M → List am_V → am_O → Prop} {P : am_S ⊕ am_O → Prop} {M : am_M} {x1 : Int32} {x2 : Int32} {x3 : Int32} {ks0 : am_K} {Ns0 : Nat} {xs1 : Int32} {xs2 : Int32} {j1 : Nat} (hz_ks0 : Ns0 < 2147483648) (hx_j1 : xs1 = nI j1) (hl_j1 : j1 < Ns0) (hk_ks0 : am_ct sh ks0 = some (Sum.inr (0, Ns0))) (k : am_ev sh C 80 (12, [some (am_R (some (20, 0, 0))), some (am_I x1), some (am_I x2), some (am_I (x3 + 1))], [], (am_up M ks0 j1 xs2), 0) P) : am_ev sh C 80 (61, [some (am_R (some (20, 0, 0))), some (am_I x1), some (am_I x2), some (am_I x3)], [am_I xs2, am_I xs1, am_R (some ks0)], M, 0) P := by
  refine am_a_iast dd_80_61 hk_ks0 hx_j1 hl_j1 hz_ks0 rfl ?_
  refine am_e_iinc (v := x3 + 1) dd_80_62 rfl rfl rfl rfl ?_
  refine am_e_goto (pc' := 12) dd_80_65 rfl ?_
  exact k

theorem sg_80_68 {sh : am_Sh} {C : Nat → am_M → List am_V → am_O → Prop} {P : am_S ⊕ am_O → Prop} {M : am_M} {x1 : Int32} {x2 : Int32} {x3 : Int32}  (k : P (Sum.inr ((am_up M (20, 0, 0) 23 ((M (20, 0, 0) 23) - 1)), Sum.inl none))) : am_ev sh C 80 (68, [some (am_R (some (20, 0, 0))), some (am_I x1), some (am_I x2), some (am_I x3)], [], M, 0) P := by
  refine am_e_aload_n dd_80_68 rfl rfl ?_
  refine am_e_dup dd_80_69 rfl rfl ?_
  refine am_e_gf (ci := 3) (j := 23) (v := am_I (M (20, 0, 0) 23)) dd_80_70 (by decide +kernel) rfl rfl rfl ?_
  refine am_e_iconst (v := 1) dd_80_73 rfl rfl ?_
  refine am_e_isub dd_80_74 rfl ?_
  refine am_e_pf (ci := 3) (j := 23) dd_80_75 (by decide +kernel) rfl rfl (Or.inl rfl) rfl ?_
  exact am_e_vret dd_80_78 (by decide +kernel) rfl k

-- 81: CacheLadderModel.beginWrite(I)V
theorem dd_81_0 : decode (am_b 81) 0 = .ok (.aload_n 0, 1) := by decide +kernel
theorem dd_81_1 : decode (am_b 81) 1 = .ok (.getfield 65, 3) := by decide +kernel
theorem dd_81_4 : decode (am_b 81) 4 = .ok (.iload_n 1, 1) := by decide +kernel
theorem dd_81_5 : decode (am_b 81) 5 = .ok (.iaload, 1) := by decide +kernel
theorem dd_81_6 : decode (am_b 81) 6 = .ok (.istore_n 2, 1) := by decide +kernel
theorem dd_81_7 : decode (am_b 81) 7 = .ok (.aload_n 0, 1) := by decide +kernel
theorem dd_81_8 : decode (am_b 81) 8 = .ok (.iload_n 2, 1) := by decide +kernel
theorem dd_81_9 : decode (am_b 81) 9 = .ok (.aload_n 0, 1) := by decide +kernel
theorem dd_81_10 : decode (am_b 81) 10 = .ok (.getfield 68, 3) := by decide +kernel
theorem dd_81_13 : decode (am_b 81) 13 = .ok (.iload_n 1, 1) := by decide +kernel
theorem dd_81_14 : decode (am_b 81) 14 = .ok (.iaload, 1) := by decide +kernel
theorem dd_81_15 : decode (am_b 81) 15 = .ok (.invokevirtual 137, 3) := by decide +kernel
theorem dd_81_18 : decode (am_b 81) 18 = .ok (.istore_n 3, 1) := by decide +kernel
theorem dd_81_19 : decode (am_b 81) 19 = .ok (.aload_n 0, 1) := by decide +kernel
theorem dd_81_20 : decode (am_b 81) 20 = .ok (.getfield 74, 3) := by decide +kernel
theorem dd_81_23 : decode (am_b 81) 23 = .ok (.iload_n 1, 1) := by decide +kernel
theorem dd_81_24 : decode (am_b 81) 24 = .ok (.iload_n 3, 1) := by decide +kernel
theorem dd_81_25 : decode (am_b 81) 25 = .ok (.iastore, 1) := by decide +kernel
theorem dd_81_26 : decode (am_b 81) 26 = .ok (.aload_n 0, 1) := by decide +kernel
theorem dd_81_27 : decode (am_b 81) 27 = .ok (.getfield 19, 3) := by decide +kernel
theorem dd_81_30 : decode (am_b 81) 30 = .ok (.iload_n 2, 1) := by decide +kernel
theorem dd_81_31 : decode (am_b 81) 31 = .ok (.iaload, 1) := by decide +kernel
theorem dd_81_32 : decode (am_b 81) 32 = .ok (.iconst 2, 1) := by decide +kernel
theorem dd_81_33 : decode (am_b 81) 33 = .ok (.if_icmp .ne 39, 3) := by decide +kernel
theorem dd_81_36 : decode (am_b 81) 36 = .ok (.aload_n 0, 1) := by decide +kernel
theorem dd_81_37 : decode (am_b 81) 37 = .ok (.getfield 26, 3) := by decide +kernel
theorem dd_81_40 : decode (am_b 81) 40 = .ok (.bipush 6, 2) := by decide +kernel
theorem dd_81_42 : decode (am_b 81) 42 = .ok (.iload_n 2, 1) := by decide +kernel
theorem dd_81_43 : decode (am_b 81) 43 = .ok (.imul, 1) := by decide +kernel
theorem dd_81_44 : decode (am_b 81) 44 = .ok (.iconst 3, 1) := by decide +kernel
theorem dd_81_45 : decode (am_b 81) 45 = .ok (.iadd, 1) := by decide +kernel
theorem dd_81_46 : decode (am_b 81) 46 = .ok (.dup2, 1) := by decide +kernel
theorem dd_81_47 : decode (am_b 81) 47 = .ok (.iaload, 1) := by decide +kernel
theorem dd_81_48 : decode (am_b 81) 48 = .ok (.iconst 1, 1) := by decide +kernel
theorem dd_81_49 : decode (am_b 81) 49 = .ok (.iadd, 1) := by decide +kernel
theorem dd_81_50 : decode (am_b 81) 50 = .ok (.iastore, 1) := by decide +kernel
theorem dd_81_51 : decode (am_b 81) 51 = .ok (.aload_n 0, 1) := by decide +kernel
theorem dd_81_52 : decode (am_b 81) 52 = .ok (.getfield 77, 3) := by decide +kernel
theorem dd_81_55 : decode (am_b 81) 55 = .ok (.iload_n 1, 1) := by decide +kernel
theorem dd_81_56 : decode (am_b 81) 56 = .ok (.iconst 4, 1) := by decide +kernel
theorem dd_81_57 : decode (am_b 81) 57 = .ok (.iastore, 1) := by decide +kernel
theorem dd_81_58 : decode (am_b 81) 58 = .ok (.iload_n 3, 1) := by decide +kernel
theorem dd_81_59 : decode (am_b 81) 59 = .ok (.ifCond .lt 12, 3) := by decide +kernel
theorem dd_81_62 : decode (am_b 81) 62 = .ok (.aload_n 0, 1) := by decide +kernel
theorem dd_81_63 : decode (am_b 81) 63 = .ok (.iconst 2, 1) := by decide +kernel
theorem dd_81_64 : decode (am_b 81) 64 = .ok (.iload_n 2, 1) := by decide +kernel
theorem dd_81_65 : decode (am_b 81) 65 = .ok (.iconst 0, 1) := by decide +kernel
theorem dd_81_66 : decode (am_b 81) 66 = .ok (.iconst 0, 1) := by decide +kernel
theorem dd_81_67 : decode (am_b 81) 67 = .ok (.iload_n 3, 1) := by decide +kernel
theorem dd_81_68 : decode (am_b 81) 68 = .ok (.invokevirtual 124, 3) := by decide +kernel
theorem dd_81_71 : decode (am_b 81) 71 = .ok (.return_, 1) := by decide +kernel
theorem dd_81_72 : decode (am_b 81) 72 = .ok (.aload_n 0, 1) := by decide +kernel
theorem dd_81_73 : decode (am_b 81) 73 = .ok (.getfield 26, 3) := by decide +kernel
theorem dd_81_76 : decode (am_b 81) 76 = .ok (.bipush 6, 2) := by decide +kernel
theorem dd_81_78 : decode (am_b 81) 78 = .ok (.iload_n 2, 1) := by decide +kernel
theorem dd_81_79 : decode (am_b 81) 79 = .ok (.imul, 1) := by decide +kernel
theorem dd_81_80 : decode (am_b 81) 80 = .ok (.iload_n 3, 1) := by decide +kernel
theorem dd_81_81 : decode (am_b 81) 81 = .ok (.ifCond .lt 7, 3) := by decide +kernel
theorem dd_81_84 : decode (am_b 81) 84 = .ok (.iconst 2, 1) := by decide +kernel
theorem dd_81_85 : decode (am_b 81) 85 = .ok (.goto 4, 3) := by decide +kernel
theorem dd_81_88 : decode (am_b 81) 88 = .ok (.iconst 3, 1) := by decide +kernel
theorem dd_81_89 : decode (am_b 81) 89 = .ok (.iadd, 1) := by decide +kernel
theorem dd_81_90 : decode (am_b 81) 90 = .ok (.dup2, 1) := by decide +kernel
theorem dd_81_91 : decode (am_b 81) 91 = .ok (.iaload, 1) := by decide +kernel
theorem dd_81_92 : decode (am_b 81) 92 = .ok (.iconst 1, 1) := by decide +kernel
theorem dd_81_93 : decode (am_b 81) 93 = .ok (.iadd, 1) := by decide +kernel
theorem dd_81_94 : decode (am_b 81) 94 = .ok (.iastore, 1) := by decide +kernel
theorem dd_81_95 : decode (am_b 81) 95 = .ok (.iload_n 3, 1) := by decide +kernel
theorem dd_81_96 : decode (am_b 81) 96 = .ok (.ifCond .ge 11, 3) := by decide +kernel
theorem dd_81_99 : decode (am_b 81) 99 = .ok (.aload_n 0, 1) := by decide +kernel
theorem dd_81_100 : decode (am_b 81) 100 = .ok (.iload_n 1, 1) := by decide +kernel
theorem dd_81_101 : decode (am_b 81) 101 = .ok (.invokevirtual 140, 3) := by decide +kernel
theorem dd_81_104 : decode (am_b 81) 104 = .ok (.goto 15, 3) := by decide +kernel
theorem dd_81_107 : decode (am_b 81) 107 = .ok (.aload_n 0, 1) := by decide +kernel
theorem dd_81_108 : decode (am_b 81) 108 = .ok (.iload_n 3, 1) := by decide +kernel
theorem dd_81_109 : decode (am_b 81) 109 = .ok (.invokevirtual 94, 3) := by decide +kernel
theorem dd_81_112 : decode (am_b 81) 112 = .ok (.aload_n 0, 1) := by decide +kernel
theorem dd_81_113 : decode (am_b 81) 113 = .ok (.getfield 77, 3) := by decide +kernel
theorem dd_81_116 : decode (am_b 81) 116 = .ok (.iload_n 1, 1) := by decide +kernel
theorem dd_81_117 : decode (am_b 81) 117 = .ok (.iconst 3, 1) := by decide +kernel
theorem dd_81_118 : decode (am_b 81) 118 = .ok (.iastore, 1) := by decide +kernel
theorem dd_81_119 : decode (am_b 81) 119 = .ok (.return_, 1) := by decide +kernel
theorem sg_81_0 {sh : am_Sh} {C : Nat → am_M → List am_V → am_O → Prop} {P : am_S ⊕ am_O → Prop} {M : am_M} {x1 : Int32} {u2 : Option am_V} {u3 : Option am_V} {j1 : Nat} {j2 : Nat} {M1 : am_M} {r1 : Int32} {j3 : Nat} {j4 : Nat} (hx_j1 : x1 = nI j1) (hl_j1 : j1 < 64) (hx_j2 : x1 = nI j2) (hl_j2 : j2 < 64) (hc1 : C 68 M [am_R (some (20, 0, 0)), am_I (M (21, 25, 0) j1), am_I (M (21, 26, 0) j2)] (M1, Sum.inl (some (am_I r1)))) (hx_j3 : x1 = nI j3) (hl_j3 : j3 < 64) (hx_j4 : M (21, 25, 0) j1 = nI j4) (hl_j4 : j4 < 4) (k1 : ¬ ((am_up M1 (21, 28, 0) j3 r1) (21, 6, 0) j4) = 2 → am_ev sh C 81 (72, [some (am_R (some (20, 0, 0))), some (am_I x1), some (am_I (M (21, 25, 0) j1)), some (am_I r1)], [], (am_up M1 (21, 28, 0) j3 r1), 0) P) (k2 : ((am_up M1 (21, 28, 0) j3 r1) (21, 6, 0) j4) = 2 → am_ev sh C 81 (36, [some (am_R (some (20, 0, 0))), some (am_I x1), some (am_I (M (21, 25, 0) j1)), some (am_I r1)], [], (am_up M1 (21, 28, 0) j3 r1), 0) P) : am_ev sh C 81 (0, [some (am_R (some (20, 0, 0))), some (am_I x1), u2, u3], [], M, 0) P := by
  refine am_e_aload_n dd_81_0 rfl rfl ?_
  refine am_e_gf (ci := 3) (j := 25) (v := am_R (some (21, 25, 0))) dd_81_1 (by decide +kernel) rfl rfl rfl ?_
  refine am_e_iload_n dd_81_4 rfl rfl ?_
  refine am_a_iald dd_81_5 rfl hx_j1 hl_j1 (by decide) rfl ?_
  refine am_e_istore_n dd_81_6 (Nat.le_of_ble_eq_true rfl) rfl rfl ?_
  refine am_e_aload_n dd_81_7 rfl rfl ?_
  refine am_e_iload_n dd_81_8 rfl rfl ?_
  refine am_e_aload_n dd_81_9 rfl rfl ?_
  refine am_e_gf (ci := 3) (j := 26) (v := am_R (some (21, 26, 0))) dd_81_10 (by decide +kernel) rfl rfl rfl ?_
  refine am_e_iload_n dd_81_13 rfl rfl ?_
  refine am_a_iald dd_81_14 rfl hx_j2 hl_j2 (by decide) rfl ?_
  refine am_e_callV (c := 68) (k := 3) (as := [am_R (some (20, 0, 0)), am_I (M (21, 25, 0) j1), am_I (M (21, 26, 0) j2)]) (S' := [am_I r1]) (v := some (am_I r1)) (M' := M1) (n' := 0) dd_81_15 (by decide +kernel) ⟨Nat.le_of_ble_eq_true rfl, Nat.le_of_ble_eq_true rfl, by decide +kernel, (Or.inr (am_rcv_of rfl))⟩ rfl rfl (by decide +kernel) hc1 rfl ?_
  refine am_e_istore_n dd_81_18 (Nat.le_of_ble_eq_true rfl) rfl rfl ?_
  refine am_e_aload_n dd_81_19 rfl rfl ?_
  refine am_e_gf (ci := 3) (j := 28) (v := am_R (some (21, 28, 0))) dd_81_20 (by decide +kernel) rfl rfl rfl ?_
  refine am_e_iload_n dd_81_23 rfl rfl ?_
  refine am_e_iload_n dd_81_24 rfl rfl ?_
  refine am_a_iast dd_81_25 rfl hx_j3 hl_j3 (by decide) rfl ?_
  refine am_e_aload_n dd_81_26 rfl rfl ?_
  refine am_e_gf (ci := 3) (j := 6) (v := am_R (some (21, 6, 0))) dd_81_27 (by decide +kernel) rfl rfl rfl ?_
  refine am_e_iload_n dd_81_30 rfl rfl ?_
  refine am_a_iald dd_81_31 rfl hx_j4 hl_j4 (by decide) rfl ?_
  refine am_e_iconst (v := 2) dd_81_32 rfl rfl ?_
  exact am_a_icmp_ne (tgt := 72) (pc' := 36) dd_81_33 rfl rfl k1 k2

theorem sg_81_36 {sh : am_Sh} {C : Nat → am_M → List am_V → am_O → Prop} {P : am_S ⊕ am_O → Prop} {M : am_M} {x1 : Int32} {x2 : Int32} {x3 : Int32} {j1 : Nat} {j2 : Nat} (hx_j1 : (6 * x2) + 3 = nI j1) (hl_j1 : j1 < 24) (hx_j2 : x1 = nI j2) (hl_j2 : j2 < 64) (k1 : x3 < 0 → am_ev sh C 81 (71, [some (am_R (some (20, 0, 0))), some (am_I x1), some (am_I x2), some (am_I x3)], [], (am_up (am_up M (21, 8, 0) j1 ((M (21, 8, 0) j1) + 1)) (21, 29, 0) j2 4), 0) P) (k2 : ¬ x3 < 0 → am_ev sh C 81 (62, [some (am_R (some (20, 0, 0))), some (am_I x1), some (am_I x2), some (am_I x3)], [], (am_up (am_up M (21, 8, 0) j1 ((M (21, 8, 0) j1) + 1)) (21, 29, 0) j2 4), 0) P) : am_ev sh C 81 (36, [some (am_R (some (20, 0, 0))), some (am_I x1), some (am_I x2), some (am_I x3)], [], M, 0) P := by
  refine am_e_aload_n dd_81_36 rfl rfl ?_
  refine am_e_gf (ci := 3) (j := 8) (v := am_R (some (21, 8, 0))) dd_81_37 (by decide +kernel) rfl rfl rfl ?_
  refine am_e_bipush (v := 6) dd_81_40 (by decide) rfl ?_
  refine am_e_iload_n dd_81_42 rfl rfl ?_
  refine am_e_imul dd_81_43 rfl ?_
  refine am_e_iconst (v := 3) dd_81_44 rfl rfl ?_
  refine am_e_iadd dd_81_45 rfl ?_
  refine am_e_dup2 dd_81_46 rfl rfl rfl ?_
  refine am_a_iald dd_81_47 rfl hx_j1 hl_j1 (by decide) rfl ?_
  refine am_e_iconst (v := 1) dd_81_48 rfl rfl ?_
  refine am_e_iadd dd_81_49 rfl ?_
  refine am_a_iast dd_81_50 rfl hx_j1 hl_j1 (by decide) rfl ?_
  refine am_e_aload_n dd_81_51 rfl rfl ?_
  refine am_e_gf (ci := 3) (j := 29) (v := am_R (some (21, 29, 0))) dd_81_52 (by decide +kernel) rfl rfl rfl ?_
  refine am_e_iload_n dd_81_55 rfl rfl ?_
  refine am_e_iconst (v := 4) dd_81_56 rfl rfl ?_
  refine am_a_iast dd_81_57 rfl hx_j2 hl_j2 (by decide) rfl ?_
  refine am_e_iload_n dd_81_58 rfl rfl ?_
  exact am_a_if_lt (tgt := 71) (pc' := 62) dd_81_59 rfl rfl k1 k2

theorem sg_81_62 {sh : am_Sh} {C : Nat → am_M → List am_V → am_O → Prop} {P : am_S ⊕ am_O → Prop} {M : am_M} {x1 : Int32} {x2 : Int32} {x3 : Int32} {M1 : am_M} (hc1 : C 65 M [am_R (some (20, 0, 0)), am_I 2, am_I x2, am_I 0, am_I 0, am_I x3] (M1, Sum.inl none)) (k : am_ev sh C 81 (71, [some (am_R (some (20, 0, 0))), some (am_I x1), some (am_I x2), some (am_I x3)], [], M1, 0) P) : am_ev sh C 81 (62, [some (am_R (some (20, 0, 0))), some (am_I x1), some (am_I x2), some (am_I x3)], [], M, 0) P := by
  refine am_e_aload_n dd_81_62 rfl rfl ?_
  refine am_e_iconst (v := 2) dd_81_63 rfl rfl ?_
  refine am_e_iload_n dd_81_64 rfl rfl ?_
  refine am_e_iconst (v := 0) dd_81_65 rfl rfl ?_
  refine am_e_iconst (v := 0) dd_81_66 rfl rfl ?_
  refine am_e_iload_n dd_81_67 rfl rfl ?_
  refine am_e_callV (c := 65) (k := 6) (as := [am_R (some (20, 0, 0)), am_I 2, am_I x2, am_I 0, am_I 0, am_I x3]) (S' := []) (v := none) (M' := M1) (n' := 0) dd_81_68 (by decide +kernel) ⟨Nat.le_of_ble_eq_true rfl, Nat.le_of_ble_eq_true rfl, by decide +kernel, (Or.inr (am_rcv_of rfl))⟩ rfl rfl (by decide +kernel) hc1 rfl ?_
  exact k

theorem sg_81_71 {sh : am_Sh} {C : Nat → am_M → List am_V → am_O → Prop} {P : am_S ⊕ am_O → Prop} {M : am_M} {x1 : Int32} {x2 : Int32} {x3 : Int32}  (k : P (Sum.inr (M, Sum.inl none))) : am_ev sh C 81 (71, [some (am_R (some (20, 0, 0))), some (am_I x1), some (am_I x2), some (am_I x3)], [], M, 0) P := by
  exact am_e_vret dd_81_71 (by decide +kernel) rfl k

theorem sg_81_72 {sh : am_Sh} {C : Nat → am_M → List am_V → am_O → Prop} {P : am_S ⊕ am_O → Prop} {M : am_M} {x1 : Int32} {x2 : Int32} {x3 : Int32}  (k1 : x3 < 0 → am_ev sh C 81 (88, [some (am_R (some (20, 0, 0))), some (am_I x1), some (am_I x2), some (am_I x3)], [am_I (6 * x2), am_R (some (21, 8, 0))], M, 0) P) (k2 : ¬ x3 < 0 → am_ev sh C 81 (84, [some (am_R (some (20, 0, 0))), some (am_I x1), some (am_I x2), some (am_I x3)], [am_I (6 * x2), am_R (some (21, 8, 0))], M, 0) P) : am_ev sh C 81 (72, [some (am_R (some (20, 0, 0))), some (am_I x1), some (am_I x2), some (am_I x3)], [], M, 0) P := by
  refine am_e_aload_n dd_81_72 rfl rfl ?_
  refine am_e_gf (ci := 3) (j := 8) (v := am_R (some (21, 8, 0))) dd_81_73 (by decide +kernel) rfl rfl rfl ?_
  refine am_e_bipush (v := 6) dd_81_76 (by decide) rfl ?_
  refine am_e_iload_n dd_81_78 rfl rfl ?_
  refine am_e_imul dd_81_79 rfl ?_
  refine am_e_iload_n dd_81_80 rfl rfl ?_
  exact am_a_if_lt (tgt := 88) (pc' := 84) dd_81_81 rfl rfl k1 k2

theorem sg_81_84 {sh : am_Sh} {C : Nat → am_M → List am_V → am_O → Prop} {P : am_S ⊕ am_O → Prop} {M : am_M} {x1 : Int32} {x2 : Int32} {x3 : Int32} {os0 : Option am_K} {xs1 : Int32}  (k : am_ev sh C 81 (89, [some (am_R (some (20, 0, 0))), some (am_I x1), some (am_I x2), some (am_I x3)], [am_I 2, am_I xs1, am_R os0], M, 0) P) : am_ev sh C 81 (84, [some (am_R (some (20, 0, 0))), some (am_I x1), some (am_I x2), some (am_I x3)], [am_I xs1, am_R os0], M, 0) P := by
  refine am_e_iconst (v := 2) dd_81_84 rfl rfl ?_
  refine am_e_goto (pc' := 89) dd_81_85 rfl ?_
  exact k

theorem sg_81_88 {sh : am_Sh} {C : Nat → am_M → List am_V → am_O → Prop} {P : am_S ⊕ am_O → Prop} {M : am_M} {x1 : Int32} {x2 : Int32} {x3 : Int32} {os0 : Option am_K} {xs1 : Int32}  (k : am_ev sh C 81 (89, [some (am_R (some (20, 0, 0))), some (am_I x1), some (am_I x2), some (am_I x3)], [am_I 3, am_I xs1, am_R os0], M, 0) P) : am_ev sh C 81 (88, [some (am_R (some (20, 0, 0))), some (am_I x1), some (am_I x2), some (am_I x3)], [am_I xs1, am_R os0], M, 0) P := by
  refine am_e_iconst (v := 3) dd_81_88 rfl rfl ?_
  exact k

theorem sg_81_89 {sh : am_Sh} {C : Nat → am_M → List am_V → am_O → Prop} {P : am_S ⊕ am_O → Prop} {M : am_M} {x1 : Int32} {x2 : Int32} {x3 : Int32} {ks0 : am_K} {Ns0 : Nat} {xs1 : Int32} {xs2 : Int32} {j1 : Nat} (hz_ks0 : Ns0 < 2147483648) (hx_j1 : xs1 + xs2 = nI j1) (hl_j1 : j1 < Ns0) (hk_ks0 : am_ct sh ks0 = some (Sum.inr (0, Ns0))) (k1 : 0 ≤ x3 → am_ev sh C 81 (107, [some (am_R (some (20, 0, 0))), some (am_I x1), some (am_I x2), some (am_I x3)], [], (am_up M ks0 j1 ((M ks0 j1) + 1)), 0) P) (k2 : ¬ 0 ≤ x3 → am_ev sh C 81 (99, [some (am_R (some (20, 0, 0))), some (am_I x1), some (am_I x2), some (am_I x3)], [], (am_up M ks0 j1 ((M ks0 j1) + 1)), 0) P) : am_ev sh C 81 (89, [some (am_R (some (20, 0, 0))), some (am_I x1), some (am_I x2), some (am_I x3)], [am_I xs2, am_I xs1, am_R (some ks0)], M, 0) P := by
  refine am_e_iadd dd_81_89 rfl ?_
  refine am_e_dup2 dd_81_90 rfl rfl rfl ?_
  refine am_a_iald dd_81_91 hk_ks0 hx_j1 hl_j1 hz_ks0 rfl ?_
  refine am_e_iconst (v := 1) dd_81_92 rfl rfl ?_
  refine am_e_iadd dd_81_93 rfl ?_
  refine am_a_iast dd_81_94 hk_ks0 hx_j1 hl_j1 hz_ks0 rfl ?_
  refine am_e_iload_n dd_81_95 rfl rfl ?_
  exact am_a_if_ge (tgt := 107) (pc' := 99) dd_81_96 rfl rfl k1 k2

theorem sg_81_99 {sh : am_Sh} {C : Nat → am_M → List am_V → am_O → Prop} {P : am_S ⊕ am_O → Prop} {M : am_M} {x1 : Int32} {x2 : Int32} {x3 : Int32} {M1 : am_M} (hc1 : C 70 M [am_R (some (20, 0, 0)), am_I x1] (M1, Sum.inl none)) (k : am_ev sh C 81 (119, [some (am_R (some (20, 0, 0))), some (am_I x1), some (am_I x2), some (am_I x3)], [], M1, 0) P) : am_ev sh C 81 (99, [some (am_R (some (20, 0, 0))), some (am_I x1), some (am_I x2), some (am_I x3)], [], M, 0) P := by
  refine am_e_aload_n dd_81_99 rfl rfl ?_
  refine am_e_iload_n dd_81_100 rfl rfl ?_
  refine am_e_callV (c := 70) (k := 2) (as := [am_R (some (20, 0, 0)), am_I x1]) (S' := []) (v := none) (M' := M1) (n' := 0) dd_81_101 (by decide +kernel) ⟨Nat.le_of_ble_eq_true rfl, Nat.le_of_ble_eq_true rfl, by decide +kernel, (Or.inr (am_rcv_of rfl))⟩ rfl rfl (by decide +kernel) hc1 rfl ?_
  refine am_e_goto (pc' := 119) dd_81_104 rfl ?_
  exact k

theorem sg_81_107 {sh : am_Sh} {C : Nat → am_M → List am_V → am_O → Prop} {P : am_S ⊕ am_O → Prop} {M : am_M} {x1 : Int32} {x2 : Int32} {x3 : Int32} {M1 : am_M} {j1 : Nat} (hc1 : C 75 M [am_R (some (20, 0, 0)), am_I x3] (M1, Sum.inl none)) (hx_j1 : x1 = nI j1) (hl_j1 : j1 < 64) (k : am_ev sh C 81 (119, [some (am_R (some (20, 0, 0))), some (am_I x1), some (am_I x2), some (am_I x3)], [], (am_up M1 (21, 29, 0) j1 3), 0) P) : am_ev sh C 81 (107, [some (am_R (some (20, 0, 0))), some (am_I x1), some (am_I x2), some (am_I x3)], [], M, 0) P := by
  refine am_e_aload_n dd_81_107 rfl rfl ?_
  refine am_e_iload_n dd_81_108 rfl rfl ?_
  refine am_e_callV (c := 75) (k := 2) (as := [am_R (some (20, 0, 0)), am_I x3]) (S' := []) (v := none) (M' := M1) (n' := 0) dd_81_109 (by decide +kernel) ⟨Nat.le_of_ble_eq_true rfl, Nat.le_of_ble_eq_true rfl, by decide +kernel, (Or.inr (am_rcv_of rfl))⟩ rfl rfl (by decide +kernel) hc1 rfl ?_
  refine am_e_aload_n dd_81_112 rfl rfl ?_
  refine am_e_gf (ci := 3) (j := 29) (v := am_R (some (21, 29, 0))) dd_81_113 (by decide +kernel) rfl rfl rfl ?_
  refine am_e_iload_n dd_81_116 rfl rfl ?_
  refine am_e_iconst (v := 3) dd_81_117 rfl rfl ?_
  refine am_a_iast dd_81_118 rfl hx_j1 hl_j1 (by decide) rfl ?_
  exact k

theorem sg_81_119 {sh : am_Sh} {C : Nat → am_M → List am_V → am_O → Prop} {P : am_S ⊕ am_O → Prop} {M : am_M} {x1 : Int32} {x2 : Int32} {x3 : Int32}  (k : P (Sum.inr (M, Sum.inl none))) : am_ev sh C 81 (119, [some (am_R (some (20, 0, 0))), some (am_I x1), some (am_I x2), some (am_I x3)], [], M, 0) P := by
  exact am_e_vret dd_81_119 (by decide +kernel) rfl k

-- 82: CacheLadderModel.isWatched(I)Z
theorem dd_82_0 : decode (am_b 82) 0 = .ok (.iconst 0, 1) := by decide +kernel
theorem dd_82_1 : decode (am_b 82) 1 = .ok (.istore_n 2, 1) := by decide +kernel
theorem dd_82_2 : decode (am_b 82) 2 = .ok (.iload_n 1, 1) := by decide +kernel
theorem dd_82_3 : decode (am_b 82) 3 = .ok (.iconst 1, 1) := by decide +kernel
theorem dd_82_4 : decode (am_b 82) 4 = .ok (.iadd, 1) := by decide +kernel
theorem dd_82_5 : decode (am_b 82) 5 = .ok (.istore_n 3, 1) := by decide +kernel
theorem dd_82_6 : decode (am_b 82) 6 = .ok (.iload_n 3, 1) := by decide +kernel
theorem dd_82_7 : decode (am_b 82) 7 = .ok (.aload_n 0, 1) := by decide +kernel
theorem dd_82_8 : decode (am_b 82) 8 = .ok (.getfield 131, 3) := by decide +kernel
theorem dd_82_11 : decode (am_b 82) 11 = .ok (.if_icmp .ge 28, 3) := by decide +kernel
theorem dd_82_14 : decode (am_b 82) 14 = .ok (.iload_n 2, 1) := by decide +kernel
theorem dd_82_15 : decode (am_b 82) 15 = .ok (.ifCond .ne 12, 3) := by decide +kernel
theorem dd_82_18 : decode (am_b 82) 18 = .ok (.aload_n 0, 1) := by decide +kernel
theorem dd_82_19 : decode (am_b 82) 19 = .ok (.getfield 22, 3) := by decide +kernel
theorem dd_82_22 : decode (am_b 82) 22 = .ok (.iload_n 3, 1) := by decide +kernel
theorem dd_82_23 : decode (am_b 82) 23 = .ok (.baload, 1) := by decide +kernel
theorem dd_82_24 : decode (am_b 82) 24 = .ok (.ifCond .eq 7, 3) := by decide +kernel
theorem dd_82_27 : decode (am_b 82) 27 = .ok (.iconst 1, 1) := by decide +kernel
theorem dd_82_28 : decode (am_b 82) 28 = .ok (.goto 4, 3) := by decide +kernel
theorem dd_82_31 : decode (am_b 82) 31 = .ok (.iconst 0, 1) := by decide +kernel
theorem dd_82_32 : decode (am_b 82) 32 = .ok (.istore_n 2, 1) := by decide +kernel
theorem dd_82_33 : decode (am_b 82) 33 = .ok (.iinc 3 1, 3) := by decide +kernel
theorem dd_82_36 : decode (am_b 82) 36 = .ok (.goto (-30), 3) := by decide +kernel
theorem dd_82_39 : decode (am_b 82) 39 = .ok (.iload_n 2, 1) := by decide +kernel
theorem dd_82_40 : decode (am_b 82) 40 = .ok (.ireturn, 1) := by decide +kernel
theorem sg_82_0 {sh : am_Sh} {C : Nat → am_M → List am_V → am_O → Prop} {P : am_S ⊕ am_O → Prop} {M : am_M} {x1 : Int32} {u2 : Option am_V} {u3 : Option am_V}  (k : am_ev sh C 82 (6, [some (am_R (some (20, 0, 0))), some (am_I x1), some (am_I 0), some (am_I (x1 + 1))], [], M, 0) P) : am_ev sh C 82 (0, [some (am_R (some (20, 0, 0))), some (am_I x1), u2, u3], [], M, 0) P := by
  refine am_e_iconst (v := 0) dd_82_0 rfl rfl ?_
  refine am_e_istore_n dd_82_1 (Nat.le_of_ble_eq_true rfl) rfl rfl ?_
  refine am_e_iload_n dd_82_2 rfl rfl ?_
  refine am_e_iconst (v := 1) dd_82_3 rfl rfl ?_
  refine am_e_iadd dd_82_4 rfl ?_
  refine am_e_istore_n dd_82_5 (Nat.le_of_ble_eq_true rfl) rfl rfl ?_
  exact k

theorem sg_82_6 {sh : am_Sh} {C : Nat → am_M → List am_V → am_O → Prop} {P : am_S ⊕ am_O → Prop} {M : am_M} {x1 : Int32} {x2 : Int32} {x3 : Int32}  (k1 : (M (20, 0, 0) 1) ≤ x3 → am_ev sh C 82 (39, [some (am_R (some (20, 0, 0))), some (am_I x1), some (am_I x2), some (am_I x3)], [], M, 0) P) (k2 : ¬ (M (20, 0, 0) 1) ≤ x3 → am_ev sh C 82 (14, [some (am_R (some (20, 0, 0))), some (am_I x1), some (am_I x2), some (am_I x3)], [], M, 0) P) : am_ev sh C 82 (6, [some (am_R (some (20, 0, 0))), some (am_I x1), some (am_I x2), some (am_I x3)], [], M, 0) P := by
  refine am_e_iload_n dd_82_6 rfl rfl ?_
  refine am_e_aload_n dd_82_7 rfl rfl ?_
  refine am_e_gf (ci := 3) (j := 1) (v := am_I (M (20, 0, 0) 1)) dd_82_8 (by decide +kernel) rfl rfl rfl ?_
  exact am_a_icmp_ge (tgt := 39) (pc' := 14) dd_82_11 rfl rfl k1 k2

theorem sg_82_14 {sh : am_Sh} {C : Nat → am_M → List am_V → am_O → Prop} {P : am_S ⊕ am_O → Prop} {M : am_M} {x1 : Int32} {x2 : Int32} {x3 : Int32}  (k1 : ¬ x2 = 0 → am_ev sh C 82 (27, [some (am_R (some (20, 0, 0))), some (am_I x1), some (am_I x2), some (am_I x3)], [], M, 0) P) (k2 : x2 = 0 → am_ev sh C 82 (18, [some (am_R (some (20, 0, 0))), some (am_I x1), some (am_I x2), some (am_I x3)], [], M, 0) P) : am_ev sh C 82 (14, [some (am_R (some (20, 0, 0))), some (am_I x1), some (am_I x2), some (am_I x3)], [], M, 0) P := by
  refine am_e_iload_n dd_82_14 rfl rfl ?_
  exact am_a_if_ne (tgt := 27) (pc' := 18) dd_82_15 rfl rfl k1 k2

theorem sg_82_18 {sh : am_Sh} {C : Nat → am_M → List am_V → am_O → Prop} {P : am_S ⊕ am_O → Prop} {M : am_M} {x1 : Int32} {x2 : Int32} {x3 : Int32} {j1 : Nat} (hx_j1 : x3 = nI j1) (hl_j1 : j1 < 4) (k1 : (M (21, 7, 0) j1) = 0 → am_ev sh C 82 (31, [some (am_R (some (20, 0, 0))), some (am_I x1), some (am_I x2), some (am_I x3)], [], M, 0) P) (k2 : ¬ (M (21, 7, 0) j1) = 0 → am_ev sh C 82 (27, [some (am_R (some (20, 0, 0))), some (am_I x1), some (am_I x2), some (am_I x3)], [], M, 0) P) : am_ev sh C 82 (18, [some (am_R (some (20, 0, 0))), some (am_I x1), some (am_I x2), some (am_I x3)], [], M, 0) P := by
  refine am_e_aload_n dd_82_18 rfl rfl ?_
  refine am_e_gf (ci := 3) (j := 7) (v := am_R (some (21, 7, 0))) dd_82_19 (by decide +kernel) rfl rfl rfl ?_
  refine am_e_iload_n dd_82_22 rfl rfl ?_
  refine am_a_zald dd_82_23 rfl hx_j1 hl_j1 (by decide) rfl ?_
  exact am_a_if_eq (tgt := 31) (pc' := 27) dd_82_24 rfl rfl k1 k2

theorem sg_82_27 {sh : am_Sh} {C : Nat → am_M → List am_V → am_O → Prop} {P : am_S ⊕ am_O → Prop} {M : am_M} {x1 : Int32} {x2 : Int32} {x3 : Int32}  (k : am_ev sh C 82 (32, [some (am_R (some (20, 0, 0))), some (am_I x1), some (am_I x2), some (am_I x3)], [am_I 1], M, 0) P) : am_ev sh C 82 (27, [some (am_R (some (20, 0, 0))), some (am_I x1), some (am_I x2), some (am_I x3)], [], M, 0) P := by
  refine am_e_iconst (v := 1) dd_82_27 rfl rfl ?_
  refine am_e_goto (pc' := 32) dd_82_28 rfl ?_
  exact k

theorem sg_82_31 {sh : am_Sh} {C : Nat → am_M → List am_V → am_O → Prop} {P : am_S ⊕ am_O → Prop} {M : am_M} {x1 : Int32} {x2 : Int32} {x3 : Int32}  (k : am_ev sh C 82 (32, [some (am_R (some (20, 0, 0))), some (am_I x1), some (am_I x2), some (am_I x3)], [am_I 0], M, 0) P) : am_ev sh C 82 (31, [some (am_R (some (20, 0, 0))), some (am_I x1), some (am_I x2), some (am_I x3)], [], M, 0) P := by
  refine am_e_iconst (v := 0) dd_82_31 rfl rfl ?_
  exact k

theorem sg_82_32 {sh : am_Sh} {C : Nat → am_M → List am_V → am_O → Prop} {P : am_S ⊕ am_O → Prop} {M : am_M} {x1 : Int32} {x2 : Int32} {x3 : Int32} {xs0 : Int32}  (k : am_ev sh C 82 (6, [some (am_R (some (20, 0, 0))), some (am_I x1), some (am_I xs0), some (am_I (x3 + 1))], [], M, 0) P) : am_ev sh C 82 (32, [some (am_R (some (20, 0, 0))), some (am_I x1), some (am_I x2), some (am_I x3)], [am_I xs0], M, 0) P := by
  refine am_e_istore_n dd_82_32 (Nat.le_of_ble_eq_true rfl) rfl rfl ?_
  refine am_e_iinc (v := x3 + 1) dd_82_33 rfl rfl rfl rfl ?_
  refine am_e_goto (pc' := 6) dd_82_36 rfl ?_
  exact k

theorem sg_82_39 {sh : am_Sh} {C : Nat → am_M → List am_V → am_O → Prop} {P : am_S ⊕ am_O → Prop} {M : am_M} {x1 : Int32} {x2 : Int32} {x3 : Int32} (hb1 : x2 = 0 ∨ x2 = 1) (k : P (Sum.inr (M, Sum.inl (some (am_I x2))))) : am_ev sh C 82 (39, [some (am_R (some (20, 0, 0))), some (am_I x1), some (am_I x2), some (am_I x3)], [], M, 0) P := by
  refine am_e_iload_n dd_82_39 rfl rfl ?_
  exact am_e_iret dd_82_40 (by decide +kernel) (Or.inr ⟨rfl, hb1⟩) k

-- 83: CacheLadderModel.goDown(III[II)V
theorem dd_83_0 : decode (am_b 83) 0 = .ok (.aload_n 0, 1) := by decide +kernel
theorem dd_83_1 : decode (am_b 83) 1 = .ok (.getfield 26, 3) := by decide +kernel
theorem dd_83_4 : decode (am_b 83) 4 = .ok (.bipush 6, 2) := by decide +kernel
theorem dd_83_6 : decode (am_b 83) 6 = .ok (.iload_n 1, 1) := by decide +kernel
theorem dd_83_7 : decode (am_b 83) 7 = .ok (.imul, 1) := by decide +kernel
theorem dd_83_8 : decode (am_b 83) 8 = .ok (.iconst 5, 1) := by decide +kernel
theorem dd_83_9 : decode (am_b 83) 9 = .ok (.iadd, 1) := by decide +kernel
theorem dd_83_10 : decode (am_b 83) 10 = .ok (.dup2, 1) := by decide +kernel
theorem dd_83_11 : decode (am_b 83) 11 = .ok (.iaload, 1) := by decide +kernel
theorem dd_83_12 : decode (am_b 83) 12 = .ok (.iload_n 3, 1) := by decide +kernel
theorem dd_83_13 : decode (am_b 83) 13 = .ok (.invokestatic 150, 3) := by decide +kernel
theorem dd_83_16 : decode (am_b 83) 16 = .ok (.iadd, 1) := by decide +kernel
theorem dd_83_17 : decode (am_b 83) 17 = .ok (.iastore, 1) := by decide +kernel
theorem dd_83_18 : decode (am_b 83) 18 = .ok (.iconst 0, 1) := by decide +kernel
theorem dd_83_19 : decode (am_b 83) 19 = .ok (.istore 6, 2) := by decide +kernel
theorem dd_83_21 : decode (am_b 83) 21 = .ok (.iload 6, 2) := by decide +kernel
theorem dd_83_23 : decode (am_b 83) 23 = .ok (.iconst 4, 1) := by decide +kernel
theorem dd_83_24 : decode (am_b 83) 24 = .ok (.if_icmp .ge 30, 3) := by decide +kernel
theorem dd_83_27 : decode (am_b 83) 27 = .ok (.aload_n 0, 1) := by decide +kernel
theorem dd_83_28 : decode (am_b 83) 28 = .ok (.getfield 59, 3) := by decide +kernel
theorem dd_83_31 : decode (am_b 83) 31 = .ok (.iconst 4, 1) := by decide +kernel
theorem dd_83_32 : decode (am_b 83) 32 = .ok (.iload_n 1, 1) := by decide +kernel
theorem dd_83_33 : decode (am_b 83) 33 = .ok (.imul, 1) := by decide +kernel
theorem dd_83_34 : decode (am_b 83) 34 = .ok (.iconst 4, 1) := by decide +kernel
theorem dd_83_35 : decode (am_b 83) 35 = .ok (.iadd, 1) := by decide +kernel
theorem dd_83_36 : decode (am_b 83) 36 = .ok (.iload 6, 2) := by decide +kernel
theorem dd_83_38 : decode (am_b 83) 38 = .ok (.iadd, 1) := by decide +kernel
theorem dd_83_39 : decode (am_b 83) 39 = .ok (.aload 4, 2) := by decide +kernel
theorem dd_83_41 : decode (am_b 83) 41 = .ok (.iload 5, 2) := by decide +kernel
theorem dd_83_43 : decode (am_b 83) 43 = .ok (.iload 6, 2) := by decide +kernel
theorem dd_83_45 : decode (am_b 83) 45 = .ok (.iadd, 1) := by decide +kernel
theorem dd_83_46 : decode (am_b 83) 46 = .ok (.iaload, 1) := by decide +kernel
theorem dd_83_47 : decode (am_b 83) 47 = .ok (.iastore, 1) := by decide +kernel
theorem dd_83_48 : decode (am_b 83) 48 = .ok (.iinc 6 1, 3) := by decide +kernel
theorem dd_83_51 : decode (am_b 83) 51 = .ok (.goto (-30), 3) := by decide +kernel
theorem dd_83_54 : decode (am_b 83) 54 = .ok (.aload_n 0, 1) := by decide +kernel
theorem dd_83_55 : decode (am_b 83) 55 = .ok (.iconst 1, 1) := by decide +kernel
theorem dd_83_56 : decode (am_b 83) 56 = .ok (.iload_n 1, 1) := by decide +kernel
theorem dd_83_57 : decode (am_b 83) 57 = .ok (.iconst 1, 1) := by decide +kernel
theorem dd_83_58 : decode (am_b 83) 58 = .ok (.iadd, 1) := by decide +kernel
theorem dd_83_59 : decode (am_b 83) 59 = .ok (.iload_n 2, 1) := by decide +kernel
theorem dd_83_60 : decode (am_b 83) 60 = .ok (.iload_n 3, 1) := by decide +kernel
theorem dd_83_61 : decode (am_b 83) 61 = .ok (.iconst 0, 1) := by decide +kernel
theorem dd_83_62 : decode (am_b 83) 62 = .ok (.invokevirtual 124, 3) := by decide +kernel
theorem dd_83_65 : decode (am_b 83) 65 = .ok (.return_, 1) := by decide +kernel
theorem sg_83_0 {sh : am_Sh} {C : Nat → am_M → List am_V → am_O → Prop} {P : am_S ⊕ am_O → Prop} {M : am_M} {x1 : Int32} {x2 : Int32} {x3 : Int32} {o4 : Option am_K} {x5 : Int32} {u6 : Option am_V} {j1 : Nat} {M1 : am_M} {r1 : Int32} (hx_j1 : (6 * x1) + 5 = nI j1) (hl_j1 : j1 < 24) (hc1 : C 84 M [am_I x3] (M1, Sum.inl (some (am_I r1)))) (k : am_ev sh C 83 (21, [some (am_R (some (20, 0, 0))), some (am_I x1), some (am_I x2), some (am_I x3), some (am_R o4), some (am_I x5), some (am_I 0)], [], (am_up M1 (21, 8, 0) j1 ((M (21, 8, 0) j1) + r1)), 0) P) : am_ev sh C 83 (0, [some (am_R (some (20, 0, 0))), some (am_I x1), some (am_I x2), some (am_I x3), some (am_R o4), some (am_I x5), u6], [], M, 0) P := by
  refine am_e_aload_n dd_83_0 rfl rfl ?_
  refine am_e_gf (ci := 3) (j := 8) (v := am_R (some (21, 8, 0))) dd_83_1 (by decide +kernel) rfl rfl rfl ?_
  refine am_e_bipush (v := 6) dd_83_4 (by decide) rfl ?_
  refine am_e_iload_n dd_83_6 rfl rfl ?_
  refine am_e_imul dd_83_7 rfl ?_
  refine am_e_iconst (v := 5) dd_83_8 rfl rfl ?_
  refine am_e_iadd dd_83_9 rfl ?_
  refine am_e_dup2 dd_83_10 rfl rfl rfl ?_
  refine am_a_iald dd_83_11 rfl hx_j1 hl_j1 (by decide) rfl ?_
  refine am_e_iload_n dd_83_12 rfl rfl ?_
  refine am_e_callS (c := 84) (k := 1) (as := [am_I x3]) (S' := [am_I r1, am_I (M (21, 8, 0) j1), am_I ((6 * x1) + 5), am_R (some (21, 8, 0))]) (v := some (am_I r1)) (M' := M1) (n' := 0) dd_83_13 (by decide +kernel) (by decide +kernel) ⟨Nat.le_of_ble_eq_true rfl, Nat.le_of_ble_eq_true rfl, by decide +kernel, (Or.inl rfl)⟩ rfl rfl (by decide +kernel) hc1 rfl ?_
  refine am_e_iadd dd_83_16 rfl ?_
  refine am_a_iast dd_83_17 rfl hx_j1 hl_j1 (by decide) rfl ?_
  refine am_e_iconst (v := 0) dd_83_18 rfl rfl ?_
  refine am_e_istore dd_83_19 (Nat.le_of_ble_eq_true rfl) rfl rfl ?_
  exact k

theorem sg_83_21 {sh : am_Sh} {C : Nat → am_M → List am_V → am_O → Prop} {P : am_S ⊕ am_O → Prop} {M : am_M} {x1 : Int32} {x2 : Int32} {x3 : Int32} {o4 : Option am_K} {x5 : Int32} {x6 : Int32}  (k1 : 4 ≤ x6 → am_ev sh C 83 (54, [some (am_R (some (20, 0, 0))), some (am_I x1), some (am_I x2), some (am_I x3), some (am_R o4), some (am_I x5), some (am_I x6)], [], M, 0) P) (k2 : ¬ 4 ≤ x6 → am_ev sh C 83 (27, [some (am_R (some (20, 0, 0))), some (am_I x1), some (am_I x2), some (am_I x3), some (am_R o4), some (am_I x5), some (am_I x6)], [], M, 0) P) : am_ev sh C 83 (21, [some (am_R (some (20, 0, 0))), some (am_I x1), some (am_I x2), some (am_I x3), some (am_R o4), some (am_I x5), some (am_I x6)], [], M, 0) P := by
  refine am_e_iload dd_83_21 rfl rfl ?_
  refine am_e_iconst (v := 4) dd_83_23 rfl rfl ?_
  exact am_a_icmp_ge (tgt := 54) (pc' := 27) dd_83_24 rfl rfl k1 k2

theorem sg_83_27 {sh : am_Sh} {C : Nat → am_M → List am_V → am_O → Prop} {P : am_S ⊕ am_O → Prop} {M : am_M} {x1 : Int32} {x2 : Int32} {x3 : Int32} {k4 : am_K} {N4 : Nat} {x5 : Int32} {x6 : Int32} {j1 : Nat} {j2 : Nat} (hz_k4 : N4 < 2147483648) (hx_j1 : x5 + x6 = nI j1) (hl_j1 : j1 < N4) (hk_k4 : am_ct sh k4 = some (Sum.inr (0, N4))) (hx_j2 : ((4 * x1) + 4) + x6 = nI j2) (hl_j2 : j2 < 20) (k : am_ev sh C 83 (21, [some (am_R (some (20, 0, 0))), some (am_I x1), some (am_I x2), some (am_I x3), some (am_R (some k4)), some (am_I x5), some (am_I (x6 + 1))], [], (am_up M (21, 22, 0) j2 (M k4 j1)), 0) P) : am_ev sh C 83 (27, [some (am_R (some (20, 0, 0))), some (am_I x1), some (am_I x2), some (am_I x3), some (am_R (some k4)), some (am_I x5), some (am_I x6)], [], M, 0) P := by
  refine am_e_aload_n dd_83_27 rfl rfl ?_
  refine am_e_gf (ci := 3) (j := 22) (v := am_R (some (21, 22, 0))) dd_83_28 (by decide +kernel) rfl rfl rfl ?_
  refine am_e_iconst (v := 4) dd_83_31 rfl rfl ?_
  refine am_e_iload_n dd_83_32 rfl rfl ?_
  refine am_e_imul dd_83_33 rfl ?_
  refine am_e_iconst (v := 4) dd_83_34 rfl rfl ?_
  refine am_e_iadd dd_83_35 rfl ?_
  refine am_e_iload dd_83_36 rfl rfl ?_
  refine am_e_iadd dd_83_38 rfl ?_
  refine am_e_aload dd_83_39 rfl rfl ?_
  refine am_e_iload dd_83_41 rfl rfl ?_
  refine am_e_iload dd_83_43 rfl rfl ?_
  refine am_e_iadd dd_83_45 rfl ?_
  refine am_a_iald dd_83_46 hk_k4 hx_j1 hl_j1 hz_k4 rfl ?_
  refine am_a_iast dd_83_47 rfl hx_j2 hl_j2 (by decide) rfl ?_
  refine am_e_iinc (v := x6 + 1) dd_83_48 rfl rfl rfl rfl ?_
  refine am_e_goto (pc' := 21) dd_83_51 rfl ?_
  exact k

theorem sg_83_54 {sh : am_Sh} {C : Nat → am_M → List am_V → am_O → Prop} {P : am_S ⊕ am_O → Prop} {M : am_M} {x1 : Int32} {x2 : Int32} {x3 : Int32} {o4 : Option am_K} {x5 : Int32} {x6 : Int32} {M1 : am_M} (hc1 : C 65 M [am_R (some (20, 0, 0)), am_I 1, am_I (x1 + 1), am_I x2, am_I x3, am_I 0] (M1, Sum.inl none)) (k : P (Sum.inr (M1, Sum.inl none))) : am_ev sh C 83 (54, [some (am_R (some (20, 0, 0))), some (am_I x1), some (am_I x2), some (am_I x3), some (am_R o4), some (am_I x5), some (am_I x6)], [], M, 0) P := by
  refine am_e_aload_n dd_83_54 rfl rfl ?_
  refine am_e_iconst (v := 1) dd_83_55 rfl rfl ?_
  refine am_e_iload_n dd_83_56 rfl rfl ?_
  refine am_e_iconst (v := 1) dd_83_57 rfl rfl ?_
  refine am_e_iadd dd_83_58 rfl ?_
  refine am_e_iload_n dd_83_59 rfl rfl ?_
  refine am_e_iload_n dd_83_60 rfl rfl ?_
  refine am_e_iconst (v := 0) dd_83_61 rfl rfl ?_
  refine am_e_callV (c := 65) (k := 6) (as := [am_R (some (20, 0, 0)), am_I 1, am_I (x1 + 1), am_I x2, am_I x3, am_I 0]) (S' := []) (v := none) (M' := M1) (n' := 0) dd_83_62 (by decide +kernel) ⟨Nat.le_of_ble_eq_true rfl, Nat.le_of_ble_eq_true rfl, by decide +kernel, (Or.inr (am_rcv_of rfl))⟩ rfl rfl (by decide +kernel) hc1 rfl ?_
  exact am_e_vret dd_83_65 (by decide +kernel) rfl k

