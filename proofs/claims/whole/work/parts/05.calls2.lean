def am_np : List (Nat × Nat) := [(1, 0), (2, 0), (2, 1), (3, 0), (0, 3)]
theorem am_LPs {m oc idx cal k : Nat} (hm : (am_y m).cls = am_cn oc) (h1 : am_CP cal) (h2 : Cond.methodLink (am_cn oc) idx (am_y cal) ∈ am_ws) (h3 : Cond.static (am_y cal) ∈ am_ws ∧ (parseMethodDescriptor (am_y cal).desc).map (fun d => d.parameters.length) = some k) : am_LP m idx cal k 0 := ⟨h1, by rw [hm]; exact h2, Or.inl ⟨rfl, h3⟩⟩
theorem am_LPv {m oc idx cal k : Nat} (hm : (am_y m).cls = am_cn oc) (h1 : am_CP cal) (h2 : Cond.methodLink (am_cn oc) idx (am_y cal) ∈ am_ws) (h3 : Cond.instanceMethod (am_y cal) ∈ am_ws ∧ Cond.selects (am_y cal).cls (am_y cal) (am_y cal) ∈ am_ws ∧ (∃ T N, am_cl[am_rc cal]? = some ((am_y cal).cls, T, N)) ∧ (parseMethodDescriptor (am_y cal).desc).map (fun d => d.parameters.length + 1) = some k) : am_LP m idx cal k 1 := ⟨h1, by rw [hm]; exact h2, Or.inr ⟨rfl, h3⟩⟩
theorem am_fm_1 {m idx cal k kd : Nat} (hc : (am_y m).cls = am_cn 1) (h1 : (idx, cal, k, kd) ∈ am_mt 1) : am_LP m idx cal k kd := by
  simp only [am_mt, List.mem_cons, List.not_mem_nil, or_false, Prod.mk.injEq] at h1
  rcases h1 with ⟨rfl, rfl, rfl, rfl⟩ | ⟨rfl, rfl, rfl, rfl⟩ | ⟨rfl, rfl, rfl, rfl⟩ | ⟨rfl, rfl, rfl, rfl⟩ | ⟨rfl, rfl, rfl, rfl⟩ | ⟨rfl, rfl, rfl, rfl⟩ | ⟨rfl, rfl, rfl, rfl⟩ | ⟨rfl, rfl, rfl, rfl⟩ | ⟨rfl, rfl, rfl, rfl⟩ | ⟨rfl, rfl, rfl, rfl⟩ | ⟨rfl, rfl, rfl, rfl⟩
  · exact am_LPv hc am_c_3 am_q_1_53 am_k_3
  · exact am_LPv hc am_c_4 am_q_1_42 am_k_4
  · exact am_LPv hc am_c_5 am_q_1_46 am_k_5
  · exact am_LPv hc am_c_0 am_q_1_99 am_k_0
  · exact am_LPv hc am_c_1 am_q_1_56 am_k_1
  · exact am_LPv hc am_c_9 am_q_1_60 am_k_9
  · exact am_LPv hc am_c_10 am_q_1_83 am_k_10
  · exact am_LPv hc am_c_11 am_q_1_64 am_k_11
  · exact am_LPv hc am_c_12 am_q_1_70 am_k_12
  · exact am_LPv hc am_c_13 am_q_1_92 am_k_13
  · exact am_LPv hc am_c_16 am_q_1_67 am_k_16
theorem am_fm_2 {m idx cal k kd : Nat} (hc : (am_y m).cls = am_cn 2) (h1 : (idx, cal, k, kd) ∈ am_mt 2) : am_LP m idx cal k kd := by
  simp only [am_mt, List.mem_cons, List.not_mem_nil, or_false, Prod.mk.injEq] at h1
  rcases h1 with ⟨rfl, rfl, rfl, rfl⟩ | ⟨rfl, rfl, rfl, rfl⟩ | ⟨rfl, rfl, rfl, rfl⟩ | ⟨rfl, rfl, rfl, rfl⟩ | ⟨rfl, rfl, rfl, rfl⟩ | ⟨rfl, rfl, rfl, rfl⟩ | ⟨rfl, rfl, rfl, rfl⟩ | ⟨rfl, rfl, rfl, rfl⟩ | ⟨rfl, rfl, rfl, rfl⟩ | ⟨rfl, rfl, rfl, rfl⟩ | ⟨rfl, rfl, rfl, rfl⟩ | ⟨rfl, rfl, rfl, rfl⟩ | ⟨rfl, rfl, rfl, rfl⟩ | ⟨rfl, rfl, rfl, rfl⟩ | ⟨rfl, rfl, rfl, rfl⟩ | ⟨rfl, rfl, rfl, rfl⟩ | ⟨rfl, rfl, rfl, rfl⟩ | ⟨rfl, rfl, rfl, rfl⟩ | ⟨rfl, rfl, rfl, rfl⟩ | ⟨rfl, rfl, rfl, rfl⟩ | ⟨rfl, rfl, rfl, rfl⟩ | ⟨rfl, rfl, rfl, rfl⟩ | ⟨rfl, rfl, rfl, rfl⟩ | ⟨rfl, rfl, rfl, rfl⟩ | ⟨rfl, rfl, rfl, rfl⟩ | ⟨rfl, rfl, rfl, rfl⟩ | ⟨rfl, rfl, rfl, rfl⟩ | ⟨rfl, rfl, rfl, rfl⟩ | ⟨rfl, rfl, rfl, rfl⟩ | ⟨rfl, rfl, rfl, rfl⟩ | ⟨rfl, rfl, rfl, rfl⟩ | ⟨rfl, rfl, rfl, rfl⟩ | ⟨rfl, rfl, rfl, rfl⟩ | ⟨rfl, rfl, rfl, rfl⟩ | ⟨rfl, rfl, rfl, rfl⟩ | ⟨rfl, rfl, rfl, rfl⟩ | ⟨rfl, rfl, rfl, rfl⟩
  · exact am_LPv hc am_c_18 am_q_2_90 am_k_18
  · exact am_LPv hc am_c_2 am_q_2_157 am_k_2
  · exact am_LPv hc am_c_19 am_q_2_118 am_k_19
  · exact am_LPv hc am_c_6 am_q_2_122 am_k_6
  · exact am_LPv hc am_c_1 am_q_2_106 am_k_1
  · exact am_LPv hc am_c_23 am_q_2_169 am_k_23
  · exact am_LPv hc am_c_24 am_q_2_248 am_k_24
  · exact am_LPv hc am_c_3 am_q_2_154 am_k_3
  · exact am_LPs hc am_c_26 am_q_2_25 am_k_26
  · exact am_LPs hc am_c_59 am_q_2_173 am_k_59
  · exact am_LPs hc am_c_28 am_q_2_59 am_k_28
  · exact am_LPv hc am_c_29 am_q_2_63 am_k_29
  · exact am_LPs hc am_c_30 am_q_2_78 am_k_30
  · exact am_LPv hc am_c_31 am_q_2_189 am_k_31
  · exact am_LPv hc am_c_32 am_q_2_199 am_k_32
  · exact am_LPv hc am_c_33 am_q_2_207 am_k_33
  · exact am_LPv hc am_c_4 am_q_2_214 am_k_4
  · exact am_LPv hc am_c_7 am_q_2_163 am_k_7
  · exact am_LPv hc am_c_8 am_q_2_217 am_k_8
  · exact am_LPv hc am_c_34 am_q_2_114 am_k_34
  · exact am_LPv hc am_c_35 am_q_2_223 am_k_35
  · exact am_LPs hc am_c_36 am_q_2_229 am_k_36
  · exact am_LPv hc am_c_0 am_q_2_226 am_k_0
  · exact am_LPv hc am_c_37 am_q_2_110 am_k_37
  · exact am_LPv hc am_c_38 am_q_2_233 am_k_38
  · exact am_LPv hc am_c_39 am_q_2_81 am_k_39
  · exact am_LPv hc am_c_40 am_q_2_239 am_k_40
  · exact am_LPv hc am_c_41 am_q_2_242 am_k_41
  · exact am_LPv hc am_c_42 am_q_2_245 am_k_42
  · exact am_LPv hc am_c_13 am_q_2_203 am_k_13
  · exact am_LPv hc am_c_14 am_q_2_210 am_k_14
  · exact am_LPv hc am_c_44 am_q_2_67 am_k_44
  · exact am_LPv hc am_c_50 am_q_2_99 am_k_50
  · exact am_LPv hc am_c_54 am_q_2_136 am_k_54
  · exact am_LPv hc am_c_5 am_q_2_144 am_k_5
  · exact am_LPv hc am_c_56 am_q_2_151 am_k_56
  · exact am_LPv hc am_c_15 am_q_2_166 am_k_15
theorem am_fm_3 {m idx cal k kd : Nat} (hc : (am_y m).cls = am_cn 3) (h1 : (idx, cal, k, kd) ∈ am_mt 3) : am_LP m idx cal k kd := by
  simp only [am_mt, List.mem_cons, List.not_mem_nil, or_false, Prod.mk.injEq] at h1
  rcases h1 with ⟨rfl, rfl, rfl, rfl⟩ | ⟨rfl, rfl, rfl, rfl⟩ | ⟨rfl, rfl, rfl, rfl⟩ | ⟨rfl, rfl, rfl, rfl⟩ | ⟨rfl, rfl, rfl, rfl⟩ | ⟨rfl, rfl, rfl, rfl⟩ | ⟨rfl, rfl, rfl, rfl⟩ | ⟨rfl, rfl, rfl, rfl⟩ | ⟨rfl, rfl, rfl, rfl⟩ | ⟨rfl, rfl, rfl, rfl⟩ | ⟨rfl, rfl, rfl, rfl⟩ | ⟨rfl, rfl, rfl, rfl⟩ | ⟨rfl, rfl, rfl, rfl⟩ | ⟨rfl, rfl, rfl, rfl⟩ | ⟨rfl, rfl, rfl, rfl⟩ | ⟨rfl, rfl, rfl, rfl⟩ | ⟨rfl, rfl, rfl, rfl⟩ | ⟨rfl, rfl, rfl, rfl⟩ | ⟨rfl, rfl, rfl, rfl⟩ | ⟨rfl, rfl, rfl, rfl⟩ | ⟨rfl, rfl, rfl, rfl⟩ | ⟨rfl, rfl, rfl, rfl⟩ | ⟨rfl, rfl, rfl, rfl⟩ | ⟨rfl, rfl, rfl, rfl⟩ | ⟨rfl, rfl, rfl, rfl⟩ | ⟨rfl, rfl, rfl, rfl⟩ | ⟨rfl, rfl, rfl, rfl⟩ | ⟨rfl, rfl, rfl, rfl⟩
  · exact am_LPs hc am_c_62 am_q_3_174 am_k_62
  · exact am_LPv hc am_c_64 am_q_3_184 am_k_64
  · exact am_LPv hc am_c_65 am_q_3_124 am_k_65
  · exact am_LPv hc am_c_66 am_q_3_181 am_k_66
  · exact am_LPv hc am_c_67 am_q_3_105 am_k_67
  · exact am_LPv hc am_c_68 am_q_3_137 am_k_68
  · exact am_LPv hc am_c_69 am_q_3_87 am_k_69
  · exact am_LPv hc am_c_70 am_q_3_140 am_k_70
  · exact am_LPv hc am_c_71 am_q_3_114 am_k_71
  · exact am_LPv hc am_c_72 am_q_3_117 am_k_72
  · exact am_LPv hc am_c_73 am_q_3_98 am_k_73
  · exact am_LPv hc am_c_74 am_q_3_120 am_k_74
  · exact am_LPv hc am_c_75 am_q_3_94 am_k_75
  · exact am_LPv hc am_c_76 am_q_3_143 am_k_76
  · exact am_LPv hc am_c_77 am_q_3_146 am_k_77
  · exact am_LPv hc am_c_78 am_q_3_128 am_k_78
  · exact am_LPv hc am_c_79 am_q_3_108 am_k_79
  · exact am_LPv hc am_c_80 am_q_3_157 am_k_80
  · exact am_LPv hc am_c_81 am_q_3_160 am_k_81
  · exact am_LPv hc am_c_82 am_q_3_163 am_k_82
  · exact am_LPv hc am_c_83 am_q_3_167 am_k_83
  · exact am_LPs hc am_c_84 am_q_3_150 am_k_84
  · exact am_LPv hc am_c_85 am_q_3_111 am_k_85
  · exact am_LPv hc am_c_86 am_q_3_171 am_k_86
  · exact am_LPv hc am_c_88 am_q_3_187 am_k_88
  · exact am_LPv hc am_c_92 am_q_3_191 am_k_92
  · exact am_LPv hc am_c_95 am_q_3_194 am_k_95
  · exact am_LPv hc am_c_96 am_q_3_197 am_k_96
theorem am_fm_4 {m idx cal k kd : Nat} (hc : (am_y m).cls = am_cn 4) (h1 : (idx, cal, k, kd) ∈ am_mt 4) : am_LP m idx cal k kd := by
  simp only [am_mt, List.mem_cons, List.not_mem_nil, or_false, Prod.mk.injEq] at h1
  rcases h1 with ⟨rfl, rfl, rfl, rfl⟩ | ⟨rfl, rfl, rfl, rfl⟩ | ⟨rfl, rfl, rfl, rfl⟩ | ⟨rfl, rfl, rfl, rfl⟩ | ⟨rfl, rfl, rfl, rfl⟩ | ⟨rfl, rfl, rfl, rfl⟩ | ⟨rfl, rfl, rfl, rfl⟩ | ⟨rfl, rfl, rfl, rfl⟩ | ⟨rfl, rfl, rfl, rfl⟩ | ⟨rfl, rfl, rfl, rfl⟩ | ⟨rfl, rfl, rfl, rfl⟩ | ⟨rfl, rfl, rfl, rfl⟩ | ⟨rfl, rfl, rfl, rfl⟩ | ⟨rfl, rfl, rfl, rfl⟩ | ⟨rfl, rfl, rfl, rfl⟩ | ⟨rfl, rfl, rfl, rfl⟩ | ⟨rfl, rfl, rfl, rfl⟩ | ⟨rfl, rfl, rfl, rfl⟩ | ⟨rfl, rfl, rfl, rfl⟩ | ⟨rfl, rfl, rfl, rfl⟩ | ⟨rfl, rfl, rfl, rfl⟩ | ⟨rfl, rfl, rfl, rfl⟩ | ⟨rfl, rfl, rfl, rfl⟩ | ⟨rfl, rfl, rfl, rfl⟩ | ⟨rfl, rfl, rfl, rfl⟩ | ⟨rfl, rfl, rfl, rfl⟩ | ⟨rfl, rfl, rfl, rfl⟩ | ⟨rfl, rfl, rfl, rfl⟩ | ⟨rfl, rfl, rfl, rfl⟩ | ⟨rfl, rfl, rfl, rfl⟩ | ⟨rfl, rfl, rfl, rfl⟩ | ⟨rfl, rfl, rfl, rfl⟩ | ⟨rfl, rfl, rfl, rfl⟩ | ⟨rfl, rfl, rfl, rfl⟩ | ⟨rfl, rfl, rfl, rfl⟩ | ⟨rfl, rfl, rfl, rfl⟩ | ⟨rfl, rfl, rfl, rfl⟩ | ⟨rfl, rfl, rfl, rfl⟩ | ⟨rfl, rfl, rfl, rfl⟩ | ⟨rfl, rfl, rfl, rfl⟩ | ⟨rfl, rfl, rfl, rfl⟩ | ⟨rfl, rfl, rfl, rfl⟩ | ⟨rfl, rfl, rfl, rfl⟩ | ⟨rfl, rfl, rfl, rfl⟩ | ⟨rfl, rfl, rfl, rfl⟩ | ⟨rfl, rfl, rfl, rfl⟩ | ⟨rfl, rfl, rfl, rfl⟩ | ⟨rfl, rfl, rfl, rfl⟩ | ⟨rfl, rfl, rfl, rfl⟩ | ⟨rfl, rfl, rfl, rfl⟩ | ⟨rfl, rfl, rfl, rfl⟩
  · exact am_LPv hc am_c_17 am_q_4_107 am_k_17
  · exact am_LPv hc am_c_20 am_q_4_115 am_k_20
  · exact am_LPv hc am_c_21 am_q_4_132 am_k_21
  · exact am_LPv hc am_c_22 am_q_4_136 am_k_22
  · exact am_LPs hc am_c_107 am_q_4_69 am_k_107
  · exact am_LPv hc am_c_25 am_q_4_7 am_k_25
  · exact am_LPs hc am_c_108 am_q_4_79 am_k_108
  · exact am_LPv hc am_c_27 am_q_4_19 am_k_27
  · exact am_LPs hc am_c_109 am_q_4_83 am_k_109
  · exact am_LPv hc am_c_43 am_q_4_25 am_k_43
  · exact am_LPs hc am_c_110 am_q_4_87 am_k_110
  · exact am_LPv hc am_c_45 am_q_4_29 am_k_45
  · exact am_LPs hc am_c_111 am_q_4_91 am_k_111
  · exact am_LPv hc am_c_46 am_q_4_33 am_k_46
  · exact am_LPs hc am_c_112 am_q_4_95 am_k_112
  · exact am_LPv hc am_c_47 am_q_4_37 am_k_47
  · exact am_LPs hc am_c_113 am_q_4_98 am_k_113
  · exact am_LPv hc am_c_48 am_q_4_40 am_k_48
  · exact am_LPs hc am_c_114 am_q_4_101 am_k_114
  · exact am_LPv hc am_c_49 am_q_4_43 am_k_49
  · exact am_LPs hc am_c_115 am_q_4_104 am_k_115
  · exact am_LPv hc am_c_51 am_q_4_46 am_k_51
  · exact am_LPs hc am_c_116 am_q_4_111 am_k_116
  · exact am_LPv hc am_c_52 am_q_4_49 am_k_52
  · exact am_LPs hc am_c_117 am_q_4_120 am_k_117
  · exact am_LPv hc am_c_53 am_q_4_53 am_k_53
  · exact am_LPs hc am_c_118 am_q_4_123 am_k_118
  · exact am_LPv hc am_c_55 am_q_4_56 am_k_55
  · exact am_LPs hc am_c_119 am_q_4_126 am_k_119
  · exact am_LPv hc am_c_57 am_q_4_59 am_k_57
  · exact am_LPs hc am_c_120 am_q_4_129 am_k_120
  · exact am_LPv hc am_c_58 am_q_4_62 am_k_58
  · exact am_LPv hc am_c_60 am_q_4_75 am_k_60
  · exact am_LPv hc am_c_61 am_q_4_74 am_k_61
  · exact am_LPv hc am_c_63 am_q_4_82 am_k_63
  · exact am_LPv hc am_c_87 am_q_4_86 am_k_87
  · exact am_LPv hc am_c_89 am_q_4_90 am_k_89
  · exact am_LPv hc am_c_90 am_q_4_94 am_k_90
  · exact am_LPv hc am_c_91 am_q_4_97 am_k_91
  · exact am_LPv hc am_c_93 am_q_4_100 am_k_93
  · exact am_LPv hc am_c_94 am_q_4_103 am_k_94
  · exact am_LPv hc am_c_97 am_q_4_106 am_k_97
  · exact am_LPv hc am_c_98 am_q_4_110 am_k_98
  · exact am_LPv hc am_c_99 am_q_4_114 am_k_99
  · exact am_LPv hc am_c_100 am_q_4_119 am_k_100
  · exact am_LPv hc am_c_101 am_q_4_122 am_k_101
  · exact am_LPv hc am_c_102 am_q_4_125 am_k_102
  · exact am_LPv hc am_c_103 am_q_4_128 am_k_103
  · exact am_LPv hc am_c_104 am_q_4_131 am_k_104
  · exact am_LPv hc am_c_105 am_q_4_135 am_k_105
  · exact am_LPv hc am_c_106 am_q_4_139 am_k_106
theorem am_fact_m {m idx cal k kd : Nat} (h : am_ml m idx = some (cal, k, kd)) : am_LP m idx cal k kd := by
  have hm : m < 122 := by
    rcases Nat.lt_or_ge m 122 with hm | hm
    · exact hm
    · have : am_oc m = 99 := by unfold am_oc; rw [am_row_out hm]
      unfold am_ml at h
      rw [this] at h
      cases h
  have hc := am_oc_ok m hm
  have h1 := am_find_mem h
  revert hc h1
  generalize am_oc m = oc
  intro hc h1
  match oc, hc, h1 with
  | 1, hc, h1 => exact am_fm_1 hc h1
  | 2, hc, h1 => exact am_fm_2 hc h1
  | 3, hc, h1 => exact am_fm_3 hc h1
  | 4, hc, h1 => exact am_fm_4 hc h1
theorem am_k_c_5_265 : Cond.constant (am_cn 5) 265 1431655765 ∈ am_ws := am_in1 127 (by decide +kernel) (by decide +kernel)
theorem am_k_c_5_266 : Cond.constant (am_cn 5) 266 858993459 ∈ am_ws := am_in1 128 (by decide +kernel) (by decide +kernel)
theorem am_k_c_5_267 : Cond.constant (am_cn 5) 267 252645135 ∈ am_ws := am_in1 129 (by decide +kernel) (by decide +kernel)
theorem am_k_c_2_89 : Cond.constant (am_cn 2) 89 1103515245 ∈ am_ws := am_in1 454 (by decide +kernel) (by decide +kernel)
theorem am_k_c_3_190 : Cond.constant (am_cn 3) 190 1103515245 ∈ am_ws := am_in1 767 (by decide +kernel) (by decide +kernel)
theorem am_fact_k {m idx : Nat} {v : Int32} (h : am_kc m idx = some v) : Cond.constant (am_y m).cls idx v ∈ am_ws := by
  have hm : m < 122 := by
    rcases Nat.lt_or_ge m 122 with hm | hm
    · exact hm
    · have : am_oc m = 99 := by unfold am_oc; rw [am_row_out hm]
      unfold am_kc at h
      rw [this] at h
      cases h
  have hc := am_oc_ok m hm
  have h1 := am_find_mem h
  rw [hc]
  revert h1
  generalize am_oc m = oc
  intro h1
  match oc, h1 with
  | 2, h1 =>
    simp only [am_kt, List.mem_cons, List.not_mem_nil, or_false, Prod.mk.injEq] at h1
    rcases h1 with ⟨rfl, rfl⟩
    · exact am_k_c_2_89
  | 3, h1 =>
    simp only [am_kt, List.mem_cons, List.not_mem_nil, or_false, Prod.mk.injEq] at h1
    rcases h1 with ⟨rfl, rfl⟩
    · exact am_k_c_3_190
  | 5, h1 =>
    simp only [am_kt, List.mem_cons, List.not_mem_nil, or_false, Prod.mk.injEq] at h1
    rcases h1 with ⟨rfl, rfl⟩ | ⟨rfl, rfl⟩ | ⟨rfl, rfl⟩
    · exact am_k_c_5_265
    · exact am_k_c_5_266
    · exact am_k_c_5_267
theorem am_fact_ac {m idx : Nat} (h : am_ac m idx = true) : Cond.methodLink (am_y m).cls idx arraycopyName ∈ am_ws ∧ Cond.native arraycopyName ∈ am_ws ∧ Cond.static arraycopyName ∈ am_ws ∧ Cond.initialized "java/lang/System" ∈ am_ws := by
  simp only [am_ac, Bool.and_eq_true, beq_iff_eq] at h
  obtain ⟨h1, rfl⟩ := h
  have hm : m < 122 := by
    rcases Nat.lt_or_ge m 122 with hm | hm
    · exact hm
    · have : am_oc m = 99 := by unfold am_oc; rw [am_row_out hm]
      rw [this] at h1
      cases h1
  rw [am_oc_ok m hm, h1]
  exact ⟨am_in1 343 (by decide +kernel) (by decide +kernel), am_in1 345 (by decide +kernel) (by decide +kernel), am_in1 344 (by decide +kernel) (by decide +kernel), am_in1 13 (by decide +kernel) (by decide +kernel)⟩
theorem am_fact_ra {m : Nat} (h : am_ra m = true) : ∃ nm, am_rt m = some (.object nm) := by
  unfold am_ra at h
  split at h
  · rename_i nm hn; exact ⟨nm, hn⟩
  · cases h
theorem am_fact_h0 {m pc x : Nat} (h : am_hd m pc x = some none) : am_hh m = [] := by
  unfold am_hd at h
  split at h
  · assumption
  · cases hf : am_ht.find? (fun e => e.1 == m && e.2.1 == pc && e.2.2.1 == x) with
    | none => rw [hf] at h; cases h
    | some e => rw [hf] at h; cases h
theorem am_mk_u {j : Nat} {u N : Nat} (h : am_mk j = some (Sum.inr (u, N))) : u ≤ 1 := by
  unfold am_mk at h
  split at h <;> cases h <;> decide
theorem am_fact_u {sh : am_Sh} {k : am_K} {u N : Nat} (h : am_ct sh k = some (Sum.inr (u, N))) : u ≤ 5 := by
  unfold am_ct at h
  split at h <;> first
    | (split at h <;> first | (cases h; decide) | cases h)
    | cases h
    | (split at h
       · exact Nat.le_trans (am_mk_u h) (by decide)
       · cases h)
/-- where an exception is caught: its row in the table, the rows ahead of it -/
def am_HP (m pc x h : Nat) : Prop := ∃ (pre post : List (Nat × Nat × Nat × Nat)) (a b ct : Nat), am_hh m = pre ++ (a, b, h, ct) :: post ∧ a ≤ pc ∧ pc < b ∧ ct ≠ 0 ∧ Cond.classLink (am_y m).cls ct (am_xn x) ∈ am_ws ∧ x < 4 ∧ ∀ z ∈ pre, z.1 ≤ pc ∧ pc < z.2.1 ∧ z.2.2.2 ≠ 0 ∧ ∃ x', (x, x') ∈ am_np ∧ Cond.classLink (am_y m).cls z.2.2.2 (am_xn x') ∈ am_ws
theorem am_cl_13 : Cond.classLink (am_cn 4) 13 (am_xn 0) ∈ am_ws := am_in1 114 (by decide +kernel) (by decide +kernel)
theorem am_cl_15 : Cond.classLink (am_cn 4) 15 (am_xn 1) ∈ am_ws := am_in1 115 (by decide +kernel) (by decide +kernel)
theorem am_cl_17 : Cond.classLink (am_cn 4) 17 (am_xn 2) ∈ am_ws := am_in1 116 (by decide +kernel) (by decide +kernel)
theorem am_cl_23 : Cond.classLink (am_cn 4) 23 (am_xn 3) ∈ am_ws := am_in1 308 (by decide +kernel) (by decide +kernel)
theorem am_h_107_11_0 : am_HP 107 11 0 19 := by
  refine ⟨[], [(0, 16, 23, 15), (0, 16, 27, 17)], 0, 16, 13, rfl, by decide, by decide, by decide, am_cl_13, by decide, fun z hz => by cases hz⟩
theorem am_h_107_11_1 : am_HP 107 11 1 23 := by
  refine ⟨[(0, 16, 19, 13)], [(0, 16, 27, 17)], 0, 16, 15, rfl, by decide, by decide, by decide, am_cl_15, by decide, ?_⟩
  intro z hz
  simp only [List.mem_cons, List.not_mem_nil, or_false] at hz
  rcases hz with rfl
  · exact ⟨by decide, by decide, by decide, 0, by decide, am_cl_13⟩
theorem am_h_107_11_2 : am_HP 107 11 2 27 := by
  refine ⟨[(0, 16, 19, 13), (0, 16, 23, 15)], [], 0, 16, 17, rfl, by decide, by decide, by decide, am_cl_17, by decide, ?_⟩
  intro z hz
  simp only [List.mem_cons, List.not_mem_nil, or_false] at hz
  rcases hz with rfl | rfl
  · exact ⟨by decide, by decide, by decide, 0, by decide, am_cl_13⟩
  · exact ⟨by decide, by decide, by decide, 1, by decide, am_cl_15⟩
theorem am_h_108_4_3 : am_HP 108 4 3 12 := by
  refine ⟨[], [], 0, 9, 23, rfl, by decide, by decide, by decide, am_cl_23, by decide, fun z hz => by cases hz⟩
theorem am_h_109_3_3 : am_HP 109 3 3 9 := by
  refine ⟨[], [], 0, 6, 23, rfl, by decide, by decide, by decide, am_cl_23, by decide, fun z hz => by cases hz⟩
theorem am_h_110_6_0 : am_HP 110 6 0 12 := by
  refine ⟨[], [(0, 9, 16, 23)], 0, 9, 13, rfl, by decide, by decide, by decide, am_cl_13, by decide, fun z hz => by cases hz⟩
theorem am_h_110_6_3 : am_HP 110 6 3 16 := by
  refine ⟨[(0, 9, 12, 13)], [], 0, 9, 23, rfl, by decide, by decide, by decide, am_cl_23, by decide, ?_⟩
  intro z hz
  simp only [List.mem_cons, List.not_mem_nil, or_false] at hz
  rcases hz with rfl
  · exact ⟨by decide, by decide, by decide, 0, by decide, am_cl_13⟩
theorem am_h_111_7_0 : am_HP 111 7 0 15 := by
  refine ⟨[], [], 0, 12, 13, rfl, by decide, by decide, by decide, am_cl_13, by decide, fun z hz => by cases hz⟩
theorem am_h_112_4_3 : am_HP 112 4 3 12 := by
  refine ⟨[], [], 0, 9, 23, rfl, by decide, by decide, by decide, am_cl_23, by decide, fun z hz => by cases hz⟩
theorem am_h_113_4_3 : am_HP 113 4 3 12 := by
  refine ⟨[], [], 0, 9, 23, rfl, by decide, by decide, by decide, am_cl_23, by decide, fun z hz => by cases hz⟩
theorem am_h_114_4_3 : am_HP 114 4 3 12 := by
  refine ⟨[], [], 0, 9, 23, rfl, by decide, by decide, by decide, am_cl_23, by decide, fun z hz => by cases hz⟩
theorem am_h_115_4_3 : am_HP 115 4 3 12 := by
  refine ⟨[], [], 0, 9, 23, rfl, by decide, by decide, by decide, am_cl_23, by decide, fun z hz => by cases hz⟩
theorem am_h_116_5_3 : am_HP 116 5 3 13 := by
  refine ⟨[], [(0, 10, 17, 13)], 0, 10, 23, rfl, by decide, by decide, by decide, am_cl_23, by decide, fun z hz => by cases hz⟩
theorem am_h_116_5_0 : am_HP 116 5 0 17 := by
  refine ⟨[(0, 10, 13, 23)], [], 0, 10, 13, rfl, by decide, by decide, by decide, am_cl_13, by decide, ?_⟩
  intro z hz
  simp only [List.mem_cons, List.not_mem_nil, or_false] at hz
  rcases hz with rfl
  · exact ⟨by decide, by decide, by decide, 3, by decide, am_cl_23⟩
theorem am_h_117_7_3 : am_HP 117 7 3 15 := by
  refine ⟨[], [], 0, 12, 23, rfl, by decide, by decide, by decide, am_cl_23, by decide, fun z hz => by cases hz⟩
theorem am_h_118_5_3 : am_HP 118 5 3 13 := by
  refine ⟨[], [], 0, 10, 23, rfl, by decide, by decide, by decide, am_cl_23, by decide, fun z hz => by cases hz⟩
theorem am_h_119_5_3 : am_HP 119 5 3 13 := by
  refine ⟨[], [], 0, 10, 23, rfl, by decide, by decide, by decide, am_cl_23, by decide, fun z hz => by cases hz⟩
theorem am_h_120_5_3 : am_HP 120 5 3 13 := by
  refine ⟨[], [], 0, 10, 23, rfl, by decide, by decide, by decide, am_cl_23, by decide, fun z hz => by cases hz⟩
theorem am_fact_h {m pc x h : Nat} (hh : am_hd m pc x = some (some h)) : am_HP m pc x h := by
  unfold am_hd at hh
  split at hh
  · cases hh
  · cases hf : am_ht.find? (fun e => e.1 == m && e.2.1 == pc && e.2.2.1 == x) with
    | none => rw [hf] at hh; cases hh
    | some q =>
      rw [hf] at hh
      have h1 := List.find?_some hf
      have h2 := List.mem_of_find?_eq_some hf
      obtain ⟨q1, q2, q3, q4⟩ := q
      simp only [Bool.and_eq_true, beq_iff_eq] at h1
      obtain ⟨⟨rfl, rfl⟩, rfl⟩ := h1
      have h3 : q4 = h := by simpa using hh
      subst h3
      simp only [am_ht, List.mem_cons, List.not_mem_nil, or_false, Prod.mk.injEq] at h2
      rcases h2 with ⟨rfl, rfl, rfl, rfl⟩ | ⟨rfl, rfl, rfl, rfl⟩ | ⟨rfl, rfl, rfl, rfl⟩ | ⟨rfl, rfl, rfl, rfl⟩ | ⟨rfl, rfl, rfl, rfl⟩ | ⟨rfl, rfl, rfl, rfl⟩ | ⟨rfl, rfl, rfl, rfl⟩ | ⟨rfl, rfl, rfl, rfl⟩ | ⟨rfl, rfl, rfl, rfl⟩ | ⟨rfl, rfl, rfl, rfl⟩ | ⟨rfl, rfl, rfl, rfl⟩ | ⟨rfl, rfl, rfl, rfl⟩ | ⟨rfl, rfl, rfl, rfl⟩ | ⟨rfl, rfl, rfl, rfl⟩ | ⟨rfl, rfl, rfl, rfl⟩ | ⟨rfl, rfl, rfl, rfl⟩ | ⟨rfl, rfl, rfl, rfl⟩ | ⟨rfl, rfl, rfl, rfl⟩
      · exact am_h_107_11_0
      · exact am_h_107_11_1
      · exact am_h_107_11_2
      · exact am_h_108_4_3
      · exact am_h_109_3_3
      · exact am_h_110_6_0
      · exact am_h_110_6_3
      · exact am_h_111_7_0
      · exact am_h_112_4_3
      · exact am_h_113_4_3
      · exact am_h_114_4_3
      · exact am_h_115_4_3
      · exact am_h_116_5_3
      · exact am_h_116_5_0
      · exact am_h_117_7_3
      · exact am_h_118_5_3
      · exact am_h_119_5_3
      · exact am_h_120_5_3
/-- where an exception is made: five instructions -/
def am_TP (m pc x : Nat) : Prop := ∃ ik is ic : Nat, (m, pc, x, ik, is, ic) ∈ am_tt ∧ (am_y m).cls = am_cn 2 ∧ am_hh m = [] ∧ decode (am_b m) pc = .ok (.new ik, 3) ∧ decode (am_b m) (pc + 3) = .ok (.dup, 1) ∧ decode (am_b m) (pc + 4) = .ok (.ldc is, 2) ∧ decode (am_b m) (pc + 6) = .ok (.invokespecial ic, 3) ∧ decode (am_b m) (pc + 9) = .ok (.athrow, 1) ∧ Cond.classLink (am_cn 2) ik (am_xn x) ∈ am_ws ∧ Cond.initialized (am_xn x) ∈ am_ws ∧ Bundle.fit (am_xn x) = true ∧ ((x = 0 ∧ ic = 33) ∨ (x = 1 ∧ ic = 46) ∨ (x = 2 ∧ ic = 55) ∨ (x = 3 ∧ ic = 77))
theorem am_t_25_17 : am_TP 25 17 0 := ⟨29, 31, 33, by decide, by decide +kernel, by decide +kernel, by decide +kernel, by decide +kernel, by decide +kernel, by decide +kernel, by decide +kernel, am_in1 130 (by decide +kernel) (by decide +kernel), am_in1 7 (by decide +kernel) (by decide +kernel), by decide +kernel, by decide⟩
theorem am_t_25_47 : am_TP 25 47 0 := ⟨29, 36, 33, by decide, by decide +kernel, by decide +kernel, by decide +kernel, by decide +kernel, by decide +kernel, by decide +kernel, by decide +kernel, am_in1 130 (by decide +kernel) (by decide +kernel), am_in1 7 (by decide +kernel) (by decide +kernel), by decide +kernel, by decide⟩
theorem am_t_25_65 : am_TP 25 65 1 := ⟨42, 44, 46, by decide, by decide +kernel, by decide +kernel, by decide +kernel, by decide +kernel, by decide +kernel, by decide +kernel, by decide +kernel, am_in1 200 (by decide +kernel) (by decide +kernel), am_in1 8 (by decide +kernel) (by decide +kernel), by decide +kernel, by decide⟩
theorem am_t_25_82 : am_TP 25 82 2 := ⟨51, 53, 55, by decide, by decide +kernel, by decide +kernel, by decide +kernel, by decide +kernel, by decide +kernel, by decide +kernel, by decide +kernel, am_in1 216 (by decide +kernel) (by decide +kernel), am_in1 9 (by decide +kernel) (by decide +kernel), by decide +kernel, by decide⟩
theorem am_t_28_11 : am_TP 28 11 3 := ⟨73, 178, 77, by decide, by decide +kernel, by decide +kernel, by decide +kernel, by decide +kernel, by decide +kernel, by decide +kernel, by decide +kernel, am_in1 316 (by decide +kernel) (by decide +kernel), am_in1 12 (by decide +kernel) (by decide +kernel), by decide +kernel, by decide⟩
theorem am_t_45_5 : am_TP 45 5 0 := ⟨29, 71, 33, by decide, by decide +kernel, by decide +kernel, by decide +kernel, by decide +kernel, by decide +kernel, by decide +kernel, by decide +kernel, am_in1 130 (by decide +kernel) (by decide +kernel), am_in1 7 (by decide +kernel) (by decide +kernel), by decide +kernel, by decide⟩
theorem am_t_45_28 : am_TP 45 28 3 := ⟨73, 75, 77, by decide, by decide +kernel, by decide +kernel, by decide +kernel, by decide +kernel, by decide +kernel, by decide +kernel, by decide +kernel, am_in1 316 (by decide +kernel) (by decide +kernel), am_in1 12 (by decide +kernel) (by decide +kernel), by decide +kernel, by decide⟩
theorem am_t_46_11 : am_TP 46 11 0 := ⟨29, 85, 33, by decide, by decide +kernel, by decide +kernel, by decide +kernel, by decide +kernel, by decide +kernel, by decide +kernel, by decide +kernel, am_in1 130 (by decide +kernel) (by decide +kernel), am_in1 7 (by decide +kernel) (by decide +kernel), by decide +kernel, by decide⟩
theorem am_t_46_33 : am_TP 46 33 0 := ⟨29, 87, 33, by decide, by decide +kernel, by decide +kernel, by decide +kernel, by decide +kernel, by decide +kernel, by decide +kernel, by decide +kernel, am_in1 130 (by decide +kernel) (by decide +kernel), am_in1 7 (by decide +kernel) (by decide +kernel), by decide +kernel, by decide⟩
theorem am_t_50_12 : am_TP 50 12 3 := ⟨73, 180, 77, by decide, by decide +kernel, by decide +kernel, by decide +kernel, by decide +kernel, by decide +kernel, by decide +kernel, by decide +kernel, am_in1 316 (by decide +kernel) (by decide +kernel), am_in1 12 (by decide +kernel) (by decide +kernel), by decide +kernel, by decide⟩
theorem am_t_52_15 : am_TP 52 15 0 := ⟨29, 125, 33, by decide, by decide +kernel, by decide +kernel, by decide +kernel, by decide +kernel, by decide +kernel, by decide +kernel, by decide +kernel, am_in1 130 (by decide +kernel) (by decide +kernel), am_in1 7 (by decide +kernel) (by decide +kernel), by decide +kernel, by decide⟩
theorem am_t_53_23 : am_TP 53 23 3 := ⟨73, 142, 77, by decide, by decide +kernel, by decide +kernel, by decide +kernel, by decide +kernel, by decide +kernel, by decide +kernel, by decide +kernel, am_in1 316 (by decide +kernel) (by decide +kernel), am_in1 12 (by decide +kernel) (by decide +kernel), by decide +kernel, by decide⟩
theorem am_t_54_22 : am_TP 54 22 3 := ⟨73, 185, 77, by decide, by decide +kernel, by decide +kernel, by decide +kernel, by decide +kernel, by decide +kernel, by decide +kernel, by decide +kernel, am_in1 316 (by decide +kernel) (by decide +kernel), am_in1 12 (by decide +kernel) (by decide +kernel), by decide +kernel, by decide⟩
theorem am_t_56_16 : am_TP 56 16 3 := ⟨73, 187, 77, by decide, by decide +kernel, by decide +kernel, by decide +kernel, by decide +kernel, by decide +kernel, by decide +kernel, by decide +kernel, am_in1 316 (by decide +kernel) (by decide +kernel), am_in1 12 (by decide +kernel) (by decide +kernel), by decide +kernel, by decide⟩
theorem am_fact_t {m pc x : Nat} (h : am_th m pc = some x) : am_TP m pc x := by
  unfold am_th at h
  cases hf : am_tt.find? (fun e => e.1 == m && e.2.1 == pc) with
  | none => rw [hf] at h; cases h
  | some q =>
    rw [hf] at h
    have h1 := List.find?_some hf
    have h2 := List.mem_of_find?_eq_some hf
    obtain ⟨q1, q2, q3, q4, q5, q6⟩ := q
    simp only [Bool.and_eq_true, beq_iff_eq] at h1
    obtain ⟨rfl, rfl⟩ := h1
    have h3 : q3 = x := by simpa using h
    subst h3
    simp only [am_tt, List.mem_cons, List.not_mem_nil, or_false, Prod.mk.injEq] at h2
    rcases h2 with ⟨rfl, rfl, rfl, rfl, rfl, rfl⟩ | ⟨rfl, rfl, rfl, rfl, rfl, rfl⟩ | ⟨rfl, rfl, rfl, rfl, rfl, rfl⟩ | ⟨rfl, rfl, rfl, rfl, rfl, rfl⟩ | ⟨rfl, rfl, rfl, rfl, rfl, rfl⟩ | ⟨rfl, rfl, rfl, rfl, rfl, rfl⟩ | ⟨rfl, rfl, rfl, rfl, rfl, rfl⟩ | ⟨rfl, rfl, rfl, rfl, rfl, rfl⟩ | ⟨rfl, rfl, rfl, rfl, rfl, rfl⟩ | ⟨rfl, rfl, rfl, rfl, rfl, rfl⟩ | ⟨rfl, rfl, rfl, rfl, rfl, rfl⟩ | ⟨rfl, rfl, rfl, rfl, rfl, rfl⟩ | ⟨rfl, rfl, rfl, rfl, rfl, rfl⟩ | ⟨rfl, rfl, rfl, rfl, rfl, rfl⟩
    · exact am_t_25_17
    · exact am_t_25_47
    · exact am_t_25_65
    · exact am_t_25_82
    · exact am_t_28_11
    · exact am_t_45_5
    · exact am_t_45_28
    · exact am_t_46_11
    · exact am_t_46_33
    · exact am_t_50_12
    · exact am_t_52_15
    · exact am_t_53_23
    · exact am_t_54_22
    · exact am_t_56_16
