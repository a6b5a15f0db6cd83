-- 73: CacheLadderModel.goesBefore(III)Z
theorem dd_73_0 : decode (am_b 73) 0 = .ok (.aload_n 0, 1) := by decide +kernel
theorem dd_73_1 : decode (am_b 73) 1 = .ok (.getfield 16, 3) := by decide +kernel
theorem dd_73_4 : decode (am_b 73) 4 = .ok (.iload_n 1, 1) := by decide +kernel
theorem dd_73_5 : decode (am_b 73) 5 = .ok (.iaload, 1) := by decide +kernel
theorem dd_73_6 : decode (am_b 73) 6 = .ok (.ifCond .ne 24, 3) := by decide +kernel
theorem dd_73_9 : decode (am_b 73) 9 = .ok (.aload_n 0, 1) := by decide +kernel
theorem dd_73_10 : decode (am_b 73) 10 = .ok (.getfield 38, 3) := by decide +kernel
theorem dd_73_13 : decode (am_b 73) 13 = .ok (.iload_n 2, 1) := by decide +kernel
theorem dd_73_14 : decode (am_b 73) 14 = .ok (.iaload, 1) := by decide +kernel
theorem dd_73_15 : decode (am_b 73) 15 = .ok (.aload_n 0, 1) := by decide +kernel
theorem dd_73_16 : decode (am_b 73) 16 = .ok (.getfield 38, 3) := by decide +kernel
theorem dd_73_19 : decode (am_b 73) 19 = .ok (.iload_n 3, 1) := by decide +kernel
theorem dd_73_20 : decode (am_b 73) 20 = .ok (.iaload, 1) := by decide +kernel
theorem dd_73_21 : decode (am_b 73) 21 = .ok (.if_icmp .ge 7, 3) := by decide +kernel
theorem dd_73_24 : decode (am_b 73) 24 = .ok (.iconst 1, 1) := by decide +kernel
theorem dd_73_25 : decode (am_b 73) 25 = .ok (.goto 4, 3) := by decide +kernel
theorem dd_73_28 : decode (am_b 73) 28 = .ok (.iconst 0, 1) := by decide +kernel
theorem dd_73_29 : decode (am_b 73) 29 = .ok (.ireturn, 1) := by decide +kernel
theorem dd_73_30 : decode (am_b 73) 30 = .ok (.aload_n 0, 1) := by decide +kernel
theorem dd_73_31 : decode (am_b 73) 31 = .ok (.getfield 16, 3) := by decide +kernel
theorem dd_73_34 : decode (am_b 73) 34 = .ok (.iload_n 1, 1) := by decide +kernel
theorem dd_73_35 : decode (am_b 73) 35 = .ok (.iaload, 1) := by decide +kernel
theorem dd_73_36 : decode (am_b 73) 36 = .ok (.iconst 1, 1) := by decide +kernel
theorem dd_73_37 : decode (am_b 73) 37 = .ok (.if_icmp .ne 24, 3) := by decide +kernel
theorem dd_73_40 : decode (am_b 73) 40 = .ok (.aload_n 0, 1) := by decide +kernel
theorem dd_73_41 : decode (am_b 73) 41 = .ok (.getfield 41, 3) := by decide +kernel
theorem dd_73_44 : decode (am_b 73) 44 = .ok (.iload_n 2, 1) := by decide +kernel
theorem dd_73_45 : decode (am_b 73) 45 = .ok (.iaload, 1) := by decide +kernel
theorem dd_73_46 : decode (am_b 73) 46 = .ok (.aload_n 0, 1) := by decide +kernel
theorem dd_73_47 : decode (am_b 73) 47 = .ok (.getfield 41, 3) := by decide +kernel
theorem dd_73_50 : decode (am_b 73) 50 = .ok (.iload_n 3, 1) := by decide +kernel
theorem dd_73_51 : decode (am_b 73) 51 = .ok (.iaload, 1) := by decide +kernel
theorem dd_73_52 : decode (am_b 73) 52 = .ok (.if_icmp .ge 7, 3) := by decide +kernel
theorem dd_73_55 : decode (am_b 73) 55 = .ok (.iconst 1, 1) := by decide +kernel
theorem dd_73_56 : decode (am_b 73) 56 = .ok (.goto 4, 3) := by decide +kernel
theorem dd_73_59 : decode (am_b 73) 59 = .ok (.iconst 0, 1) := by decide +kernel
theorem dd_73_60 : decode (am_b 73) 60 = .ok (.ireturn, 1) := by decide +kernel
theorem dd_73_61 : decode (am_b 73) 61 = .ok (.aload_n 0, 1) := by decide +kernel
theorem dd_73_62 : decode (am_b 73) 62 = .ok (.getfield 44, 3) := by decide +kernel
theorem dd_73_65 : decode (am_b 73) 65 = .ok (.iload_n 2, 1) := by decide +kernel
theorem dd_73_66 : decode (am_b 73) 66 = .ok (.iaload, 1) := by decide +kernel
theorem dd_73_67 : decode (am_b 73) 67 = .ok (.aload_n 0, 1) := by decide +kernel
theorem dd_73_68 : decode (am_b 73) 68 = .ok (.getfield 44, 3) := by decide +kernel
theorem dd_73_71 : decode (am_b 73) 71 = .ok (.iload_n 3, 1) := by decide +kernel
theorem dd_73_72 : decode (am_b 73) 72 = .ok (.iaload, 1) := by decide +kernel
theorem dd_73_73 : decode (am_b 73) 73 = .ok (.if_icmp .lt 33, 3) := by decide +kernel
theorem dd_73_76 : decode (am_b 73) 76 = .ok (.aload_n 0, 1) := by decide +kernel
theorem dd_73_77 : decode (am_b 73) 77 = .ok (.getfield 44, 3) := by decide +kernel
theorem dd_73_80 : decode (am_b 73) 80 = .ok (.iload_n 2, 1) := by decide +kernel
theorem dd_73_81 : decode (am_b 73) 81 = .ok (.iaload, 1) := by decide +kernel
theorem dd_73_82 : decode (am_b 73) 82 = .ok (.aload_n 0, 1) := by decide +kernel
theorem dd_73_83 : decode (am_b 73) 83 = .ok (.getfield 44, 3) := by decide +kernel
theorem dd_73_86 : decode (am_b 73) 86 = .ok (.iload_n 3, 1) := by decide +kernel
theorem dd_73_87 : decode (am_b 73) 87 = .ok (.iaload, 1) := by decide +kernel
theorem dd_73_88 : decode (am_b 73) 88 = .ok (.if_icmp .ne 22, 3) := by decide +kernel
theorem dd_73_91 : decode (am_b 73) 91 = .ok (.aload_n 0, 1) := by decide +kernel
theorem dd_73_92 : decode (am_b 73) 92 = .ok (.getfield 38, 3) := by decide +kernel
theorem dd_73_95 : decode (am_b 73) 95 = .ok (.iload_n 2, 1) := by decide +kernel
theorem dd_73_96 : decode (am_b 73) 96 = .ok (.iaload, 1) := by decide +kernel
theorem dd_73_97 : decode (am_b 73) 97 = .ok (.aload_n 0, 1) := by decide +kernel
theorem dd_73_98 : decode (am_b 73) 98 = .ok (.getfield 38, 3) := by decide +kernel
theorem dd_73_101 : decode (am_b 73) 101 = .ok (.iload_n 3, 1) := by decide +kernel
theorem dd_73_102 : decode (am_b 73) 102 = .ok (.iaload, 1) := by decide +kernel
theorem dd_73_103 : decode (am_b 73) 103 = .ok (.if_icmp .ge 7, 3) := by decide +kernel
theorem dd_73_106 : decode (am_b 73) 106 = .ok (.iconst 1, 1) := by decide +kernel
theorem dd_73_107 : decode (am_b 73) 107 = .ok (.goto 4, 3) := by decide +kernel
theorem dd_73_110 : decode (am_b 73) 110 = .ok (.iconst 0, 1) := by decide +kernel
theorem dd_73_111 : decode (am_b 73) 111 = .ok (.ireturn, 1) := by decide +kernel
theorem sg_73_0 {sh : am_Sh} {C : Nat → am_M → List am_V → am_O → Prop} {P : am_S ⊕ am_O → Prop} {M : am_M} {x1 : Int32} {x2 : Int32} {x3 : Int32} {j1 : Nat} (hx_j1 : x1 = nI j1) (hl_j1 : j1 < 4) (k1 : ¬ (M (21, 5, 0) j1) = 0 → am_ev sh C 73 (30, [some (am_R (some (20, 0, 0))), some (am_I x1), some (am_I x2), some (am_I x3)], [], M, 0) P) (k2 : (M (21, 5, 0) j1) = 0 → am_ev sh C 73 (9, [some (am_R (some (20, 0, 0))), some (am_I x1), some (am_I x2), some (am_I x3)], [], M, 0) P) : am_ev sh C 73 (0, [some (am_R (some (20, 0, 0))), some (am_I x1), some (am_I x2), some (am_I x3)], [], M, 0) P := by
  refine am_e_aload_n dd_73_0 rfl rfl ?_
  refine am_e_gf (ci := 3) (j := 5) (v := am_R (some (21, 5, 0))) dd_73_1 (by decide +kernel) rfl rfl rfl ?_
  refine am_e_iload_n dd_73_4 rfl rfl ?_
  refine am_a_iald dd_73_5 rfl hx_j1 hl_j1 (by decide) rfl ?_
  exact am_a_if_ne (tgt := 30) (pc' := 9) dd_73_6 rfl rfl k1 k2

theorem sg_73_9 {sh : am_Sh} {C : Nat → am_M → List am_V → am_O → Prop} {P : am_S ⊕ am_O → Prop} {M : am_M} {x1 : Int32} {x2 : Int32} {x3 : Int32} {j1 : Nat} {j2 : Nat} (hx_j1 : x2 = nI j1) (hl_j1 : j1 < 256) (hx_j2 : x3 = nI j2) (hl_j2 : j2 < 256) (k1 : (M (21, 12, 0) j2) ≤ (M (21, 12, 0) j1) → am_ev sh C 73 (28, [some (am_R (some (20, 0, 0))), some (am_I x1), some (am_I x2), some (am_I x3)], [], M, 0) P) (k2 : ¬ (M (21, 12, 0) j2) ≤ (M (21, 12, 0) j1) → am_ev sh C 73 (24, [some (am_R (some (20, 0, 0))), some (am_I x1), some (am_I x2), some (am_I x3)], [], M, 0) P) : am_ev sh C 73 (9, [some (am_R (some (20, 0, 0))), some (am_I x1), some (am_I x2), some (am_I x3)], [], M, 0) P := by
  refine am_e_aload_n dd_73_9 rfl rfl ?_
  refine am_e_gf (ci := 3) (j := 12) (v := am_R (some (21, 12, 0))) dd_73_10 (by decide +kernel) rfl rfl rfl ?_
  refine am_e_iload_n dd_73_13 rfl rfl ?_
  refine am_a_iald dd_73_14 rfl hx_j1 hl_j1 (by decide) rfl ?_
  refine am_e_aload_n dd_73_15 rfl rfl ?_
  refine am_e_gf (ci := 3) (j := 12) (v := am_R (some (21, 12, 0))) dd_73_16 (by decide +kernel) rfl rfl rfl ?_
  refine am_e_iload_n dd_73_19 rfl rfl ?_
  refine am_a_iald dd_73_20 rfl hx_j2 hl_j2 (by decide) rfl ?_
  exact am_a_icmp_ge (tgt := 28) (pc' := 24) dd_73_21 rfl rfl k1 k2

theorem sg_73_24 {sh : am_Sh} {C : Nat → am_M → List am_V → am_O → Prop} {P : am_S ⊕ am_O → Prop} {M : am_M} {x1 : Int32} {x2 : Int32} {x3 : Int32}  (k : am_ev sh C 73 (29, [some (am_R (some (20, 0, 0))), some (am_I x1), some (am_I x2), some (am_I x3)], [am_I 1], M, 0) P) : am_ev sh C 73 (24, [some (am_R (some (20, 0, 0))), some (am_I x1), some (am_I x2), some (am_I x3)], [], M, 0) P := by
  refine am_e_iconst (v := 1) dd_73_24 rfl rfl ?_
  refine am_e_goto (pc' := 29) dd_73_25 rfl ?_
  exact k

theorem sg_73_28 {sh : am_Sh} {C : Nat → am_M → List am_V → am_O → Prop} {P : am_S ⊕ am_O → Prop} {M : am_M} {x1 : Int32} {x2 : Int32} {x3 : Int32}  (k : am_ev sh C 73 (29, [some (am_R (some (20, 0, 0))), some (am_I x1), some (am_I x2), some (am_I x3)], [am_I 0], M, 0) P) : am_ev sh C 73 (28, [some (am_R (some (20, 0, 0))), some (am_I x1), some (am_I x2), some (am_I x3)], [], M, 0) P := by
  refine am_e_iconst (v := 0) dd_73_28 rfl rfl ?_
  exact k

theorem sg_73_29 {sh : am_Sh} {C : Nat → am_M → List am_V → am_O → Prop} {P : am_S ⊕ am_O → Prop} {M : am_M} {x1 : Int32} {x2 : Int32} {x3 : Int32} {xs0 : Int32} (hb1 : xs0 = 0 ∨ xs0 = 1) (k : P (Sum.inr (M, Sum.inl (some (am_I xs0))))) : am_ev sh C 73 (29, [some (am_R (some (20, 0, 0))), some (am_I x1), some (am_I x2), some (am_I x3)], [am_I xs0], M, 0) P := by
  exact am_e_iret dd_73_29 (by decide +kernel) (Or.inr ⟨rfl, hb1⟩) k

theorem sg_73_30 {sh : am_Sh} {C : Nat → am_M → List am_V → am_O → Prop} {P : am_S ⊕ am_O → Prop} {M : am_M} {x1 : Int32} {x2 : Int32} {x3 : Int32} {j1 : Nat} (hx_j1 : x1 = nI j1) (hl_j1 : j1 < 4) (k1 : ¬ (M (21, 5, 0) j1) = 1 → am_ev sh C 73 (61, [some (am_R (some (20, 0, 0))), some (am_I x1), some (am_I x2), some (am_I x3)], [], M, 0) P) (k2 : (M (21, 5, 0) j1) = 1 → am_ev sh C 73 (40, [some (am_R (some (20, 0, 0))), some (am_I x1), some (am_I x2), some (am_I x3)], [], M, 0) P) : am_ev sh C 73 (30, [some (am_R (some (20, 0, 0))), some (am_I x1), some (am_I x2), some (am_I x3)], [], M, 0) P := by
  refine am_e_aload_n dd_73_30 rfl rfl ?_
  refine am_e_gf (ci := 3) (j := 5) (v := am_R (some (21, 5, 0))) dd_73_31 (by decide +kernel) rfl rfl rfl ?_
  refine am_e_iload_n dd_73_34 rfl rfl ?_
  refine am_a_iald dd_73_35 rfl hx_j1 hl_j1 (by decide) rfl ?_
  refine am_e_iconst (v := 1) dd_73_36 rfl rfl ?_
  exact am_a_icmp_ne (tgt := 61) (pc' := 40) dd_73_37 rfl rfl k1 k2

theorem sg_73_40 {sh : am_Sh} {C : Nat → am_M → List am_V → am_O → Prop} {P : am_S ⊕ am_O → Prop} {M : am_M} {x1 : Int32} {x2 : Int32} {x3 : Int32} {j1 : Nat} {j2 : Nat} (hx_j1 : x2 = nI j1) (hl_j1 : j1 < 256) (hx_j2 : x3 = nI j2) (hl_j2 : j2 < 256) (k1 : (M (21, 13, 0) j2) ≤ (M (21, 13, 0) j1) → am_ev sh C 73 (59, [some (am_R (some (20, 0, 0))), some (am_I x1), some (am_I x2), some (am_I x3)], [], M, 0) P) (k2 : ¬ (M (21, 13, 0) j2) ≤ (M (21, 13, 0) j1) → am_ev sh C 73 (55, [some (am_R (some (20, 0, 0))), some (am_I x1), some (am_I x2), some (am_I x3)], [], M, 0) P) : am_ev sh C 73 (40, [some (am_R (some (20, 0, 0))), some (am_I x1), some (am_I x2), some (am_I x3)], [], M, 0) P := by
  refine am_e_aload_n dd_73_40 rfl rfl ?_
  refine am_e_gf (ci := 3) (j := 13) (v := am_R (some (21, 13, 0))) dd_73_41 (by decide +kernel) rfl rfl rfl ?_
  refine am_e_iload_n dd_73_44 rfl rfl ?_
  refine am_a_iald dd_73_45 rfl hx_j1 hl_j1 (by decide) rfl ?_
  refine am_e_aload_n dd_73_46 rfl rfl ?_
  refine am_e_gf (ci := 3) (j := 13) (v := am_R (some (21, 13, 0))) dd_73_47 (by decide +kernel) rfl rfl rfl ?_
  refine am_e_iload_n dd_73_50 rfl rfl ?_
  refine am_a_iald dd_73_51 rfl hx_j2 hl_j2 (by decide) rfl ?_
  exact am_a_icmp_ge (tgt := 59) (pc' := 55) dd_73_52 rfl rfl k1 k2

theorem sg_73_55 {sh : am_Sh} {C : Nat → am_M → List am_V → am_O → Prop} {P : am_S ⊕ am_O → Prop} {M : am_M} {x1 : Int32} {x2 : Int32} {x3 : Int32}  (k : am_ev sh C 73 (60, [some (am_R (some (20, 0, 0))), some (am_I x1), some (am_I x2), some (am_I x3)], [am_I 1], M, 0) P) : am_ev sh C 73 (55, [some (am_R (some (20, 0, 0))), some (am_I x1), some (am_I x2), some (am_I x3)], [], M, 0) P := by
  refine am_e_iconst (v := 1) dd_73_55 rfl rfl ?_
  refine am_e_goto (pc' := 60) dd_73_56 rfl ?_
  exact k

theorem sg_73_59 {sh : am_Sh} {C : Nat → am_M → List am_V → am_O → Prop} {P : am_S ⊕ am_O → Prop} {M : am_M} {x1 : Int32} {x2 : Int32} {x3 : Int32}  (k : am_ev sh C 73 (60, [some (am_R (some (20, 0, 0))), some (am_I x1), some (am_I x2), some (am_I x3)], [am_I 0], M, 0) P) : am_ev sh C 73 (59, [some (am_R (some (20, 0, 0))), some (am_I x1), some (am_I x2), some (am_I x3)], [], M, 0) P := by
  refine am_e_iconst (v := 0) dd_73_59 rfl rfl ?_
  exact k

theorem sg_73_60 {sh : am_Sh} {C : Nat → am_M → List am_V → am_O → Prop} {P : am_S ⊕ am_O → Prop} {M : am_M} {x1 : Int32} {x2 : Int32} {x3 : Int32} {xs0 : Int32} (hb1 : xs0 = 0 ∨ xs0 = 1) (k : P (Sum.inr (M, Sum.inl (some (am_I xs0))))) : am_ev sh C 73 (60, [some (am_R (some (20, 0, 0))), some (am_I x1), some (am_I x2), some (am_I x3)], [am_I xs0], M, 0) P := by
  exact am_e_iret dd_73_60 (by decide +kernel) (Or.inr ⟨rfl, hb1⟩) k

theorem sg_73_61 {sh : am_Sh} {C : Nat → am_M → List am_V → am_O → Prop} {P : am_S ⊕ am_O → Prop} {M : am_M} {x1 : Int32} {x2 : Int32} {x3 : Int32} {j1 : Nat} {j2 : Nat} (hx_j1 : x2 = nI j1) (hl_j1 : j1 < 256) (hx_j2 : x3 = nI j2) (hl_j2 : j2 < 256) (k1 : (M (21, 14, 0) j1) < (M (21, 14, 0) j2) → am_ev sh C 73 (106, [some (am_R (some (20, 0, 0))), some (am_I x1), some (am_I x2), some (am_I x3)], [], M, 0) P) (k2 : ¬ (M (21, 14, 0) j1) < (M (21, 14, 0) j2) → am_ev sh C 73 (76, [some (am_R (some (20, 0, 0))), some (am_I x1), some (am_I x2), some (am_I x3)], [], M, 0) P) : am_ev sh C 73 (61, [some (am_R (some (20, 0, 0))), some (am_I x1), some (am_I x2), some (am_I x3)], [], M, 0) P := by
  refine am_e_aload_n dd_73_61 rfl rfl ?_
  refine am_e_gf (ci := 3) (j := 14) (v := am_R (some (21, 14, 0))) dd_73_62 (by decide +kernel) rfl rfl rfl ?_
  refine am_e_iload_n dd_73_65 rfl rfl ?_
  refine am_a_iald dd_73_66 rfl hx_j1 hl_j1 (by decide) rfl ?_
  refine am_e_aload_n dd_73_67 rfl rfl ?_
  refine am_e_gf (ci := 3) (j := 14) (v := am_R (some (21, 14, 0))) dd_73_68 (by decide +kernel) rfl rfl rfl ?_
  refine am_e_iload_n dd_73_71 rfl rfl ?_
  refine am_a_iald dd_73_72 rfl hx_j2 hl_j2 (by decide) rfl ?_
  exact am_a_icmp_lt (tgt := 106) (pc' := 76) dd_73_73 rfl rfl k1 k2

theorem sg_73_76 {sh : am_Sh} {C : Nat → am_M → List am_V → am_O → Prop} {P : am_S ⊕ am_O → Prop} {M : am_M} {x1 : Int32} {x2 : Int32} {x3 : Int32} {j1 : Nat} {j2 : Nat} (hx_j1 : x2 = nI j1) (hl_j1 : j1 < 256) (hx_j2 : x3 = nI j2) (hl_j2 : j2 < 256) (k1 : ¬ (M (21, 14, 0) j1) = (M (21, 14, 0) j2) → am_ev sh C 73 (110, [some (am_R (some (20, 0, 0))), some (am_I x1), some (am_I x2), some (am_I x3)], [], M, 0) P) (k2 : (M (21, 14, 0) j1) = (M (21, 14, 0) j2) → am_ev sh C 73 (91, [some (am_R (some (20, 0, 0))), some (am_I x1), some (am_I x2), some (am_I x3)], [], M, 0) P) : am_ev sh C 73 (76, [some (am_R (some (20, 0, 0))), some (am_I x1), some (am_I x2), some (am_I x3)], [], M, 0) P := by
  refine am_e_aload_n dd_73_76 rfl rfl ?_
  refine am_e_gf (ci := 3) (j := 14) (v := am_R (some (21, 14, 0))) dd_73_77 (by decide +kernel) rfl rfl rfl ?_
  refine am_e_iload_n dd_73_80 rfl rfl ?_
  refine am_a_iald dd_73_81 rfl hx_j1 hl_j1 (by decide) rfl ?_
  refine am_e_aload_n dd_73_82 rfl rfl ?_
  refine am_e_gf (ci := 3) (j := 14) (v := am_R (some (21, 14, 0))) dd_73_83 (by decide +kernel) rfl rfl rfl ?_
  refine am_e_iload_n dd_73_86 rfl rfl ?_
  refine am_a_iald dd_73_87 rfl hx_j2 hl_j2 (by decide) rfl ?_
  exact am_a_icmp_ne (tgt := 110) (pc' := 91) dd_73_88 rfl rfl k1 k2

theorem sg_73_91 {sh : am_Sh} {C : Nat → am_M → List am_V → am_O → Prop} {P : am_S ⊕ am_O → Prop} {M : am_M} {x1 : Int32} {x2 : Int32} {x3 : Int32} {j1 : Nat} {j2 : Nat} (hx_j1 : x2 = nI j1) (hl_j1 : j1 < 256) (hx_j2 : x3 = nI j2) (hl_j2 : j2 < 256) (k1 : (M (21, 12, 0) j2) ≤ (M (21, 12, 0) j1) → am_ev sh C 73 (110, [some (am_R (some (20, 0, 0))), some (am_I x1), some (am_I x2), some (am_I x3)], [], M, 0) P) (k2 : ¬ (M (21, 12, 0) j2) ≤ (M (21, 12, 0) j1) → am_ev sh C 73 (106, [some (am_R (some (20, 0, 0))), some (am_I x1), some (am_I x2), some (am_I x3)], [], M, 0) P) : am_ev sh C 73 (91, [some (am_R (some (20, 0, 0))), some (am_I x1), some (am_I x2), some (am_I x3)], [], M, 0) P := by
  refine am_e_aload_n dd_73_91 rfl rfl ?_
  refine am_e_gf (ci := 3) (j := 12) (v := am_R (some (21, 12, 0))) dd_73_92 (by decide +kernel) rfl rfl rfl ?_
  refine am_e_iload_n dd_73_95 rfl rfl ?_
  refine am_a_iald dd_73_96 rfl hx_j1 hl_j1 (by decide) rfl ?_
  refine am_e_aload_n dd_73_97 rfl rfl ?_
  refine am_e_gf (ci := 3) (j := 12) (v := am_R (some (21, 12, 0))) dd_73_98 (by decide +kernel) rfl rfl rfl ?_
  refine am_e_iload_n dd_73_101 rfl rfl ?_
  refine am_a_iald dd_73_102 rfl hx_j2 hl_j2 (by decide) rfl ?_
  exact am_a_icmp_ge (tgt := 110) (pc' := 106) dd_73_103 rfl rfl k1 k2

theorem sg_73_106 {sh : am_Sh} {C : Nat → am_M → List am_V → am_O → Prop} {P : am_S ⊕ am_O → Prop} {M : am_M} {x1 : Int32} {x2 : Int32} {x3 : Int32}  (k : am_ev sh C 73 (111, [some (am_R (some (20, 0, 0))), some (am_I x1), some (am_I x2), some (am_I x3)], [am_I 1], M, 0) P) : am_ev sh C 73 (106, [some (am_R (some (20, 0, 0))), some (am_I x1), some (am_I x2), some (am_I x3)], [], M, 0) P := by
  refine am_e_iconst (v := 1) dd_73_106 rfl rfl ?_
  refine am_e_goto (pc' := 111) dd_73_107 rfl ?_
  exact k

theorem sg_73_110 {sh : am_Sh} {C : Nat → am_M → List am_V → am_O → Prop} {P : am_S ⊕ am_O → Prop} {M : am_M} {x1 : Int32} {x2 : Int32} {x3 : Int32}  (k : am_ev sh C 73 (111, [some (am_R (some (20, 0, 0))), some (am_I x1), some (am_I x2), some (am_I x3)], [am_I 0], M, 0) P) : am_ev sh C 73 (110, [some (am_R (some (20, 0, 0))), some (am_I x1), some (am_I x2), some (am_I x3)], [], M, 0) P := by
  refine am_e_iconst (v := 0) dd_73_110 rfl rfl ?_
  exact k

theorem sg_73_111 {sh : am_Sh} {C : Nat → am_M → List am_V → am_O → Prop} {P : am_S ⊕ am_O → Prop} {M : am_M} {x1 : Int32} {x2 : Int32} {x3 : Int32} {xs0 : Int32} (hb1 : xs0 = 0 ∨ xs0 = 1) (k : P (Sum.inr (M, Sum.inl (some (am_I xs0))))) : am_ev sh C 73 (111, [some (am_R (some (20, 0, 0))), some (am_I x1), some (am_I x2), some (am_I x3)], [am_I xs0], M, 0) P := by
  exact am_e_iret dd_73_111 (by decide +kernel) (Or.inr ⟨rfl, hb1⟩) k

-- 74: CacheLadderModel.moveHand(II)V
theorem dd_74_0 : decode (am_b 74) 0 = .ok (.aload_n 0, 1) := by decide +kernel
theorem dd_74_1 : decode (am_b 74) 1 = .ok (.iload_n 1, 1) := by decide +kernel
theorem dd_74_2 : decode (am_b 74) 2 = .ok (.iload_n 2, 1) := by decide +kernel
theorem dd_74_3 : decode (am_b 74) 3 = .ok (.invokevirtual 87, 3) := by decide +kernel
theorem dd_74_6 : decode (am_b 74) 6 = .ok (.istore_n 3, 1) := by decide +kernel
theorem dd_74_7 : decode (am_b 74) 7 = .ok (.bipush 16, 2) := by decide +kernel
theorem dd_74_9 : decode (am_b 74) 9 = .ok (.iload_n 1, 1) := by decide +kernel
theorem dd_74_10 : decode (am_b 74) 10 = .ok (.imul, 1) := by decide +kernel
theorem dd_74_11 : decode (am_b 74) 11 = .ok (.iload_n 2, 1) := by decide +kernel
theorem dd_74_12 : decode (am_b 74) 12 = .ok (.iadd, 1) := by decide +kernel
theorem dd_74_13 : decode (am_b 74) 13 = .ok (.istore 4, 2) := by decide +kernel
theorem dd_74_15 : decode (am_b 74) 15 = .ok (.aload_n 0, 1) := by decide +kernel
theorem dd_74_16 : decode (am_b 74) 16 = .ok (.getfield 47, 3) := by decide +kernel
theorem dd_74_19 : decode (am_b 74) 19 = .ok (.iload_n 3, 1) := by decide +kernel
theorem dd_74_20 : decode (am_b 74) 20 = .ok (.aload_n 0, 1) := by decide +kernel
theorem dd_74_21 : decode (am_b 74) 21 = .ok (.getfield 29, 3) := by decide +kernel
theorem dd_74_24 : decode (am_b 74) 24 = .ok (.iload 4, 2) := by decide +kernel
theorem dd_74_26 : decode (am_b 74) 26 = .ok (.iaload, 1) := by decide +kernel
theorem dd_74_27 : decode (am_b 74) 27 = .ok (.iadd, 1) := by decide +kernel
theorem dd_74_28 : decode (am_b 74) 28 = .ok (.baload, 1) := by decide +kernel
theorem dd_74_29 : decode (am_b 74) 29 = .ok (.ifCond .eq 44, 3) := by decide +kernel
theorem dd_74_32 : decode (am_b 74) 32 = .ok (.aload_n 0, 1) := by decide +kernel
theorem dd_74_33 : decode (am_b 74) 33 = .ok (.getfield 47, 3) := by decide +kernel
theorem dd_74_36 : decode (am_b 74) 36 = .ok (.iload_n 3, 1) := by decide +kernel
theorem dd_74_37 : decode (am_b 74) 37 = .ok (.aload_n 0, 1) := by decide +kernel
theorem dd_74_38 : decode (am_b 74) 38 = .ok (.getfield 29, 3) := by decide +kernel
theorem dd_74_41 : decode (am_b 74) 41 = .ok (.iload 4, 2) := by decide +kernel
theorem dd_74_43 : decode (am_b 74) 43 = .ok (.iaload, 1) := by decide +kernel
theorem dd_74_44 : decode (am_b 74) 44 = .ok (.iadd, 1) := by decide +kernel
theorem dd_74_45 : decode (am_b 74) 45 = .ok (.iconst 0, 1) := by decide +kernel
theorem dd_74_46 : decode (am_b 74) 46 = .ok (.bastore, 1) := by decide +kernel
theorem dd_74_47 : decode (am_b 74) 47 = .ok (.aload_n 0, 1) := by decide +kernel
theorem dd_74_48 : decode (am_b 74) 48 = .ok (.getfield 29, 3) := by decide +kernel
theorem dd_74_51 : decode (am_b 74) 51 = .ok (.iload 4, 2) := by decide +kernel
theorem dd_74_53 : decode (am_b 74) 53 = .ok (.aload_n 0, 1) := by decide +kernel
theorem dd_74_54 : decode (am_b 74) 54 = .ok (.getfield 29, 3) := by decide +kernel
theorem dd_74_57 : decode (am_b 74) 57 = .ok (.iload 4, 2) := by decide +kernel
theorem dd_74_59 : decode (am_b 74) 59 = .ok (.iaload, 1) := by decide +kernel
theorem dd_74_60 : decode (am_b 74) 60 = .ok (.iconst 1, 1) := by decide +kernel
theorem dd_74_61 : decode (am_b 74) 61 = .ok (.iadd, 1) := by decide +kernel
theorem dd_74_62 : decode (am_b 74) 62 = .ok (.aload_n 0, 1) := by decide +kernel
theorem dd_74_63 : decode (am_b 74) 63 = .ok (.getfield 13, 3) := by decide +kernel
theorem dd_74_66 : decode (am_b 74) 66 = .ok (.iload_n 1, 1) := by decide +kernel
theorem dd_74_67 : decode (am_b 74) 67 = .ok (.iaload, 1) := by decide +kernel
theorem dd_74_68 : decode (am_b 74) 68 = .ok (.irem, 1) := by decide +kernel
theorem dd_74_69 : decode (am_b 74) 69 = .ok (.iastore, 1) := by decide +kernel
theorem dd_74_70 : decode (am_b 74) 70 = .ok (.goto (-55), 3) := by decide +kernel
theorem dd_74_73 : decode (am_b 74) 73 = .ok (.aload_n 0, 1) := by decide +kernel
theorem dd_74_74 : decode (am_b 74) 74 = .ok (.getfield 29, 3) := by decide +kernel
theorem dd_74_77 : decode (am_b 74) 77 = .ok (.iload 4, 2) := by decide +kernel
theorem dd_74_79 : decode (am_b 74) 79 = .ok (.aload_n 0, 1) := by decide +kernel
theorem dd_74_80 : decode (am_b 74) 80 = .ok (.getfield 29, 3) := by decide +kernel
theorem dd_74_83 : decode (am_b 74) 83 = .ok (.iload 4, 2) := by decide +kernel
theorem dd_74_85 : decode (am_b 74) 85 = .ok (.iaload, 1) := by decide +kernel
theorem dd_74_86 : decode (am_b 74) 86 = .ok (.iconst 1, 1) := by decide +kernel
theorem dd_74_87 : decode (am_b 74) 87 = .ok (.iadd, 1) := by decide +kernel
theorem dd_74_88 : decode (am_b 74) 88 = .ok (.aload_n 0, 1) := by decide +kernel
theorem dd_74_89 : decode (am_b 74) 89 = .ok (.getfield 13, 3) := by decide +kernel
theorem dd_74_92 : decode (am_b 74) 92 = .ok (.iload_n 1, 1) := by decide +kernel
theorem dd_74_93 : decode (am_b 74) 93 = .ok (.iaload, 1) := by decide +kernel
theorem dd_74_94 : decode (am_b 74) 94 = .ok (.irem, 1) := by decide +kernel
theorem dd_74_95 : decode (am_b 74) 95 = .ok (.iastore, 1) := by decide +kernel
theorem dd_74_96 : decode (am_b 74) 96 = .ok (.return_, 1) := by decide +kernel
theorem sg_74_0 {sh : am_Sh} {C : Nat → am_M → List am_V → am_O → Prop} {P : am_S ⊕ am_O → Prop} {M : am_M} {x1 : Int32} {x2 : Int32} {u3 : Option am_V} {u4 : Option am_V} {M1 : am_M} {r1 : Int32} (hc1 : C 69 M [am_R (some (20, 0, 0)), am_I x1, am_I x2] (M1, Sum.inl (some (am_I r1)))) (k : am_ev sh C 74 (15, [some (am_R (some (20, 0, 0))), some (am_I x1), some (am_I x2), some (am_I r1), some (am_I ((16 * x1) + x2))], [], M1, 0) P) : am_ev sh C 74 (0, [some (am_R (some (20, 0, 0))), some (am_I x1), some (am_I x2), u3, u4], [], M, 0) P := by
  refine am_e_aload_n dd_74_0 rfl rfl ?_
  refine am_e_iload_n dd_74_1 rfl rfl ?_
  refine am_e_iload_n dd_74_2 rfl rfl ?_
  refine am_e_callV (c := 69) (k := 3) (as := [am_R (some (20, 0, 0)), am_I x1, am_I x2]) (S' := [am_I r1]) (v := some (am_I r1)) (M' := M1) (n' := 0) dd_74_3 (by decide +kernel) ⟨Nat.le_of_ble_eq_true rfl, Nat.le_of_ble_eq_true rfl, by decide +kernel, (Or.inr (am_rcv_of rfl))⟩ rfl rfl (by decide +kernel) hc1 rfl ?_
  refine am_e_istore_n dd_74_6 (Nat.le_of_ble_eq_true rfl) rfl rfl ?_
  refine am_e_bipush (v := 16) dd_74_7 (by decide) rfl ?_
  refine am_e_iload_n dd_74_9 rfl rfl ?_
  refine am_e_imul dd_74_10 rfl ?_
  refine am_e_iload_n dd_74_11 rfl rfl ?_
  refine am_e_iadd dd_74_12 rfl ?_
  refine am_e_istore dd_74_13 (Nat.le_of_ble_eq_true rfl) rfl rfl ?_
  exact k

theorem sg_74_15 {sh : am_Sh} {C : Nat → am_M → List am_V → am_O → Prop} {P : am_S ⊕ am_O → Prop} {M : am_M} {x1 : Int32} {x2 : Int32} {x3 : Int32} {x4 : Int32} {j1 : Nat} {j2 : Nat} (hx_j1 : x4 = nI j1) (hl_j1 : j1 < 64) (hx_j2 : x3 + (M (21, 9, 0) j1) = nI j2) (hl_j2 : j2 < 256) (k1 : (M (21, 15, 0) j2) = 0 → am_ev sh C 74 (73, [some (am_R (some (20, 0, 0))), some (am_I x1), some (am_I x2), some (am_I x3), some (am_I x4)], [], M, 0) P) (k2 : ¬ (M (21, 15, 0) j2) = 0 → am_ev sh C 74 (32, [some (am_R (some (20, 0, 0))), some (am_I x1), some (am_I x2), some (am_I x3), some (am_I x4)], [], M, 0) P) : am_ev sh C 74 (15, [some (am_R (some (20, 0, 0))), some (am_I x1), some (am_I x2), some (am_I x3), some (am_I x4)], [], M, 0) P := by
  refine am_e_aload_n dd_74_15 rfl rfl ?_
  refine am_e_gf (ci := 3) (j := 15) (v := am_R (some (21, 15, 0))) dd_74_16 (by decide +kernel) rfl rfl rfl ?_
  refine am_e_iload_n dd_74_19 rfl rfl ?_
  refine am_e_aload_n dd_74_20 rfl rfl ?_
  refine am_e_gf (ci := 3) (j := 9) (v := am_R (some (21, 9, 0))) dd_74_21 (by decide +kernel) rfl rfl rfl ?_
  refine am_e_iload dd_74_24 rfl rfl ?_
  refine am_a_iald dd_74_26 rfl hx_j1 hl_j1 (by decide) rfl ?_
  refine am_e_iadd dd_74_27 rfl ?_
  refine am_a_zald dd_74_28 rfl hx_j2 hl_j2 (by decide) rfl ?_
  exact am_a_if_eq (tgt := 73) (pc' := 32) dd_74_29 rfl rfl k1 k2

theorem sg_74_32 {sh : am_Sh} {C : Nat → am_M → List am_V → am_O → Prop} {P : am_S ⊕ am_O → Prop} {M : am_M} {x1 : Int32} {x2 : Int32} {x3 : Int32} {x4 : Int32} {j1 : Nat} {j2 : Nat} {j3 : Nat} (hx_j1 : x4 = nI j1) (hl_j1 : j1 < 64) (hx_j2 : x3 + (M (21, 9, 0) j1) = nI j2) (hl_j2 : j2 < 256) (hx_j3 : x1 = nI j3) (hl_j3 : j3 < 4) (hd1 : ¬ (am_up M (21, 15, 0) j2 0) (21, 4, 0) j3 = 0) (k : am_ev sh C 74 (15, [some (am_R (some (20, 0, 0))), some (am_I x1), some (am_I x2), some (am_I x3), some (am_I x4)], [], (am_up (am_up M (21, 15, 0) j2 0) (21, 9, 0) j1 ((((am_up M (21, 15, 0) j2 0) (21, 9, 0) j1) + 1) - (((am_up M (21, 15, 0) j2 0) (21, 9, 0) j1) + 1) / ((am_up M (21, 15, 0) j2 0) (21, 4, 0) j3) * ((am_up M (21, 15, 0) j2 0) (21, 4, 0) j3))), 0) P) : am_ev sh C 74 (32, [some (am_R (some (20, 0, 0))), some (am_I x1), some (am_I x2), some (am_I x3), some (am_I x4)], [], M, 0) P := by
  refine am_e_aload_n dd_74_32 rfl rfl ?_
  refine am_e_gf (ci := 3) (j := 15) (v := am_R (some (21, 15, 0))) dd_74_33 (by decide +kernel) rfl rfl rfl ?_
  refine am_e_iload_n dd_74_36 rfl rfl ?_
  refine am_e_aload_n dd_74_37 rfl rfl ?_
  refine am_e_gf (ci := 3) (j := 9) (v := am_R (some (21, 9, 0))) dd_74_38 (by decide +kernel) rfl rfl rfl ?_
  refine am_e_iload dd_74_41 rfl rfl ?_
  refine am_a_iald dd_74_43 rfl hx_j1 hl_j1 (by decide) rfl ?_
  refine am_e_iadd dd_74_44 rfl ?_
  refine am_e_iconst (v := 0) dd_74_45 rfl rfl ?_
  refine am_a_zast dd_74_46 rfl (Or.inl rfl) hx_j2 hl_j2 (by decide) rfl ?_
  refine am_e_aload_n dd_74_47 rfl rfl ?_
  refine am_e_gf (ci := 3) (j := 9) (v := am_R (some (21, 9, 0))) dd_74_48 (by decide +kernel) rfl rfl rfl ?_
  refine am_e_iload dd_74_51 rfl rfl ?_
  refine am_e_aload_n dd_74_53 rfl rfl ?_
  refine am_e_gf (ci := 3) (j := 9) (v := am_R (some (21, 9, 0))) dd_74_54 (by decide +kernel) rfl rfl rfl ?_
  refine am_e_iload dd_74_57 rfl rfl ?_
  refine am_a_iald dd_74_59 rfl hx_j1 hl_j1 (by decide) rfl ?_
  refine am_e_iconst (v := 1) dd_74_60 rfl rfl ?_
  refine am_e_iadd dd_74_61 rfl ?_
  refine am_e_aload_n dd_74_62 rfl rfl ?_
  refine am_e_gf (ci := 3) (j := 4) (v := am_R (some (21, 4, 0))) dd_74_63 (by decide +kernel) rfl rfl rfl ?_
  refine am_e_iload_n dd_74_66 rfl rfl ?_
  refine am_a_iald dd_74_67 rfl hx_j3 hl_j3 (by decide) rfl ?_
  refine am_e_irem dd_74_68 hd1 rfl ?_
  refine am_a_iast dd_74_69 rfl hx_j1 hl_j1 (by decide) rfl ?_
  refine am_e_goto (pc' := 15) dd_74_70 rfl ?_
  exact k

theorem sg_74_73 {sh : am_Sh} {C : Nat → am_M → List am_V → am_O → Prop} {P : am_S ⊕ am_O → Prop} {M : am_M} {x1 : Int32} {x2 : Int32} {x3 : Int32} {x4 : Int32} {j1 : Nat} {j2 : Nat} (hx_j1 : x4 = nI j1) (hl_j1 : j1 < 64) (hx_j2 : x1 = nI j2) (hl_j2 : j2 < 4) (hd1 : ¬ M (21, 4, 0) j2 = 0) (k : P (Sum.inr ((am_up M (21, 9, 0) j1 (((M (21, 9, 0) j1) + 1) - ((M (21, 9, 0) j1) + 1) / (M (21, 4, 0) j2) * (M (21, 4, 0) j2))), Sum.inl none))) : am_ev sh C 74 (73, [some (am_R (some (20, 0, 0))), some (am_I x1), some (am_I x2), some (am_I x3), some (am_I x4)], [], M, 0) P := by
  refine am_e_aload_n dd_74_73 rfl rfl ?_
  refine am_e_gf (ci := 3) (j := 9) (v := am_R (some (21, 9, 0))) dd_74_74 (by decide +kernel) rfl rfl rfl ?_
  refine am_e_iload dd_74_77 rfl rfl ?_
  refine am_e_aload_n dd_74_79 rfl rfl ?_
  refine am_e_gf (ci := 3) (j := 9) (v := am_R (some (21, 9, 0))) dd_74_80 (by decide +kernel) rfl rfl rfl ?_
  refine am_e_iload dd_74_83 rfl rfl ?_
  refine am_a_iald dd_74_85 rfl hx_j1 hl_j1 (by decide) rfl ?_
  refine am_e_iconst (v := 1) dd_74_86 rfl rfl ?_
  refine am_e_iadd dd_74_87 rfl ?_
  refine am_e_aload_n dd_74_88 rfl rfl ?_
  refine am_e_gf (ci := 3) (j := 4) (v := am_R (some (21, 4, 0))) dd_74_89 (by decide +kernel) rfl rfl rfl ?_
  refine am_e_iload_n dd_74_92 rfl rfl ?_
  refine am_a_iald dd_74_93 rfl hx_j2 hl_j2 (by decide) rfl ?_
  refine am_e_irem dd_74_94 hd1 rfl ?_
  refine am_a_iast dd_74_95 rfl hx_j1 hl_j1 (by decide) rfl ?_
  exact am_e_vret dd_74_96 (by decide +kernel) rfl k

-- 75: CacheLadderModel.use(I)V
theorem dd_75_0 : decode (am_b 75) 0 = .ok (.aload_n 0, 1) := by decide +kernel
theorem dd_75_1 : decode (am_b 75) 1 = .ok (.dup, 1) := by decide +kernel
theorem dd_75_2 : decode (am_b 75) 2 = .ok (.getfield 91, 3) := by decide +kernel
theorem dd_75_5 : decode (am_b 75) 5 = .ok (.iconst 1, 1) := by decide +kernel
theorem dd_75_6 : decode (am_b 75) 6 = .ok (.iadd, 1) := by decide +kernel
theorem dd_75_7 : decode (am_b 75) 7 = .ok (.putfield 91, 3) := by decide +kernel
theorem dd_75_10 : decode (am_b 75) 10 = .ok (.aload_n 0, 1) := by decide +kernel
theorem dd_75_11 : decode (am_b 75) 11 = .ok (.getfield 41, 3) := by decide +kernel
theorem dd_75_14 : decode (am_b 75) 14 = .ok (.iload_n 1, 1) := by decide +kernel
theorem dd_75_15 : decode (am_b 75) 15 = .ok (.aload_n 0, 1) := by decide +kernel
theorem dd_75_16 : decode (am_b 75) 16 = .ok (.getfield 91, 3) := by decide +kernel
theorem dd_75_19 : decode (am_b 75) 19 = .ok (.iastore, 1) := by decide +kernel
theorem dd_75_20 : decode (am_b 75) 20 = .ok (.aload_n 0, 1) := by decide +kernel
theorem dd_75_21 : decode (am_b 75) 21 = .ok (.getfield 44, 3) := by decide +kernel
theorem dd_75_24 : decode (am_b 75) 24 = .ok (.iload_n 1, 1) := by decide +kernel
theorem dd_75_25 : decode (am_b 75) 25 = .ok (.dup2, 1) := by decide +kernel
theorem dd_75_26 : decode (am_b 75) 26 = .ok (.iaload, 1) := by decide +kernel
theorem dd_75_27 : decode (am_b 75) 27 = .ok (.iconst 1, 1) := by decide +kernel
theorem dd_75_28 : decode (am_b 75) 28 = .ok (.iadd, 1) := by decide +kernel
theorem dd_75_29 : decode (am_b 75) 29 = .ok (.iastore, 1) := by decide +kernel
theorem dd_75_30 : decode (am_b 75) 30 = .ok (.aload_n 0, 1) := by decide +kernel
theorem dd_75_31 : decode (am_b 75) 31 = .ok (.getfield 47, 3) := by decide +kernel
theorem dd_75_34 : decode (am_b 75) 34 = .ok (.iload_n 1, 1) := by decide +kernel
theorem dd_75_35 : decode (am_b 75) 35 = .ok (.iconst 1, 1) := by decide +kernel
theorem dd_75_36 : decode (am_b 75) 36 = .ok (.bastore, 1) := by decide +kernel
theorem dd_75_37 : decode (am_b 75) 37 = .ok (.return_, 1) := by decide +kernel
theorem sg_75_0 {sh : am_Sh} {C : Nat → am_M → List am_V → am_O → Prop} {P : am_S ⊕ am_O → Prop} {M : am_M} {x1 : Int32} {j1 : Nat} {j2 : Nat} {j3 : Nat} (hx_j1 : x1 = nI j1) (hl_j1 : j1 < 256) (hx_j2 : x1 = nI j2) (hl_j2 : j2 < 256) (hx_j3 : x1 = nI j3) (hl_j3 : j3 < 256) (k : P (Sum.inr ((am_up (am_up (am_up (am_up M (20, 0, 0) 17 ((M (20, 0, 0) 17) + 1)) (21, 13, 0) j1 ((am_up M (20, 0, 0) 17 ((M (20, 0, 0) 17) + 1)) (20, 0, 0) 17)) (21, 14, 0) j2 (((am_up (am_up M (20, 0, 0) 17 ((M (20, 0, 0) 17) + 1)) (21, 13, 0) j1 ((am_up M (20, 0, 0) 17 ((M (20, 0, 0) 17) + 1)) (20, 0, 0) 17)) (21, 14, 0) j2) + 1)) (21, 15, 0) j3 1), Sum.inl none))) : am_ev sh C 75 (0, [some (am_R (some (20, 0, 0))), some (am_I x1)], [], M, 0) P := by
  refine am_e_aload_n dd_75_0 rfl rfl ?_
  refine am_e_dup dd_75_1 rfl rfl ?_
  refine am_e_gf (ci := 3) (j := 17) (v := am_I (M (20, 0, 0) 17)) dd_75_2 (by decide +kernel) rfl rfl rfl ?_
  refine am_e_iconst (v := 1) dd_75_5 rfl rfl ?_
  refine am_e_iadd dd_75_6 rfl ?_
  refine am_e_pf (ci := 3) (j := 17) dd_75_7 (by decide +kernel) rfl rfl (Or.inl rfl) rfl ?_
  refine am_e_aload_n dd_75_10 rfl rfl ?_
  refine am_e_gf (ci := 3) (j := 13) (v := am_R (some (21, 13, 0))) dd_75_11 (by decide +kernel) rfl rfl rfl ?_
  refine am_e_iload_n dd_75_14 rfl rfl ?_
  refine am_e_aload_n dd_75_15 rfl rfl ?_
  refine am_e_gf (ci := 3) (j := 17) (v := am_I ((am_up M (20, 0, 0) 17 ((M (20, 0, 0) 17) + 1)) (20, 0, 0) 17)) dd_75_16 (by decide +kernel) rfl rfl rfl ?_
  refine am_a_iast dd_75_19 rfl hx_j1 hl_j1 (by decide) rfl ?_
  refine am_e_aload_n dd_75_20 rfl rfl ?_
  refine am_e_gf (ci := 3) (j := 14) (v := am_R (some (21, 14, 0))) dd_75_21 (by decide +kernel) rfl rfl rfl ?_
  refine am_e_iload_n dd_75_24 rfl rfl ?_
  refine am_e_dup2 dd_75_25 rfl rfl rfl ?_
  refine am_a_iald dd_75_26 rfl hx_j2 hl_j2 (by decide) rfl ?_
  refine am_e_iconst (v := 1) dd_75_27 rfl rfl ?_
  refine am_e_iadd dd_75_28 rfl ?_
  refine am_a_iast dd_75_29 rfl hx_j2 hl_j2 (by decide) rfl ?_
  refine am_e_aload_n dd_75_30 rfl rfl ?_
  refine am_e_gf (ci := 3) (j := 15) (v := am_R (some (21, 15, 0))) dd_75_31 (by decide +kernel) rfl rfl rfl ?_
  refine am_e_iload_n dd_75_34 rfl rfl ?_
  refine am_e_iconst (v := 1) dd_75_35 rfl rfl ?_
  refine am_a_zast dd_75_36 rfl (Or.inr rfl) hx_j3 hl_j3 (by decide) rfl ?_
  exact am_e_vret dd_75_37 (by decide +kernel) rfl k

-- 76: CacheLadderModel.answerLine(II)V
theorem dd_76_0 : decode (am_b 76) 0 = .ok (.iconst 0, 1) := by decide +kernel
theorem dd_76_1 : decode (am_b 76) 1 = .ok (.istore_n 3, 1) := by decide +kernel
theorem dd_76_2 : decode (am_b 76) 2 = .ok (.iload_n 3, 1) := by decide +kernel
theorem dd_76_3 : decode (am_b 76) 3 = .ok (.iconst 4, 1) := by decide +kernel
theorem dd_76_4 : decode (am_b 76) 4 = .ok (.if_icmp .ge 29, 3) := by decide +kernel
theorem dd_76_7 : decode (am_b 76) 7 = .ok (.aload_n 0, 1) := by decide +kernel
theorem dd_76_8 : decode (am_b 76) 8 = .ok (.getfield 56, 3) := by decide +kernel
theorem dd_76_11 : decode (am_b 76) 11 = .ok (.iconst 4, 1) := by decide +kernel
theorem dd_76_12 : decode (am_b 76) 12 = .ok (.iload_n 1, 1) := by decide +kernel
theorem dd_76_13 : decode (am_b 76) 13 = .ok (.imul, 1) := by decide +kernel
theorem dd_76_14 : decode (am_b 76) 14 = .ok (.iload_n 3, 1) := by decide +kernel
theorem dd_76_15 : decode (am_b 76) 15 = .ok (.iadd, 1) := by decide +kernel
theorem dd_76_16 : decode (am_b 76) 16 = .ok (.aload_n 0, 1) := by decide +kernel
theorem dd_76_17 : decode (am_b 76) 17 = .ok (.getfield 50, 3) := by decide +kernel
theorem dd_76_20 : decode (am_b 76) 20 = .ok (.iconst 4, 1) := by decide +kernel
theorem dd_76_21 : decode (am_b 76) 21 = .ok (.iload_n 2, 1) := by decide +kernel
theorem dd_76_22 : decode (am_b 76) 22 = .ok (.imul, 1) := by decide +kernel
theorem dd_76_23 : decode (am_b 76) 23 = .ok (.iload_n 3, 1) := by decide +kernel
theorem dd_76_24 : decode (am_b 76) 24 = .ok (.iadd, 1) := by decide +kernel
theorem dd_76_25 : decode (am_b 76) 25 = .ok (.iaload, 1) := by decide +kernel
theorem dd_76_26 : decode (am_b 76) 26 = .ok (.iastore, 1) := by decide +kernel
theorem dd_76_27 : decode (am_b 76) 27 = .ok (.iinc 3 1, 3) := by decide +kernel
theorem dd_76_30 : decode (am_b 76) 30 = .ok (.goto (-28), 3) := by decide +kernel
theorem dd_76_33 : decode (am_b 76) 33 = .ok (.return_, 1) := by decide +kernel
theorem sg_76_0 {sh : am_Sh} {C : Nat → am_M → List am_V → am_O → Prop} {P : am_S ⊕ am_O → Prop} {M : am_M} {x1 : Int32} {x2 : Int32} {u3 : Option am_V}  (k : am_ev sh C 76 (2, [some (am_R (some (20, 0, 0))), some (am_I x1), some (am_I x2), some (am_I 0)], [], M, 0) P) : am_ev sh C 76 (0, [some (am_R (some (20, 0, 0))), some (am_I x1), some (am_I x2), u3], [], M, 0) P := by
  refine am_e_iconst (v := 0) dd_76_0 rfl rfl ?_
  refine am_e_istore_n dd_76_1 (Nat.le_of_ble_eq_true rfl) rfl rfl ?_
  exact k

theorem sg_76_2 {sh : am_Sh} {C : Nat → am_M → List am_V → am_O → Prop} {P : am_S ⊕ am_O → Prop} {M : am_M} {x1 : Int32} {x2 : Int32} {x3 : Int32}  (k1 : 4 ≤ x3 → am_ev sh C 76 (33, [some (am_R (some (20, 0, 0))), some (am_I x1), some (am_I x2), some (am_I x3)], [], M, 0) P) (k2 : ¬ 4 ≤ x3 → am_ev sh C 76 (7, [some (am_R (some (20, 0, 0))), some (am_I x1), some (am_I x2), some (am_I x3)], [], M, 0) P) : am_ev sh C 76 (2, [some (am_R (some (20, 0, 0))), some (am_I x1), some (am_I x2), some (am_I x3)], [], M, 0) P := by
  refine am_e_iload_n dd_76_2 rfl rfl ?_
  refine am_e_iconst (v := 4) dd_76_3 rfl rfl ?_
  exact am_a_icmp_ge (tgt := 33) (pc' := 7) dd_76_4 rfl rfl k1 k2

theorem sg_76_7 {sh : am_Sh} {C : Nat → am_M → List am_V → am_O → Prop} {P : am_S ⊕ am_O → Prop} {M : am_M} {x1 : Int32} {x2 : Int32} {x3 : Int32} {j1 : Nat} {j2 : Nat} (hx_j1 : (4 * x2) + x3 = nI j1) (hl_j1 : j1 < 1024) (hx_j2 : (4 * x1) + x3 = nI j2) (hl_j2 : j2 < 20) (k : am_ev sh C 76 (2, [some (am_R (some (20, 0, 0))), some (am_I x1), some (am_I x2), some (am_I (x3 + 1))], [], (am_up M (21, 21, 0) j2 (M (21, 16, 0) j1)), 0) P) : am_ev sh C 76 (7, [some (am_R (some (20, 0, 0))), some (am_I x1), some (am_I x2), some (am_I x3)], [], M, 0) P := by
  refine am_e_aload_n dd_76_7 rfl rfl ?_
  refine am_e_gf (ci := 3) (j := 21) (v := am_R (some (21, 21, 0))) dd_76_8 (by decide +kernel) rfl rfl rfl ?_
  refine am_e_iconst (v := 4) dd_76_11 rfl rfl ?_
  refine am_e_iload_n dd_76_12 rfl rfl ?_
  refine am_e_imul dd_76_13 rfl ?_
  refine am_e_iload_n dd_76_14 rfl rfl ?_
  refine am_e_iadd dd_76_15 rfl ?_
  refine am_e_aload_n dd_76_16 rfl rfl ?_
  refine am_e_gf (ci := 3) (j := 16) (v := am_R (some (21, 16, 0))) dd_76_17 (by decide +kernel) rfl rfl rfl ?_
  refine am_e_iconst (v := 4) dd_76_20 rfl rfl ?_
  refine am_e_iload_n dd_76_21 rfl rfl ?_
  refine am_e_imul dd_76_22 rfl ?_
  refine am_e_iload_n dd_76_23 rfl rfl ?_
  refine am_e_iadd dd_76_24 rfl ?_
  refine am_a_iald dd_76_25 rfl hx_j1 hl_j1 (by decide) rfl ?_
  refine am_a_iast dd_76_26 rfl hx_j2 hl_j2 (by decide) rfl ?_
  refine am_e_iinc (v := x3 + 1) dd_76_27 rfl rfl rfl rfl ?_
  refine am_e_goto (pc' := 2) dd_76_30 rfl ?_
  exact k

theorem sg_76_33 {sh : am_Sh} {C : Nat → am_M → List am_V → am_O → Prop} {P : am_S ⊕ am_O → Prop} {M : am_M} {x1 : Int32} {x2 : Int32} {x3 : Int32}  (k : P (Sum.inr (M, Sum.inl none))) : am_ev sh C 76 (33, [some (am_R (some (20, 0, 0))), some (am_I x1), some (am_I x2), some (am_I x3)], [], M, 0) P := by
  exact am_e_vret dd_76_33 (by decide +kernel) rfl k

-- 77: CacheLadderModel.fillLine(IZ)V
theorem dd_77_0 : decode (am_b 77) 0 = .ok (.aload_n 0, 1) := by decide +kernel
theorem dd_77_1 : decode (am_b 77) 1 = .ok (.getfield 65, 3) := by decide +kernel
theorem dd_77_4 : decode (am_b 77) 4 = .ok (.iload_n 1, 1) := by decide +kernel
theorem dd_77_5 : decode (am_b 77) 5 = .ok (.iaload, 1) := by decide +kernel
theorem dd_77_6 : decode (am_b 77) 6 = .ok (.istore_n 3, 1) := by decide +kernel
theorem dd_77_7 : decode (am_b 77) 7 = .ok (.aload_n 0, 1) := by decide +kernel
theorem dd_77_8 : decode (am_b 77) 8 = .ok (.getfield 74, 3) := by decide +kernel
theorem dd_77_11 : decode (am_b 77) 11 = .ok (.iload_n 1, 1) := by decide +kernel
theorem dd_77_12 : decode (am_b 77) 12 = .ok (.iaload, 1) := by decide +kernel
theorem dd_77_13 : decode (am_b 77) 13 = .ok (.istore 4, 2) := by decide +kernel
theorem dd_77_15 : decode (am_b 77) 15 = .ok (.iconst 0, 1) := by decide +kernel
theorem dd_77_16 : decode (am_b 77) 16 = .ok (.istore 5, 2) := by decide +kernel
theorem dd_77_18 : decode (am_b 77) 18 = .ok (.iload 5, 2) := by decide +kernel
theorem dd_77_20 : decode (am_b 77) 20 = .ok (.iconst 4, 1) := by decide +kernel
theorem dd_77_21 : decode (am_b 77) 21 = .ok (.if_icmp .ge 38, 3) := by decide +kernel
theorem dd_77_24 : decode (am_b 77) 24 = .ok (.iload_n 2, 1) := by decide +kernel
theorem dd_77_25 : decode (am_b 77) 25 = .ok (.ifCond .eq 34, 3) := by decide +kernel
theorem dd_77_28 : decode (am_b 77) 28 = .ok (.aload_n 0, 1) := by decide +kernel
theorem dd_77_29 : decode (am_b 77) 29 = .ok (.getfield 50, 3) := by decide +kernel
theorem dd_77_32 : decode (am_b 77) 32 = .ok (.iconst 4, 1) := by decide +kernel
theorem dd_77_33 : decode (am_b 77) 33 = .ok (.iload 4, 2) := by decide +kernel
theorem dd_77_35 : decode (am_b 77) 35 = .ok (.imul, 1) := by decide +kernel
theorem dd_77_36 : decode (am_b 77) 36 = .ok (.iload 5, 2) := by decide +kernel
theorem dd_77_38 : decode (am_b 77) 38 = .ok (.iadd, 1) := by decide +kernel
theorem dd_77_39 : decode (am_b 77) 39 = .ok (.aload_n 0, 1) := by decide +kernel
theorem dd_77_40 : decode (am_b 77) 40 = .ok (.getfield 56, 3) := by decide +kernel
theorem dd_77_43 : decode (am_b 77) 43 = .ok (.iconst 4, 1) := by decide +kernel
theorem dd_77_44 : decode (am_b 77) 44 = .ok (.iload_n 3, 1) := by decide +kernel
theorem dd_77_45 : decode (am_b 77) 45 = .ok (.imul, 1) := by decide +kernel
theorem dd_77_46 : decode (am_b 77) 46 = .ok (.iconst 4, 1) := by decide +kernel
theorem dd_77_47 : decode (am_b 77) 47 = .ok (.iadd, 1) := by decide +kernel
theorem dd_77_48 : decode (am_b 77) 48 = .ok (.iload 5, 2) := by decide +kernel
theorem dd_77_50 : decode (am_b 77) 50 = .ok (.iadd, 1) := by decide +kernel
theorem dd_77_51 : decode (am_b 77) 51 = .ok (.iaload, 1) := by decide +kernel
theorem dd_77_52 : decode (am_b 77) 52 = .ok (.iastore, 1) := by decide +kernel
theorem dd_77_53 : decode (am_b 77) 53 = .ok (.iinc 5 1, 3) := by decide +kernel
theorem dd_77_56 : decode (am_b 77) 56 = .ok (.goto (-38), 3) := by decide +kernel
theorem dd_77_59 : decode (am_b 77) 59 = .ok (.aload_n 0, 1) := by decide +kernel
theorem dd_77_60 : decode (am_b 77) 60 = .ok (.iload 4, 2) := by decide +kernel
theorem dd_77_62 : decode (am_b 77) 62 = .ok (.aload_n 0, 1) := by decide +kernel
theorem dd_77_63 : decode (am_b 77) 63 = .ok (.getfield 68, 3) := by decide +kernel
theorem dd_77_66 : decode (am_b 77) 66 = .ok (.iload_n 1, 1) := by decide +kernel
theorem dd_77_67 : decode (am_b 77) 67 = .ok (.iaload, 1) := by decide +kernel
theorem dd_77_68 : decode (am_b 77) 68 = .ok (.invokevirtual 128, 3) := by decide +kernel
theorem dd_77_71 : decode (am_b 77) 71 = .ok (.return_, 1) := by decide +kernel
theorem sg_77_0 {sh : am_Sh} {C : Nat → am_M → List am_V → am_O → Prop} {P : am_S ⊕ am_O → Prop} {M : am_M} {x1 : Int32} {x2 : Int32} {u3 : Option am_V} {u4 : Option am_V} {u5 : Option am_V} {j1 : Nat} {j2 : Nat} (hx_j1 : x1 = nI j1) (hl_j1 : j1 < 64) (hx_j2 : x1 = nI j2) (hl_j2 : j2 < 64) (k : am_ev sh C 77 (18, [some (am_R (some (20, 0, 0))), some (am_I x1), some (am_I x2), some (am_I (M (21, 25, 0) j1)), some (am_I (M (21, 28, 0) j2)), some (am_I 0)], [], M, 0) P) : am_ev sh C 77 (0, [some (am_R (some (20, 0, 0))), some (am_I x1), some (am_I x2), u3, u4, u5], [], M, 0) P := by
  refine am_e_aload_n dd_77_0 rfl rfl ?_
  refine am_e_gf (ci := 3) (j := 25) (v := am_R (some (21, 25, 0))) dd_77_1 (by decide +kernel) rfl rfl rfl ?_
  refine am_e_iload_n dd_77_4 rfl rfl ?_
  refine am_a_iald dd_77_5 rfl hx_j1 hl_j1 (by decide) rfl ?_
  refine am_e_istore_n dd_77_6 (Nat.le_of_ble_eq_true rfl) rfl rfl ?_
  refine am_e_aload_n dd_77_7 rfl rfl ?_
  refine am_e_gf (ci := 3) (j := 28) (v := am_R (some (21, 28, 0))) dd_77_8 (by decide +kernel) rfl rfl rfl ?_
  refine am_e_iload_n dd_77_11 rfl rfl ?_
  refine am_a_iald dd_77_12 rfl hx_j2 hl_j2 (by decide) rfl ?_
  refine am_e_istore dd_77_13 (Nat.le_of_ble_eq_true rfl) rfl rfl ?_
  refine am_e_iconst (v := 0) dd_77_15 rfl rfl ?_
  refine am_e_istore dd_77_16 (Nat.le_of_ble_eq_true rfl) rfl rfl ?_
  exact k

theorem sg_77_18 {sh : am_Sh} {C : Nat → am_M → List am_V → am_O → Prop} {P : am_S ⊕ am_O → Prop} {M : am_M} {x1 : Int32} {x2 : Int32} {x3 : Int32} {x4 : Int32} {x5 : Int32}  (k1 : 4 ≤ x5 → am_ev sh C 77 (59, [some (am_R (some (20, 0, 0))), some (am_I x1), some (am_I x2), some (am_I x3), some (am_I x4), some (am_I x5)], [], M, 0) P) (k2 : ¬ 4 ≤ x5 → am_ev sh C 77 (24, [some (am_R (some (20, 0, 0))), some (am_I x1), some (am_I x2), some (am_I x3), some (am_I x4), some (am_I x5)], [], M, 0) P) : am_ev sh C 77 (18, [some (am_R (some (20, 0, 0))), some (am_I x1), some (am_I x2), some (am_I x3), some (am_I x4), some (am_I x5)], [], M, 0) P := by
  refine am_e_iload dd_77_18 rfl rfl ?_
  refine am_e_iconst (v := 4) dd_77_20 rfl rfl ?_
  exact am_a_icmp_ge (tgt := 59) (pc' := 24) dd_77_21 rfl rfl k1 k2

theorem sg_77_24 {sh : am_Sh} {C : Nat → am_M → List am_V → am_O → Prop} {P : am_S ⊕ am_O → Prop} {M : am_M} {x1 : Int32} {x2 : Int32} {x3 : Int32} {x4 : Int32} {x5 : Int32}  (k1 : x2 = 0 → am_ev sh C 77 (59, [some (am_R (some (20, 0, 0))), some (am_I x1), some (am_I x2), some (am_I x3), some (am_I x4), some (am_I x5)], [], M, 0) P) (k2 : ¬ x2 = 0 → am_ev sh C 77 (28, [some (am_R (some (20, 0, 0))), some (am_I x1), some (am_I x2), some (am_I x3), some (am_I x4), some (am_I x5)], [], M, 0) P) : am_ev sh C 77 (24, [some (am_R (some (20, 0, 0))), some (am_I x1), some (am_I x2), some (am_I x3), some (am_I x4), some (am_I x5)], [], M, 0) P := by
  refine am_e_iload_n dd_77_24 rfl rfl ?_
  exact am_a_if_eq (tgt := 59) (pc' := 28) dd_77_25 rfl rfl k1 k2

theorem sg_77_28 {sh : am_Sh} {C : Nat → am_M → List am_V → am_O → Prop} {P : am_S ⊕ am_O → Prop} {M : am_M} {x1 : Int32} {x2 : Int32} {x3 : Int32} {x4 : Int32} {x5 : Int32} {j1 : Nat} {j2 : Nat} (hx_j1 : ((4 * x3) + 4) + x5 = nI j1) (hl_j1 : j1 < 20) (hx_j2 : (4 * x4) + x5 = nI j2) (hl_j2 : j2 < 1024) (k : am_ev sh C 77 (18, [some (am_R (some (20, 0, 0))), some (am_I x1), some (am_I x2), some (am_I x3), some (am_I x4), some (am_I (x5 + 1))], [], (am_up M (21, 16, 0) j2 (M (21, 21, 0) j1)), 0) P) : am_ev sh C 77 (28, [some (am_R (some (20, 0, 0))), some (am_I x1), some (am_I x2), some (am_I x3), some (am_I x4), some (am_I x5)], [], M, 0) P := by
  refine am_e_aload_n dd_77_28 rfl rfl ?_
  refine am_e_gf (ci := 3) (j := 16) (v := am_R (some (21, 16, 0))) dd_77_29 (by decide +kernel) rfl rfl rfl ?_
  refine am_e_iconst (v := 4) dd_77_32 rfl rfl ?_
  refine am_e_iload dd_77_33 rfl rfl ?_
  refine am_e_imul dd_77_35 rfl ?_
  refine am_e_iload dd_77_36 rfl rfl ?_
  refine am_e_iadd dd_77_38 rfl ?_
  refine am_e_aload_n dd_77_39 rfl rfl ?_
  refine am_e_gf (ci := 3) (j := 21) (v := am_R (some (21, 21, 0))) dd_77_40 (by decide +kernel) rfl rfl rfl ?_
  refine am_e_iconst (v := 4) dd_77_43 rfl rfl ?_
  refine am_e_iload_n dd_77_44 rfl rfl ?_
  refine am_e_imul dd_77_45 rfl ?_
  refine am_e_iconst (v := 4) dd_77_46 rfl rfl ?_
  refine am_e_iadd dd_77_47 rfl ?_
  refine am_e_iload dd_77_48 rfl rfl ?_
  refine am_e_iadd dd_77_50 rfl ?_
  refine am_a_iald dd_77_51 rfl hx_j1 hl_j1 (by decide) rfl ?_
  refine am_a_iast dd_77_52 rfl hx_j2 hl_j2 (by decide) rfl ?_
  refine am_e_iinc (v := x5 + 1) dd_77_53 rfl rfl rfl rfl ?_
  refine am_e_goto (pc' := 18) dd_77_56 rfl ?_
  exact k

theorem sg_77_59 {sh : am_Sh} {C : Nat → am_M → List am_V → am_O → Prop} {P : am_S ⊕ am_O → Prop} {M : am_M} {x1 : Int32} {x2 : Int32} {x3 : Int32} {x4 : Int32} {x5 : Int32} {j1 : Nat} {M1 : am_M} (hx_j1 : x1 = nI j1) (hl_j1 : j1 < 64) (hc1 : C 78 M [am_R (some (20, 0, 0)), am_I x4, am_I (M (21, 26, 0) j1)] (M1, Sum.inl none)) (k : P (Sum.inr (M1, Sum.inl none))) : am_ev sh C 77 (59, [some (am_R (some (20, 0, 0))), some (am_I x1), some (am_I x2), some (am_I x3), some (am_I x4), some (am_I x5)], [], M, 0) P := by
  refine am_e_aload_n dd_77_59 rfl rfl ?_
  refine am_e_iload dd_77_60 rfl rfl ?_
  refine am_e_aload_n dd_77_62 rfl rfl ?_
  refine am_e_gf (ci := 3) (j := 26) (v := am_R (some (21, 26, 0))) dd_77_63 (by decide +kernel) rfl rfl rfl ?_
  refine am_e_iload_n dd_77_66 rfl rfl ?_
  refine am_a_iald dd_77_67 rfl hx_j1 hl_j1 (by decide) rfl ?_
  refine am_e_callV (c := 78) (k := 3) (as := [am_R (some (20, 0, 0)), am_I x4, am_I (M (21, 26, 0) j1)]) (S' := []) (v := none) (M' := M1) (n' := 0) dd_77_68 (by decide +kernel) ⟨Nat.le_of_ble_eq_true rfl, Nat.le_of_ble_eq_true rfl, by decide +kernel, (Or.inr (am_rcv_of rfl))⟩ rfl rfl (by decide +kernel) hc1 rfl ?_
  exact am_e_vret dd_77_71 (by decide +kernel) rfl k

-- 78: CacheLadderModel.place(II)V
theorem dd_78_0 : decode (am_b 78) 0 = .ok (.aload_n 0, 1) := by decide +kernel
theorem dd_78_1 : decode (am_b 78) 1 = .ok (.getfield 32, 3) := by decide +kernel
theorem dd_78_4 : decode (am_b 78) 4 = .ok (.iload_n 1, 1) := by decide +kernel
theorem dd_78_5 : decode (am_b 78) 5 = .ok (.iload_n 2, 1) := by decide +kernel
theorem dd_78_6 : decode (am_b 78) 6 = .ok (.iastore, 1) := by decide +kernel
theorem dd_78_7 : decode (am_b 78) 7 = .ok (.aload_n 0, 1) := by decide +kernel
theorem dd_78_8 : decode (am_b 78) 8 = .ok (.getfield 35, 3) := by decide +kernel
theorem dd_78_11 : decode (am_b 78) 11 = .ok (.iload_n 1, 1) := by decide +kernel
theorem dd_78_12 : decode (am_b 78) 12 = .ok (.iconst 0, 1) := by decide +kernel
theorem dd_78_13 : decode (am_b 78) 13 = .ok (.iastore, 1) := by decide +kernel
theorem dd_78_14 : decode (am_b 78) 14 = .ok (.aload_n 0, 1) := by decide +kernel
theorem dd_78_15 : decode (am_b 78) 15 = .ok (.getfield 44, 3) := by decide +kernel
theorem dd_78_18 : decode (am_b 78) 18 = .ok (.iload_n 1, 1) := by decide +kernel
theorem dd_78_19 : decode (am_b 78) 19 = .ok (.iconst 0, 1) := by decide +kernel
theorem dd_78_20 : decode (am_b 78) 20 = .ok (.iastore, 1) := by decide +kernel
theorem dd_78_21 : decode (am_b 78) 21 = .ok (.aload_n 0, 1) := by decide +kernel
theorem dd_78_22 : decode (am_b 78) 22 = .ok (.iload_n 1, 1) := by decide +kernel
theorem dd_78_23 : decode (am_b 78) 23 = .ok (.invokevirtual 94, 3) := by decide +kernel
theorem dd_78_26 : decode (am_b 78) 26 = .ok (.aload_n 0, 1) := by decide +kernel
theorem dd_78_27 : decode (am_b 78) 27 = .ok (.getfield 38, 3) := by decide +kernel
theorem dd_78_30 : decode (am_b 78) 30 = .ok (.iload_n 1, 1) := by decide +kernel
theorem dd_78_31 : decode (am_b 78) 31 = .ok (.aload_n 0, 1) := by decide +kernel
theorem dd_78_32 : decode (am_b 78) 32 = .ok (.getfield 91, 3) := by decide +kernel
theorem dd_78_35 : decode (am_b 78) 35 = .ok (.iastore, 1) := by decide +kernel
theorem dd_78_36 : decode (am_b 78) 36 = .ok (.return_, 1) := by decide +kernel
theorem sg_78_0 {sh : am_Sh} {C : Nat → am_M → List am_V → am_O → Prop} {P : am_S ⊕ am_O → Prop} {M : am_M} {x1 : Int32} {x2 : Int32} {j1 : Nat} {j2 : Nat} {j3 : Nat} {M1 : am_M} {j4 : Nat} (hx_j1 : x1 = nI j1) (hl_j1 : j1 < 256) (hx_j2 : x1 = nI j2) (hl_j2 : j2 < 256) (hx_j3 : x1 = nI j3) (hl_j3 : j3 < 256) (hc1 : C 75 (am_up (am_up (am_up M (21, 10, 0) j1 x2) (21, 11, 0) j2 0) (21, 14, 0) j3 0) [am_R (some (20, 0, 0)), am_I x1] (M1, Sum.inl none)) (hx_j4 : x1 = nI j4) (hl_j4 : j4 < 256) (k : P (Sum.inr ((am_up M1 (21, 12, 0) j4 (M1 (20, 0, 0) 17)), Sum.inl none))) : am_ev sh C 78 (0, [some (am_R (some (20, 0, 0))), some (am_I x1), some (am_I x2)], [], M, 0) P := by
  refine am_e_aload_n dd_78_0 rfl rfl ?_
  refine am_e_gf (ci := 3) (j := 10) (v := am_R (some (21, 10, 0))) dd_78_1 (by decide +kernel) rfl rfl rfl ?_
  refine am_e_iload_n dd_78_4 rfl rfl ?_
  refine am_e_iload_n dd_78_5 rfl rfl ?_
  refine am_a_iast dd_78_6 rfl hx_j1 hl_j1 (by decide) rfl ?_
  refine am_e_aload_n dd_78_7 rfl rfl ?_
  refine am_e_gf (ci := 3) (j := 11) (v := am_R (some (21, 11, 0))) dd_78_8 (by decide +kernel) rfl rfl rfl ?_
  refine am_e_iload_n dd_78_11 rfl rfl ?_
  refine am_e_iconst (v := 0) dd_78_12 rfl rfl ?_
  refine am_a_iast dd_78_13 rfl hx_j2 hl_j2 (by decide) rfl ?_
  refine am_e_aload_n dd_78_14 rfl rfl ?_
  refine am_e_gf (ci := 3) (j := 14) (v := am_R (some (21, 14, 0))) dd_78_15 (by decide +kernel) rfl rfl rfl ?_
  refine am_e_iload_n dd_78_18 rfl rfl ?_
  refine am_e_iconst (v := 0) dd_78_19 rfl rfl ?_
  refine am_a_iast dd_78_20 rfl hx_j3 hl_j3 (by decide) rfl ?_
  refine am_e_aload_n dd_78_21 rfl rfl ?_
  refine am_e_iload_n dd_78_22 rfl rfl ?_
  refine am_e_callV (c := 75) (k := 2) (as := [am_R (some (20, 0, 0)), am_I x1]) (S' := []) (v := none) (M' := M1) (n' := 0) dd_78_23 (by decide +kernel) ⟨Nat.le_of_ble_eq_true rfl, Nat.le_of_ble_eq_true rfl, by decide +kernel, (Or.inr (am_rcv_of rfl))⟩ rfl rfl (by decide +kernel) hc1 rfl ?_
  refine am_e_aload_n dd_78_26 rfl rfl ?_
  refine am_e_gf (ci := 3) (j := 12) (v := am_R (some (21, 12, 0))) dd_78_27 (by decide +kernel) rfl rfl rfl ?_
  refine am_e_iload_n dd_78_30 rfl rfl ?_
  refine am_e_aload_n dd_78_31 rfl rfl ?_
  refine am_e_gf (ci := 3) (j := 17) (v := am_I (M1 (20, 0, 0) 17)) dd_78_32 (by decide +kernel) rfl rfl rfl ?_
  refine am_a_iast dd_78_35 rfl hx_j4 hl_j4 (by decide) rfl ?_
  exact am_e_vret dd_78_36 (by decide +kernel) rfl k

