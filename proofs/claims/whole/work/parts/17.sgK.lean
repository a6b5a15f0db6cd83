-- 91: CacheLadderModel.peek(I)I
theorem dd_91_0 : decode (am_b 91) 0 = .ok (.aload_n 0, 1) := by decide +kernel
theorem dd_91_1 : decode (am_b 91) 1 = .ok (.iload_n 1, 1) := by decide +kernel
theorem dd_91_2 : decode (am_b 91) 2 = .ok (.iconst 0, 1) := by decide +kernel
theorem dd_91_3 : decode (am_b 91) 3 = .ok (.sipush 1023, 3) := by decide +kernel
theorem dd_91_6 : decode (am_b 91) 6 = .ok (.invokestatic 174, 3) := by decide +kernel
theorem dd_91_9 : decode (am_b 91) 9 = .ok (.ifCond .eq 7, 3) := by decide +kernel
theorem dd_91_12 : decode (am_b 91) 12 = .ok (.iconst 0, 1) := by decide +kernel
theorem dd_91_13 : decode (am_b 91) 13 = .ok (.goto 4, 3) := by decide +kernel
theorem dd_91_16 : decode (am_b 91) 16 = .ok (.iconst 1, 1) := by decide +kernel
theorem dd_91_17 : decode (am_b 91) 17 = .ok (.putfield 83, 3) := by decide +kernel
theorem dd_91_20 : decode (am_b 91) 20 = .ok (.aload_n 0, 1) := by decide +kernel
theorem dd_91_21 : decode (am_b 91) 21 = .ok (.getfield 83, 3) := by decide +kernel
theorem dd_91_24 : decode (am_b 91) 24 = .ok (.ifCond .le 7, 3) := by decide +kernel
theorem dd_91_27 : decode (am_b 91) 27 = .ok (.iconst 0, 1) := by decide +kernel
theorem dd_91_28 : decode (am_b 91) 28 = .ok (.goto 8, 3) := by decide +kernel
theorem dd_91_31 : decode (am_b 91) 31 = .ok (.aload_n 0, 1) := by decide +kernel
theorem dd_91_32 : decode (am_b 91) 32 = .ok (.iload_n 1, 1) := by decide +kernel
theorem dd_91_33 : decode (am_b 91) 33 = .ok (.invokevirtual 191, 3) := by decide +kernel
theorem dd_91_36 : decode (am_b 91) 36 = .ok (.ireturn, 1) := by decide +kernel
theorem sg_91_0 {sh : am_Sh} {C : Nat → am_M → List am_V → am_O → Prop} {P : am_S ⊕ am_O → Prop} {M : am_M} {x1 : Int32} {M1 : am_M} {r1 : Int32} (hc1 : C 62 M [am_I x1, am_I 0, am_I 1023] (M1, Sum.inl (some (am_I r1)))) (k1 : r1 = 0 → am_ev sh C 91 (16, [some (am_R (some (20, 0, 0))), some (am_I x1)], [am_R (some (20, 0, 0))], M1, 0) P) (k2 : ¬ r1 = 0 → am_ev sh C 91 (12, [some (am_R (some (20, 0, 0))), some (am_I x1)], [am_R (some (20, 0, 0))], M1, 0) P) : am_ev sh C 91 (0, [some (am_R (some (20, 0, 0))), some (am_I x1)], [], M, 0) P := by
  refine am_e_aload_n dd_91_0 rfl rfl ?_
  refine am_e_iload_n dd_91_1 rfl rfl ?_
  refine am_e_iconst (v := 0) dd_91_2 rfl rfl ?_
  refine am_e_sipush (v := 1023) dd_91_3 (by decide) rfl ?_
  refine am_e_callS (c := 62) (k := 3) (as := [am_I x1, am_I 0, am_I 1023]) (S' := [am_I r1, am_R (some (20, 0, 0))]) (v := some (am_I r1)) (M' := M1) (n' := 0) dd_91_6 (by decide +kernel) (by decide +kernel) ⟨Nat.le_of_ble_eq_true rfl, Nat.le_of_ble_eq_true rfl, by decide +kernel, (Or.inl rfl)⟩ rfl rfl (by decide +kernel) hc1 rfl ?_
  exact am_a_if_eq (tgt := 16) (pc' := 12) dd_91_9 rfl rfl k1 k2

theorem sg_91_12 {sh : am_Sh} {C : Nat → am_M → List am_V → am_O → Prop} {P : am_S ⊕ am_O → Prop} {M : am_M} {x1 : Int32}  (k : am_ev sh C 91 (17, [some (am_R (some (20, 0, 0))), some (am_I x1)], [am_I 0, am_R (some (20, 0, 0))], M, 0) P) : am_ev sh C 91 (12, [some (am_R (some (20, 0, 0))), some (am_I x1)], [am_R (some (20, 0, 0))], M, 0) P := by
  refine am_e_iconst (v := 0) dd_91_12 rfl rfl ?_
  refine am_e_goto (pc' := 17) dd_91_13 rfl ?_
  exact k

theorem sg_91_16 {sh : am_Sh} {C : Nat → am_M → List am_V → am_O → Prop} {P : am_S ⊕ am_O → Prop} {M : am_M} {x1 : Int32}  (k : am_ev sh C 91 (17, [some (am_R (some (20, 0, 0))), some (am_I x1)], [am_I 1, am_R (some (20, 0, 0))], M, 0) P) : am_ev sh C 91 (16, [some (am_R (some (20, 0, 0))), some (am_I x1)], [am_R (some (20, 0, 0))], M, 0) P := by
  refine am_e_iconst (v := 1) dd_91_16 rfl rfl ?_
  exact k

theorem sg_91_17 {sh : am_Sh} {C : Nat → am_M → List am_V → am_O → Prop} {P : am_S ⊕ am_O → Prop} {M : am_M} {x1 : Int32} {xs1 : Int32}  (k1 : ((am_up M (20, 0, 0) 0 xs1) (20, 0, 0) 0) ≤ 0 → am_ev sh C 91 (31, [some (am_R (some (20, 0, 0))), some (am_I x1)], [], (am_up M (20, 0, 0) 0 xs1), 0) P) (k2 : ¬ ((am_up M (20, 0, 0) 0 xs1) (20, 0, 0) 0) ≤ 0 → am_ev sh C 91 (27, [some (am_R (some (20, 0, 0))), some (am_I x1)], [], (am_up M (20, 0, 0) 0 xs1), 0) P) : am_ev sh C 91 (17, [some (am_R (some (20, 0, 0))), some (am_I x1)], [am_I xs1, am_R (some (20, 0, 0))], M, 0) P := by
  refine am_e_pf (ci := 3) (j := 0) dd_91_17 (by decide +kernel) rfl rfl (Or.inl rfl) rfl ?_
  refine am_e_aload_n dd_91_20 rfl rfl ?_
  refine am_e_gf (ci := 3) (j := 0) (v := am_I ((am_up M (20, 0, 0) 0 xs1) (20, 0, 0) 0)) dd_91_21 (by decide +kernel) rfl rfl rfl ?_
  exact am_a_if_le (tgt := 31) (pc' := 27) dd_91_24 rfl rfl k1 k2

theorem sg_91_27 {sh : am_Sh} {C : Nat → am_M → List am_V → am_O → Prop} {P : am_S ⊕ am_O → Prop} {M : am_M} {x1 : Int32}  (k : am_ev sh C 91 (36, [some (am_R (some (20, 0, 0))), some (am_I x1)], [am_I 0], M, 0) P) : am_ev sh C 91 (27, [some (am_R (some (20, 0, 0))), some (am_I x1)], [], M, 0) P := by
  refine am_e_iconst (v := 0) dd_91_27 rfl rfl ?_
  refine am_e_goto (pc' := 36) dd_91_28 rfl ?_
  exact k

theorem sg_91_31 {sh : am_Sh} {C : Nat → am_M → List am_V → am_O → Prop} {P : am_S ⊕ am_O → Prop} {M : am_M} {x1 : Int32} {M1 : am_M} {r1 : Int32} (hc1 : C 92 M [am_R (some (20, 0, 0)), am_I x1] (M1, Sum.inl (some (am_I r1)))) (k : am_ev sh C 91 (36, [some (am_R (some (20, 0, 0))), some (am_I x1)], [am_I r1], M1, 0) P) : am_ev sh C 91 (31, [some (am_R (some (20, 0, 0))), some (am_I x1)], [], M, 0) P := by
  refine am_e_aload_n dd_91_31 rfl rfl ?_
  refine am_e_iload_n dd_91_32 rfl rfl ?_
  refine am_e_callV (c := 92) (k := 2) (as := [am_R (some (20, 0, 0)), am_I x1]) (S' := [am_I r1]) (v := some (am_I r1)) (M' := M1) (n' := 0) dd_91_33 (by decide +kernel) ⟨Nat.le_of_ble_eq_true rfl, Nat.le_of_ble_eq_true rfl, by decide +kernel, (Or.inr (am_rcv_of rfl))⟩ rfl rfl (by decide +kernel) hc1 rfl ?_
  exact k

theorem sg_91_36 {sh : am_Sh} {C : Nat → am_M → List am_V → am_O → Prop} {P : am_S ⊕ am_O → Prop} {M : am_M} {x1 : Int32} {xs0 : Int32}  (k : P (Sum.inr (M, Sum.inl (some (am_I xs0))))) : am_ev sh C 91 (36, [some (am_R (some (20, 0, 0))), some (am_I x1)], [am_I xs0], M, 0) P := by
  exact am_e_iret dd_91_36 (by decide +kernel) (Or.inl rfl) k

-- 92: CacheLadderModel.newest(I)I
theorem dd_92_0 : decode (am_b 92) 0 = .ok (.aload_n 0, 1) := by decide +kernel
theorem dd_92_1 : decode (am_b 92) 1 = .ok (.getfield 53, 3) := by decide +kernel
theorem dd_92_4 : decode (am_b 92) 4 = .ok (.iload_n 1, 1) := by decide +kernel
theorem dd_92_5 : decode (am_b 92) 5 = .ok (.iaload, 1) := by decide +kernel
theorem dd_92_6 : decode (am_b 92) 6 = .ok (.istore_n 2, 1) := by decide +kernel
theorem dd_92_7 : decode (am_b 92) 7 = .ok (.aload_n 0, 1) := by decide +kernel
theorem dd_92_8 : decode (am_b 92) 8 = .ok (.getfield 131, 3) := by decide +kernel
theorem dd_92_11 : decode (am_b 92) 11 = .ok (.iconst 1, 1) := by decide +kernel
theorem dd_92_12 : decode (am_b 92) 12 = .ok (.isub, 1) := by decide +kernel
theorem dd_92_13 : decode (am_b 92) 13 = .ok (.istore_n 3, 1) := by decide +kernel
theorem dd_92_14 : decode (am_b 92) 14 = .ok (.iload_n 3, 1) := by decide +kernel
theorem dd_92_15 : decode (am_b 92) 15 = .ok (.ifCond .lt 42, 3) := by decide +kernel
theorem dd_92_18 : decode (am_b 92) 18 = .ok (.aload_n 0, 1) := by decide +kernel
theorem dd_92_19 : decode (am_b 92) 19 = .ok (.iload_n 3, 1) := by decide +kernel
theorem dd_92_20 : decode (am_b 92) 20 = .ok (.iload_n 1, 1) := by decide +kernel
theorem dd_92_21 : decode (am_b 92) 21 = .ok (.iconst 4, 1) := by decide +kernel
theorem dd_92_22 : decode (am_b 92) 22 = .ok (.idiv, 1) := by decide +kernel
theorem dd_92_23 : decode (am_b 92) 23 = .ok (.invokevirtual 137, 3) := by decide +kernel
theorem dd_92_26 : decode (am_b 92) 26 = .ok (.istore 4, 2) := by decide +kernel
theorem dd_92_28 : decode (am_b 92) 28 = .ok (.iload 4, 2) := by decide +kernel
theorem dd_92_30 : decode (am_b 92) 30 = .ok (.ifCond .lt 19, 3) := by decide +kernel
theorem dd_92_33 : decode (am_b 92) 33 = .ok (.aload_n 0, 1) := by decide +kernel
theorem dd_92_34 : decode (am_b 92) 34 = .ok (.getfield 50, 3) := by decide +kernel
theorem dd_92_37 : decode (am_b 92) 37 = .ok (.iconst 4, 1) := by decide +kernel
theorem dd_92_38 : decode (am_b 92) 38 = .ok (.iload 4, 2) := by decide +kernel
theorem dd_92_40 : decode (am_b 92) 40 = .ok (.imul, 1) := by decide +kernel
theorem dd_92_41 : decode (am_b 92) 41 = .ok (.iload_n 1, 1) := by decide +kernel
theorem dd_92_42 : decode (am_b 92) 42 = .ok (.iconst 4, 1) := by decide +kernel
theorem dd_92_43 : decode (am_b 92) 43 = .ok (.irem, 1) := by decide +kernel
theorem dd_92_44 : decode (am_b 92) 44 = .ok (.iadd, 1) := by decide +kernel
theorem dd_92_45 : decode (am_b 92) 45 = .ok (.iaload, 1) := by decide +kernel
theorem dd_92_46 : decode (am_b 92) 46 = .ok (.goto 4, 3) := by decide +kernel
theorem dd_92_49 : decode (am_b 92) 49 = .ok (.iload_n 2, 1) := by decide +kernel
theorem dd_92_50 : decode (am_b 92) 50 = .ok (.istore_n 2, 1) := by decide +kernel
theorem dd_92_51 : decode (am_b 92) 51 = .ok (.iinc 3 (-1), 3) := by decide +kernel
theorem dd_92_54 : decode (am_b 92) 54 = .ok (.goto (-40), 3) := by decide +kernel
theorem dd_92_57 : decode (am_b 92) 57 = .ok (.iload_n 2, 1) := by decide +kernel
theorem dd_92_58 : decode (am_b 92) 58 = .ok (.ireturn, 1) := by decide +kernel
theorem sg_92_0 {sh : am_Sh} {C : Nat → am_M → List am_V → am_O → Prop} {P : am_S ⊕ am_O → Prop} {M : am_M} {x1 : Int32} {u2 : Option am_V} {u3 : Option am_V} {u4 : Option am_V} {j1 : Nat} (hx_j1 : x1 = nI j1) (hl_j1 : j1 < 1024) (k : am_ev sh C 92 (14, [some (am_R (some (20, 0, 0))), some (am_I x1), some (am_I (M (21, 18, 0) j1)), some (am_I ((M (20, 0, 0) 1) - 1)), u4], [], M, 0) P) : am_ev sh C 92 (0, [some (am_R (some (20, 0, 0))), some (am_I x1), u2, u3, u4], [], M, 0) P := by
  refine am_e_aload_n dd_92_0 rfl rfl ?_
  refine am_e_gf (ci := 3) (j := 18) (v := am_R (some (21, 18, 0))) dd_92_1 (by decide +kernel) rfl rfl rfl ?_
  refine am_e_iload_n dd_92_4 rfl rfl ?_
  refine am_a_iald dd_92_5 rfl hx_j1 hl_j1 (by decide) rfl ?_
  refine am_e_istore_n dd_92_6 (Nat.le_of_ble_eq_true rfl) rfl rfl ?_
  refine am_e_aload_n dd_92_7 rfl rfl ?_
  refine am_e_gf (ci := 3) (j := 1) (v := am_I (M (20, 0, 0) 1)) dd_92_8 (by decide +kernel) rfl rfl rfl ?_
  refine am_e_iconst (v := 1) dd_92_11 rfl rfl ?_
  refine am_e_isub dd_92_12 rfl ?_
  refine am_e_istore_n dd_92_13 (Nat.le_of_ble_eq_true rfl) rfl rfl ?_
  exact k

theorem sg_92_14 {sh : am_Sh} {C : Nat → am_M → List am_V → am_O → Prop} {P : am_S ⊕ am_O → Prop} {M : am_M} {x1 : Int32} {x2 : Int32} {x3 : Int32} {u4 : Option am_V}  (k1 : x3 < 0 → am_ev sh C 92 (57, [some (am_R (some (20, 0, 0))), some (am_I x1), some (am_I x2), some (am_I x3), u4], [], M, 0) P) (k2 : ¬ x3 < 0 → am_ev sh C 92 (18, [some (am_R (some (20, 0, 0))), some (am_I x1), some (am_I x2), some (am_I x3), u4], [], M, 0) P) : am_ev sh C 92 (14, [some (am_R (some (20, 0, 0))), some (am_I x1), some (am_I x2), some (am_I x3), u4], [], M, 0) P := by
  refine am_e_iload_n dd_92_14 rfl rfl ?_
  exact am_a_if_lt (tgt := 57) (pc' := 18) dd_92_15 rfl rfl k1 k2

theorem sg_92_18 {sh : am_Sh} {C : Nat → am_M → List am_V → am_O → Prop} {P : am_S ⊕ am_O → Prop} {M : am_M} {x1 : Int32} {x2 : Int32} {x3 : Int32} {u4 : Option am_V} {M1 : am_M} {r1 : Int32} (hc1 : C 68 M [am_R (some (20, 0, 0)), am_I x3, am_I (x1 / 4)] (M1, Sum.inl (some (am_I r1)))) (k1 : r1 < 0 → am_ev sh C 92 (49, [some (am_R (some (20, 0, 0))), some (am_I x1), some (am_I x2), some (am_I x3), some (am_I r1)], [], M1, 0) P) (k2 : ¬ r1 < 0 → am_ev sh C 92 (33, [some (am_R (some (20, 0, 0))), some (am_I x1), some (am_I x2), some (am_I x3), some (am_I r1)], [], M1, 0) P) : am_ev sh C 92 (18, [some (am_R (some (20, 0, 0))), some (am_I x1), some (am_I x2), some (am_I x3), u4], [], M, 0) P := by
  refine am_e_aload_n dd_92_18 rfl rfl ?_
  refine am_e_iload_n dd_92_19 rfl rfl ?_
  refine am_e_iload_n dd_92_20 rfl rfl ?_
  refine am_e_iconst (v := 4) dd_92_21 rfl rfl ?_
  refine am_e_idiv dd_92_22 (by decide) rfl ?_
  refine am_e_callV (c := 68) (k := 3) (as := [am_R (some (20, 0, 0)), am_I x3, am_I (x1 / 4)]) (S' := [am_I r1]) (v := some (am_I r1)) (M' := M1) (n' := 0) dd_92_23 (by decide +kernel) ⟨Nat.le_of_ble_eq_true rfl, Nat.le_of_ble_eq_true rfl, by decide +kernel, (Or.inr (am_rcv_of rfl))⟩ rfl rfl (by decide +kernel) hc1 rfl ?_
  refine am_e_istore dd_92_26 (Nat.le_of_ble_eq_true rfl) rfl rfl ?_
  refine am_e_iload dd_92_28 rfl rfl ?_
  exact am_a_if_lt (tgt := 49) (pc' := 33) dd_92_30 rfl rfl k1 k2

theorem sg_92_33 {sh : am_Sh} {C : Nat → am_M → List am_V → am_O → Prop} {P : am_S ⊕ am_O → Prop} {M : am_M} {x1 : Int32} {x2 : Int32} {x3 : Int32} {x4 : Int32} {j1 : Nat} (hx_j1 : (4 * x4) + (x1 - x1 / 4 * 4) = nI j1) (hl_j1 : j1 < 1024) (k : am_ev sh C 92 (50, [some (am_R (some (20, 0, 0))), some (am_I x1), some (am_I x2), some (am_I x3), some (am_I x4)], [am_I (M (21, 16, 0) j1)], M, 0) P) : am_ev sh C 92 (33, [some (am_R (some (20, 0, 0))), some (am_I x1), some (am_I x2), some (am_I x3), some (am_I x4)], [], M, 0) P := by
  refine am_e_aload_n dd_92_33 rfl rfl ?_
  refine am_e_gf (ci := 3) (j := 16) (v := am_R (some (21, 16, 0))) dd_92_34 (by decide +kernel) rfl rfl rfl ?_
  refine am_e_iconst (v := 4) dd_92_37 rfl rfl ?_
  refine am_e_iload dd_92_38 rfl rfl ?_
  refine am_e_imul dd_92_40 rfl ?_
  refine am_e_iload_n dd_92_41 rfl rfl ?_
  refine am_e_iconst (v := 4) dd_92_42 rfl rfl ?_
  refine am_e_irem dd_92_43 (by decide) rfl ?_
  refine am_e_iadd dd_92_44 rfl ?_
  refine am_a_iald dd_92_45 rfl hx_j1 hl_j1 (by decide) rfl ?_
  refine am_e_goto (pc' := 50) dd_92_46 rfl ?_
  exact k

theorem sg_92_49 {sh : am_Sh} {C : Nat → am_M → List am_V → am_O → Prop} {P : am_S ⊕ am_O → Prop} {M : am_M} {x1 : Int32} {x2 : Int32} {x3 : Int32} {x4 : Int32}  (k : am_ev sh C 92 (50, [some (am_R (some (20, 0, 0))), some (am_I x1), some (am_I x2), some (am_I x3), some (am_I x4)], [am_I x2], M, 0) P) : am_ev sh C 92 (49, [some (am_R (some (20, 0, 0))), some (am_I x1), some (am_I x2), some (am_I x3), some (am_I x4)], [], M, 0) P := by
  refine am_e_iload_n dd_92_49 rfl rfl ?_
  exact k

theorem sg_92_50 {sh : am_Sh} {C : Nat → am_M → List am_V → am_O → Prop} {P : am_S ⊕ am_O → Prop} {M : am_M} {x1 : Int32} {x2 : Int32} {x3 : Int32} {x4 : Int32} {xs0 : Int32}  (k : am_ev sh C 92 (14, [some (am_R (some (20, 0, 0))), some (am_I x1), some (am_I xs0), some (am_I (x3 + (-1))), some (am_I x4)], [], M, 0) P) : am_ev sh C 92 (50, [some (am_R (some (20, 0, 0))), some (am_I x1), some (am_I x2), some (am_I x3), some (am_I x4)], [am_I xs0], M, 0) P := by
  refine am_e_istore_n dd_92_50 (Nat.le_of_ble_eq_true rfl) rfl rfl ?_
  refine am_e_iinc (v := x3 + (-1)) dd_92_51 rfl rfl rfl rfl ?_
  refine am_e_goto (pc' := 14) dd_92_54 rfl ?_
  exact k

theorem sg_92_57 {sh : am_Sh} {C : Nat → am_M → List am_V → am_O → Prop} {P : am_S ⊕ am_O → Prop} {M : am_M} {x1 : Int32} {x2 : Int32} {x3 : Int32} {u4 : Option am_V}  (k : P (Sum.inr (M, Sum.inl (some (am_I x2))))) : am_ev sh C 92 (57, [some (am_R (some (20, 0, 0))), some (am_I x1), some (am_I x2), some (am_I x3), u4], [], M, 0) P := by
  refine am_e_iload_n dd_92_57 rfl rfl ?_
  exact am_e_iret dd_92_58 (by decide +kernel) (Or.inl rfl) k

-- 93: CacheLadderModel.stored(I)I
theorem dd_93_0 : decode (am_b 93) 0 = .ok (.aload_n 0, 1) := by decide +kernel
theorem dd_93_1 : decode (am_b 93) 1 = .ok (.iload_n 1, 1) := by decide +kernel
theorem dd_93_2 : decode (am_b 93) 2 = .ok (.iconst 0, 1) := by decide +kernel
theorem dd_93_3 : decode (am_b 93) 3 = .ok (.sipush 1023, 3) := by decide +kernel
theorem dd_93_6 : decode (am_b 93) 6 = .ok (.invokestatic 174, 3) := by decide +kernel
theorem dd_93_9 : decode (am_b 93) 9 = .ok (.ifCond .eq 7, 3) := by decide +kernel
theorem dd_93_12 : decode (am_b 93) 12 = .ok (.iconst 0, 1) := by decide +kernel
theorem dd_93_13 : decode (am_b 93) 13 = .ok (.goto 4, 3) := by decide +kernel
theorem dd_93_16 : decode (am_b 93) 16 = .ok (.iconst 1, 1) := by decide +kernel
theorem dd_93_17 : decode (am_b 93) 17 = .ok (.putfield 83, 3) := by decide +kernel
theorem dd_93_20 : decode (am_b 93) 20 = .ok (.aload_n 0, 1) := by decide +kernel
theorem dd_93_21 : decode (am_b 93) 21 = .ok (.getfield 83, 3) := by decide +kernel
theorem dd_93_24 : decode (am_b 93) 24 = .ok (.ifCond .le 7, 3) := by decide +kernel
theorem dd_93_27 : decode (am_b 93) 27 = .ok (.iconst 0, 1) := by decide +kernel
theorem dd_93_28 : decode (am_b 93) 28 = .ok (.goto 9, 3) := by decide +kernel
theorem dd_93_31 : decode (am_b 93) 31 = .ok (.aload_n 0, 1) := by decide +kernel
theorem dd_93_32 : decode (am_b 93) 32 = .ok (.getfield 53, 3) := by decide +kernel
theorem dd_93_35 : decode (am_b 93) 35 = .ok (.iload_n 1, 1) := by decide +kernel
theorem dd_93_36 : decode (am_b 93) 36 = .ok (.iaload, 1) := by decide +kernel
theorem dd_93_37 : decode (am_b 93) 37 = .ok (.ireturn, 1) := by decide +kernel
theorem sg_93_0 {sh : am_Sh} {C : Nat → am_M → List am_V → am_O → Prop} {P : am_S ⊕ am_O → Prop} {M : am_M} {x1 : Int32} {M1 : am_M} {r1 : Int32} (hc1 : C 62 M [am_I x1, am_I 0, am_I 1023] (M1, Sum.inl (some (am_I r1)))) (k1 : r1 = 0 → am_ev sh C 93 (16, [some (am_R (some (20, 0, 0))), some (am_I x1)], [am_R (some (20, 0, 0))], M1, 0) P) (k2 : ¬ r1 = 0 → am_ev sh C 93 (12, [some (am_R (some (20, 0, 0))), some (am_I x1)], [am_R (some (20, 0, 0))], M1, 0) P) : am_ev sh C 93 (0, [some (am_R (some (20, 0, 0))), some (am_I x1)], [], M, 0) P := by
  refine am_e_aload_n dd_93_0 rfl rfl ?_
  refine am_e_iload_n dd_93_1 rfl rfl ?_
  refine am_e_iconst (v := 0) dd_93_2 rfl rfl ?_
  refine am_e_sipush (v := 1023) dd_93_3 (by decide) rfl ?_
  refine am_e_callS (c := 62) (k := 3) (as := [am_I x1, am_I 0, am_I 1023]) (S' := [am_I r1, am_R (some (20, 0, 0))]) (v := some (am_I r1)) (M' := M1) (n' := 0) dd_93_6 (by decide +kernel) (by decide +kernel) ⟨Nat.le_of_ble_eq_true rfl, Nat.le_of_ble_eq_true rfl, by decide +kernel, (Or.inl rfl)⟩ rfl rfl (by decide +kernel) hc1 rfl ?_
  exact am_a_if_eq (tgt := 16) (pc' := 12) dd_93_9 rfl rfl k1 k2

theorem sg_93_12 {sh : am_Sh} {C : Nat → am_M → List am_V → am_O → Prop} {P : am_S ⊕ am_O → Prop} {M : am_M} {x1 : Int32}  (k : am_ev sh C 93 (17, [some (am_R (some (20, 0, 0))), some (am_I x1)], [am_I 0, am_R (some (20, 0, 0))], M, 0) P) : am_ev sh C 93 (12, [some (am_R (some (20, 0, 0))), some (am_I x1)], [am_R (some (20, 0, 0))], M, 0) P := by
  refine am_e_iconst (v := 0) dd_93_12 rfl rfl ?_
  refine am_e_goto (pc' := 17) dd_93_13 rfl ?_
  exact k

theorem sg_93_16 {sh : am_Sh} {C : Nat → am_M → List am_V → am_O → Prop} {P : am_S ⊕ am_O → Prop} {M : am_M} {x1 : Int32}  (k : am_ev sh C 93 (17, [some (am_R (some (20, 0, 0))), some (am_I x1)], [am_I 1, am_R (some (20, 0, 0))], M, 0) P) : am_ev sh C 93 (16, [some (am_R (some (20, 0, 0))), some (am_I x1)], [am_R (some (20, 0, 0))], M, 0) P := by
  refine am_e_iconst (v := 1) dd_93_16 rfl rfl ?_
  exact k

theorem sg_93_17 {sh : am_Sh} {C : Nat → am_M → List am_V → am_O → Prop} {P : am_S ⊕ am_O → Prop} {M : am_M} {x1 : Int32} {xs1 : Int32}  (k1 : ((am_up M (20, 0, 0) 0 xs1) (20, 0, 0) 0) ≤ 0 → am_ev sh C 93 (31, [some (am_R (some (20, 0, 0))), some (am_I x1)], [], (am_up M (20, 0, 0) 0 xs1), 0) P) (k2 : ¬ ((am_up M (20, 0, 0) 0 xs1) (20, 0, 0) 0) ≤ 0 → am_ev sh C 93 (27, [some (am_R (some (20, 0, 0))), some (am_I x1)], [], (am_up M (20, 0, 0) 0 xs1), 0) P) : am_ev sh C 93 (17, [some (am_R (some (20, 0, 0))), some (am_I x1)], [am_I xs1, am_R (some (20, 0, 0))], M, 0) P := by
  refine am_e_pf (ci := 3) (j := 0) dd_93_17 (by decide +kernel) rfl rfl (Or.inl rfl) rfl ?_
  refine am_e_aload_n dd_93_20 rfl rfl ?_
  refine am_e_gf (ci := 3) (j := 0) (v := am_I ((am_up M (20, 0, 0) 0 xs1) (20, 0, 0) 0)) dd_93_21 (by decide +kernel) rfl rfl rfl ?_
  exact am_a_if_le (tgt := 31) (pc' := 27) dd_93_24 rfl rfl k1 k2

theorem sg_93_27 {sh : am_Sh} {C : Nat → am_M → List am_V → am_O → Prop} {P : am_S ⊕ am_O → Prop} {M : am_M} {x1 : Int32}  (k : am_ev sh C 93 (37, [some (am_R (some (20, 0, 0))), some (am_I x1)], [am_I 0], M, 0) P) : am_ev sh C 93 (27, [some (am_R (some (20, 0, 0))), some (am_I x1)], [], M, 0) P := by
  refine am_e_iconst (v := 0) dd_93_27 rfl rfl ?_
  refine am_e_goto (pc' := 37) dd_93_28 rfl ?_
  exact k

theorem sg_93_31 {sh : am_Sh} {C : Nat → am_M → List am_V → am_O → Prop} {P : am_S ⊕ am_O → Prop} {M : am_M} {x1 : Int32} {j1 : Nat} (hx_j1 : x1 = nI j1) (hl_j1 : j1 < 1024) (k : am_ev sh C 93 (37, [some (am_R (some (20, 0, 0))), some (am_I x1)], [am_I (M (21, 18, 0) j1)], M, 0) P) : am_ev sh C 93 (31, [some (am_R (some (20, 0, 0))), some (am_I x1)], [], M, 0) P := by
  refine am_e_aload_n dd_93_31 rfl rfl ?_
  refine am_e_gf (ci := 3) (j := 18) (v := am_R (some (21, 18, 0))) dd_93_32 (by decide +kernel) rfl rfl rfl ?_
  refine am_e_iload_n dd_93_35 rfl rfl ?_
  refine am_a_iald dd_93_36 rfl hx_j1 hl_j1 (by decide) rfl ?_
  exact k

theorem sg_93_37 {sh : am_Sh} {C : Nat → am_M → List am_V → am_O → Prop} {P : am_S ⊕ am_O → Prop} {M : am_M} {x1 : Int32} {xs0 : Int32}  (k : P (Sum.inr (M, Sum.inl (some (am_I xs0))))) : am_ev sh C 93 (37, [some (am_R (some (20, 0, 0))), some (am_I x1)], [am_I xs0], M, 0) P := by
  exact am_e_iret dd_93_37 (by decide +kernel) (Or.inl rfl) k

-- 94: CacheLadderModel.flush(I)I
theorem dd_94_0 : decode (am_b 94) 0 = .ok (.aload_n 0, 1) := by decide +kernel
theorem dd_94_1 : decode (am_b 94) 1 = .ok (.aload_n 0, 1) := by decide +kernel
theorem dd_94_2 : decode (am_b 94) 2 = .ok (.iload_n 1, 1) := by decide +kernel
theorem dd_94_3 : decode (am_b 94) 3 = .ok (.invokevirtual 194, 3) := by decide +kernel
theorem dd_94_6 : decode (am_b 94) 6 = .ok (.ifCond .eq 7, 3) := by decide +kernel
theorem dd_94_9 : decode (am_b 94) 9 = .ok (.iconst 0, 1) := by decide +kernel
theorem dd_94_10 : decode (am_b 94) 10 = .ok (.goto 4, 3) := by decide +kernel
theorem dd_94_13 : decode (am_b 94) 13 = .ok (.iconst 1, 1) := by decide +kernel
theorem dd_94_14 : decode (am_b 94) 14 = .ok (.putfield 83, 3) := by decide +kernel
theorem dd_94_17 : decode (am_b 94) 17 = .ok (.aload_n 0, 1) := by decide +kernel
theorem dd_94_18 : decode (am_b 94) 18 = .ok (.getfield 83, 3) := by decide +kernel
theorem dd_94_21 : decode (am_b 94) 21 = .ok (.ifCond .le 5, 3) := by decide +kernel
theorem dd_94_24 : decode (am_b 94) 24 = .ok (.iconst 0, 1) := by decide +kernel
theorem dd_94_25 : decode (am_b 94) 25 = .ok (.ireturn, 1) := by decide +kernel
theorem dd_94_26 : decode (am_b 94) 26 = .ok (.aload_n 0, 1) := by decide +kernel
theorem dd_94_27 : decode (am_b 94) 27 = .ok (.getfield 26, 3) := by decide +kernel
theorem dd_94_30 : decode (am_b 94) 30 = .ok (.bipush 6, 2) := by decide +kernel
theorem dd_94_32 : decode (am_b 94) 32 = .ok (.iload_n 1, 1) := by decide +kernel
theorem dd_94_33 : decode (am_b 94) 33 = .ok (.imul, 1) := by decide +kernel
theorem dd_94_34 : decode (am_b 94) 34 = .ok (.iconst 5, 1) := by decide +kernel
theorem dd_94_35 : decode (am_b 94) 35 = .ok (.iadd, 1) := by decide +kernel
theorem dd_94_36 : decode (am_b 94) 36 = .ok (.iaload, 1) := by decide +kernel
theorem dd_94_37 : decode (am_b 94) 37 = .ok (.istore_n 2, 1) := by decide +kernel
theorem dd_94_38 : decode (am_b 94) 38 = .ok (.aload_n 0, 1) := by decide +kernel
theorem dd_94_39 : decode (am_b 94) 39 = .ok (.iload_n 1, 1) := by decide +kernel
theorem dd_94_40 : decode (am_b 94) 40 = .ok (.iconst 3, 1) := by decide +kernel
theorem dd_94_41 : decode (am_b 94) 41 = .ok (.invokevirtual 197, 3) := by decide +kernel
theorem dd_94_44 : decode (am_b 94) 44 = .ok (.istore_n 3, 1) := by decide +kernel
theorem dd_94_45 : decode (am_b 94) 45 = .ok (.aload_n 0, 1) := by decide +kernel
theorem dd_94_46 : decode (am_b 94) 46 = .ok (.getfield 26, 3) := by decide +kernel
theorem dd_94_49 : decode (am_b 94) 49 = .ok (.bipush 6, 2) := by decide +kernel
theorem dd_94_51 : decode (am_b 94) 51 = .ok (.iload_n 1, 1) := by decide +kernel
theorem dd_94_52 : decode (am_b 94) 52 = .ok (.imul, 1) := by decide +kernel
theorem dd_94_53 : decode (am_b 94) 53 = .ok (.iconst 5, 1) := by decide +kernel
theorem dd_94_54 : decode (am_b 94) 54 = .ok (.iadd, 1) := by decide +kernel
theorem dd_94_55 : decode (am_b 94) 55 = .ok (.iaload, 1) := by decide +kernel
theorem dd_94_56 : decode (am_b 94) 56 = .ok (.iload_n 2, 1) := by decide +kernel
theorem dd_94_57 : decode (am_b 94) 57 = .ok (.isub, 1) := by decide +kernel
theorem dd_94_58 : decode (am_b 94) 58 = .ok (.ireturn, 1) := by decide +kernel
theorem sg_94_0 {sh : am_Sh} {C : Nat → am_M → List am_V → am_O → Prop} {P : am_S ⊕ am_O → Prop} {M : am_M} {x1 : Int32} {u2 : Option am_V} {u3 : Option am_V} {M1 : am_M} {r1 : Int32} (hc1 : C 95 M [am_R (some (20, 0, 0)), am_I x1] (M1, Sum.inl (some (am_I r1)))) (k1 : r1 = 0 → am_ev sh C 94 (13, [some (am_R (some (20, 0, 0))), some (am_I x1), u2, u3], [am_R (some (20, 0, 0))], M1, 0) P) (k2 : ¬ r1 = 0 → am_ev sh C 94 (9, [some (am_R (some (20, 0, 0))), some (am_I x1), u2, u3], [am_R (some (20, 0, 0))], M1, 0) P) : am_ev sh C 94 (0, [some (am_R (some (20, 0, 0))), some (am_I x1), u2, u3], [], M, 0) P := by
  refine am_e_aload_n dd_94_0 rfl rfl ?_
  refine am_e_aload_n dd_94_1 rfl rfl ?_
  refine am_e_iload_n dd_94_2 rfl rfl ?_
  refine am_e_callV (c := 95) (k := 2) (as := [am_R (some (20, 0, 0)), am_I x1]) (S' := [am_I r1, am_R (some (20, 0, 0))]) (v := some (am_I r1)) (M' := M1) (n' := 0) dd_94_3 (by decide +kernel) ⟨Nat.le_of_ble_eq_true rfl, Nat.le_of_ble_eq_true rfl, by decide +kernel, (Or.inr (am_rcv_of rfl))⟩ rfl rfl (by decide +kernel) hc1 rfl ?_
  exact am_a_if_eq (tgt := 13) (pc' := 9) dd_94_6 rfl rfl k1 k2

theorem sg_94_9 {sh : am_Sh} {C : Nat → am_M → List am_V → am_O → Prop} {P : am_S ⊕ am_O → Prop} {M : am_M} {x1 : Int32} {u2 : Option am_V} {u3 : Option am_V}  (k : am_ev sh C 94 (14, [some (am_R (some (20, 0, 0))), some (am_I x1), u2, u3], [am_I 0, am_R (some (20, 0, 0))], M, 0) P) : am_ev sh C 94 (9, [some (am_R (some (20, 0, 0))), some (am_I x1), u2, u3], [am_R (some (20, 0, 0))], M, 0) P := by
  refine am_e_iconst (v := 0) dd_94_9 rfl rfl ?_
  refine am_e_goto (pc' := 14) dd_94_10 rfl ?_
  exact k

theorem sg_94_13 {sh : am_Sh} {C : Nat → am_M → List am_V → am_O → Prop} {P : am_S ⊕ am_O → Prop} {M : am_M} {x1 : Int32} {u2 : Option am_V} {u3 : Option am_V}  (k : am_ev sh C 94 (14, [some (am_R (some (20, 0, 0))), some (am_I x1), u2, u3], [am_I 1, am_R (some (20, 0, 0))], M, 0) P) : am_ev sh C 94 (13, [some (am_R (some (20, 0, 0))), some (am_I x1), u2, u3], [am_R (some (20, 0, 0))], M, 0) P := by
  refine am_e_iconst (v := 1) dd_94_13 rfl rfl ?_
  exact k

theorem sg_94_14 {sh : am_Sh} {C : Nat → am_M → List am_V → am_O → Prop} {P : am_S ⊕ am_O → Prop} {M : am_M} {x1 : Int32} {u2 : Option am_V} {u3 : Option am_V} {xs1 : Int32}  (k1 : ((am_up M (20, 0, 0) 0 xs1) (20, 0, 0) 0) ≤ 0 → am_ev sh C 94 (26, [some (am_R (some (20, 0, 0))), some (am_I x1), u2, u3], [], (am_up M (20, 0, 0) 0 xs1), 0) P) (k2 : ¬ ((am_up M (20, 0, 0) 0 xs1) (20, 0, 0) 0) ≤ 0 → am_ev sh C 94 (24, [some (am_R (some (20, 0, 0))), some (am_I x1), u2, u3], [], (am_up M (20, 0, 0) 0 xs1), 0) P) : am_ev sh C 94 (14, [some (am_R (some (20, 0, 0))), some (am_I x1), u2, u3], [am_I xs1, am_R (some (20, 0, 0))], M, 0) P := by
  refine am_e_pf (ci := 3) (j := 0) dd_94_14 (by decide +kernel) rfl rfl (Or.inl rfl) rfl ?_
  refine am_e_aload_n dd_94_17 rfl rfl ?_
  refine am_e_gf (ci := 3) (j := 0) (v := am_I ((am_up M (20, 0, 0) 0 xs1) (20, 0, 0) 0)) dd_94_18 (by decide +kernel) rfl rfl rfl ?_
  exact am_a_if_le (tgt := 26) (pc' := 24) dd_94_21 rfl rfl k1 k2

theorem sg_94_24 {sh : am_Sh} {C : Nat → am_M → List am_V → am_O → Prop} {P : am_S ⊕ am_O → Prop} {M : am_M} {x1 : Int32} {u2 : Option am_V} {u3 : Option am_V}  (k : P (Sum.inr (M, Sum.inl (some (am_I 0))))) : am_ev sh C 94 (24, [some (am_R (some (20, 0, 0))), some (am_I x1), u2, u3], [], M, 0) P := by
  refine am_e_iconst (v := 0) dd_94_24 rfl rfl ?_
  exact am_e_iret dd_94_25 (by decide +kernel) (Or.inl rfl) k

theorem sg_94_26 {sh : am_Sh} {C : Nat → am_M → List am_V → am_O → Prop} {P : am_S ⊕ am_O → Prop} {M : am_M} {x1 : Int32} {u2 : Option am_V} {u3 : Option am_V} {j1 : Nat} {M1 : am_M} {r1 : Int32} (hx_j1 : (6 * x1) + 5 = nI j1) (hl_j1 : j1 < 24) (hc1 : C 96 M [am_R (some (20, 0, 0)), am_I x1, am_I 3] (M1, Sum.inl (some (am_I r1)))) (k : P (Sum.inr (M1, Sum.inl (some (am_I ((M1 (21, 8, 0) j1) - (M (21, 8, 0) j1))))))) : am_ev sh C 94 (26, [some (am_R (some (20, 0, 0))), some (am_I x1), u2, u3], [], M, 0) P := by
  refine am_e_aload_n dd_94_26 rfl rfl ?_
  refine am_e_gf (ci := 3) (j := 8) (v := am_R (some (21, 8, 0))) dd_94_27 (by decide +kernel) rfl rfl rfl ?_
  refine am_e_bipush (v := 6) dd_94_30 (by decide) rfl ?_
  refine am_e_iload_n dd_94_32 rfl rfl ?_
  refine am_e_imul dd_94_33 rfl ?_
  refine am_e_iconst (v := 5) dd_94_34 rfl rfl ?_
  refine am_e_iadd dd_94_35 rfl ?_
  refine am_a_iald dd_94_36 rfl hx_j1 hl_j1 (by decide) rfl ?_
  refine am_e_istore_n dd_94_37 (Nat.le_of_ble_eq_true rfl) rfl rfl ?_
  refine am_e_aload_n dd_94_38 rfl rfl ?_
  refine am_e_iload_n dd_94_39 rfl rfl ?_
  refine am_e_iconst (v := 3) dd_94_40 rfl rfl ?_
  refine am_e_callV (c := 96) (k := 3) (as := [am_R (some (20, 0, 0)), am_I x1, am_I 3]) (S' := [am_I r1]) (v := some (am_I r1)) (M' := M1) (n' := 0) dd_94_41 (by decide +kernel) ⟨Nat.le_of_ble_eq_true rfl, Nat.le_of_ble_eq_true rfl, by decide +kernel, (Or.inr (am_rcv_of rfl))⟩ rfl rfl (by decide +kernel) hc1 rfl ?_
  refine am_e_istore_n dd_94_44 (Nat.le_of_ble_eq_true rfl) rfl rfl ?_
  refine am_e_aload_n dd_94_45 rfl rfl ?_
  refine am_e_gf (ci := 3) (j := 8) (v := am_R (some (21, 8, 0))) dd_94_46 (by decide +kernel) rfl rfl rfl ?_
  refine am_e_bipush (v := 6) dd_94_49 (by decide) rfl ?_
  refine am_e_iload_n dd_94_51 rfl rfl ?_
  refine am_e_imul dd_94_52 rfl ?_
  refine am_e_iconst (v := 5) dd_94_53 rfl rfl ?_
  refine am_e_iadd dd_94_54 rfl ?_
  refine am_a_iald dd_94_55 rfl hx_j1 hl_j1 (by decide) rfl ?_
  refine am_e_iload_n dd_94_56 rfl rfl ?_
  refine am_e_isub dd_94_57 rfl ?_
  exact am_e_iret dd_94_58 (by decide +kernel) (Or.inl rfl) k

-- 95: CacheLadderModel.isTier(I)Z
theorem dd_95_0 : decode (am_b 95) 0 = .ok (.iload_n 1, 1) := by decide +kernel
theorem dd_95_1 : decode (am_b 95) 1 = .ok (.iconst 0, 1) := by decide +kernel
theorem dd_95_2 : decode (am_b 95) 2 = .ok (.aload_n 0, 1) := by decide +kernel
theorem dd_95_3 : decode (am_b 95) 3 = .ok (.getfield 131, 3) := by decide +kernel
theorem dd_95_6 : decode (am_b 95) 6 = .ok (.iconst 1, 1) := by decide +kernel
theorem dd_95_7 : decode (am_b 95) 7 = .ok (.isub, 1) := by decide +kernel
theorem dd_95_8 : decode (am_b 95) 8 = .ok (.invokestatic 174, 3) := by decide +kernel
theorem dd_95_11 : decode (am_b 95) 11 = .ok (.ireturn, 1) := by decide +kernel
theorem sg_95_0 {sh : am_Sh} {C : Nat → am_M → List am_V → am_O → Prop} {P : am_S ⊕ am_O → Prop} {M : am_M} {x1 : Int32} {M1 : am_M} {r1 : Int32} (hc1 : C 62 M [am_I x1, am_I 0, am_I ((M (20, 0, 0) 1) - 1)] (M1, Sum.inl (some (am_I r1)))) (hb1 : r1 = 0 ∨ r1 = 1) (k : P (Sum.inr (M1, Sum.inl (some (am_I r1))))) : am_ev sh C 95 (0, [some (am_R (some (20, 0, 0))), some (am_I x1)], [], M, 0) P := by
  refine am_e_iload_n dd_95_0 rfl rfl ?_
  refine am_e_iconst (v := 0) dd_95_1 rfl rfl ?_
  refine am_e_aload_n dd_95_2 rfl rfl ?_
  refine am_e_gf (ci := 3) (j := 1) (v := am_I (M (20, 0, 0) 1)) dd_95_3 (by decide +kernel) rfl rfl rfl ?_
  refine am_e_iconst (v := 1) dd_95_6 rfl rfl ?_
  refine am_e_isub dd_95_7 rfl ?_
  refine am_e_callS (c := 62) (k := 3) (as := [am_I x1, am_I 0, am_I ((M (20, 0, 0) 1) - 1)]) (S' := [am_I r1]) (v := some (am_I r1)) (M' := M1) (n' := 0) dd_95_8 (by decide +kernel) (by decide +kernel) ⟨Nat.le_of_ble_eq_true rfl, Nat.le_of_ble_eq_true rfl, by decide +kernel, (Or.inl rfl)⟩ rfl rfl (by decide +kernel) hc1 rfl ?_
  exact am_e_iret dd_95_11 (by decide +kernel) (Or.inr ⟨rfl, hb1⟩) k

-- 96: CacheLadderModel.each(II)I
theorem dd_96_0 : decode (am_b 96) 0 = .ok (.iconst 0, 1) := by decide +kernel
theorem dd_96_1 : decode (am_b 96) 1 = .ok (.istore_n 3, 1) := by decide +kernel
theorem dd_96_2 : decode (am_b 96) 2 = .ok (.iconst 0, 1) := by decide +kernel
theorem dd_96_3 : decode (am_b 96) 3 = .ok (.istore 4, 2) := by decide +kernel
theorem dd_96_5 : decode (am_b 96) 5 = .ok (.iload 4, 2) := by decide +kernel
theorem dd_96_7 : decode (am_b 96) 7 = .ok (.aload_n 0, 1) := by decide +kernel
theorem dd_96_8 : decode (am_b 96) 8 = .ok (.getfield 7, 3) := by decide +kernel
theorem dd_96_11 : decode (am_b 96) 11 = .ok (.iload_n 1, 1) := by decide +kernel
theorem dd_96_12 : decode (am_b 96) 12 = .ok (.iaload, 1) := by decide +kernel
theorem dd_96_13 : decode (am_b 96) 13 = .ok (.if_icmp .ge 68, 3) := by decide +kernel
theorem dd_96_16 : decode (am_b 96) 16 = .ok (.iconst 0, 1) := by decide +kernel
theorem dd_96_17 : decode (am_b 96) 17 = .ok (.istore 5, 2) := by decide +kernel
theorem dd_96_19 : decode (am_b 96) 19 = .ok (.iload 5, 2) := by decide +kernel
theorem dd_96_21 : decode (am_b 96) 21 = .ok (.aload_n 0, 1) := by decide +kernel
theorem dd_96_22 : decode (am_b 96) 22 = .ok (.getfield 13, 3) := by decide +kernel
theorem dd_96_25 : decode (am_b 96) 25 = .ok (.iload_n 1, 1) := by decide +kernel
theorem dd_96_26 : decode (am_b 96) 26 = .ok (.iaload, 1) := by decide +kernel
theorem dd_96_27 : decode (am_b 96) 27 = .ok (.if_icmp .ge 48, 3) := by decide +kernel
theorem dd_96_30 : decode (am_b 96) 30 = .ok (.aload_n 0, 1) := by decide +kernel
theorem dd_96_31 : decode (am_b 96) 31 = .ok (.iload_n 1, 1) := by decide +kernel
theorem dd_96_32 : decode (am_b 96) 32 = .ok (.iload 4, 2) := by decide +kernel
theorem dd_96_34 : decode (am_b 96) 34 = .ok (.invokevirtual 87, 3) := by decide +kernel
theorem dd_96_37 : decode (am_b 96) 37 = .ok (.iload 5, 2) := by decide +kernel
theorem dd_96_39 : decode (am_b 96) 39 = .ok (.iadd, 1) := by decide +kernel
theorem dd_96_40 : decode (am_b 96) 40 = .ok (.istore 6, 2) := by decide +kernel
theorem dd_96_42 : decode (am_b 96) 42 = .ok (.aload_n 0, 1) := by decide +kernel
theorem dd_96_43 : decode (am_b 96) 43 = .ok (.getfield 32, 3) := by decide +kernel
theorem dd_96_46 : decode (am_b 96) 46 = .ok (.iload 6, 2) := by decide +kernel
theorem dd_96_48 : decode (am_b 96) 48 = .ok (.iaload, 1) := by decide +kernel
theorem dd_96_49 : decode (am_b 96) 49 = .ok (.ifCond .lt 20, 3) := by decide +kernel
theorem dd_96_52 : decode (am_b 96) 52 = .ok (.aload_n 0, 1) := by decide +kernel
theorem dd_96_53 : decode (am_b 96) 53 = .ok (.iload_n 2, 1) := by decide +kernel
theorem dd_96_54 : decode (am_b 96) 54 = .ok (.iload_n 1, 1) := by decide +kernel
theorem dd_96_55 : decode (am_b 96) 55 = .ok (.iconst 0, 1) := by decide +kernel
theorem dd_96_56 : decode (am_b 96) 56 = .ok (.iconst 0, 1) := by decide +kernel
theorem dd_96_57 : decode (am_b 96) 57 = .ok (.iload 6, 2) := by decide +kernel
theorem dd_96_59 : decode (am_b 96) 59 = .ok (.invokevirtual 124, 3) := by decide +kernel
theorem dd_96_62 : decode (am_b 96) 62 = .ok (.aload_n 0, 1) := by decide +kernel
theorem dd_96_63 : decode (am_b 96) 63 = .ok (.invokevirtual 181, 3) := by decide +kernel
theorem dd_96_66 : decode (am_b 96) 66 = .ok (.iinc 3 1, 3) := by decide +kernel
theorem dd_96_69 : decode (am_b 96) 69 = .ok (.iinc 5 1, 3) := by decide +kernel
theorem dd_96_72 : decode (am_b 96) 72 = .ok (.goto (-53), 3) := by decide +kernel
theorem dd_96_75 : decode (am_b 96) 75 = .ok (.iinc 4 1, 3) := by decide +kernel
theorem dd_96_78 : decode (am_b 96) 78 = .ok (.goto (-73), 3) := by decide +kernel
theorem dd_96_81 : decode (am_b 96) 81 = .ok (.iload_n 3, 1) := by decide +kernel
theorem dd_96_82 : decode (am_b 96) 82 = .ok (.ireturn, 1) := by decide +kernel
theorem sg_96_0 {sh : am_Sh} {C : Nat → am_M → List am_V → am_O → Prop} {P : am_S ⊕ am_O → Prop} {M : am_M} {x1 : Int32} {x2 : Int32} {u3 : Option am_V} {u4 : Option am_V} {u5 : Option am_V} {u6 : Option am_V}  (k : am_ev sh C 96 (5, [some (am_R (some (20, 0, 0))), some (am_I x1), some (am_I x2), some (am_I 0), some (am_I 0), u5, u6], [], M, 0) P) : am_ev sh C 96 (0, [some (am_R (some (20, 0, 0))), some (am_I x1), some (am_I x2), u3, u4, u5, u6], [], M, 0) P := by
  refine am_e_iconst (v := 0) dd_96_0 rfl rfl ?_
  refine am_e_istore_n dd_96_1 (Nat.le_of_ble_eq_true rfl) rfl rfl ?_
  refine am_e_iconst (v := 0) dd_96_2 rfl rfl ?_
  refine am_e_istore dd_96_3 (Nat.le_of_ble_eq_true rfl) rfl rfl ?_
  exact k

theorem sg_96_5 {sh : am_Sh} {C : Nat → am_M → List am_V → am_O → Prop} {P : am_S ⊕ am_O → Prop} {M : am_M} {x1 : Int32} {x2 : Int32} {x3 : Int32} {x4 : Int32} {u5 : Option am_V} {u6 : Option am_V} {j1 : Nat} (hx_j1 : x1 = nI j1) (hl_j1 : j1 < 4) (k1 : (M (21, 3, 0) j1) ≤ x4 → am_ev sh C 96 (81, [some (am_R (some (20, 0, 0))), some (am_I x1), some (am_I x2), some (am_I x3), some (am_I x4), u5, u6], [], M, 0) P) (k2 : ¬ (M (21, 3, 0) j1) ≤ x4 → am_ev sh C 96 (16, [some (am_R (some (20, 0, 0))), some (am_I x1), some (am_I x2), some (am_I x3), some (am_I x4), u5, u6], [], M, 0) P) : am_ev sh C 96 (5, [some (am_R (some (20, 0, 0))), some (am_I x1), some (am_I x2), some (am_I x3), some (am_I x4), u5, u6], [], M, 0) P := by
  refine am_e_iload dd_96_5 rfl rfl ?_
  refine am_e_aload_n dd_96_7 rfl rfl ?_
  refine am_e_gf (ci := 3) (j := 3) (v := am_R (some (21, 3, 0))) dd_96_8 (by decide +kernel) rfl rfl rfl ?_
  refine am_e_iload_n dd_96_11 rfl rfl ?_
  refine am_a_iald dd_96_12 rfl hx_j1 hl_j1 (by decide) rfl ?_
  exact am_a_icmp_ge (tgt := 81) (pc' := 16) dd_96_13 rfl rfl k1 k2

theorem sg_96_16 {sh : am_Sh} {C : Nat → am_M → List am_V → am_O → Prop} {P : am_S ⊕ am_O → Prop} {M : am_M} {x1 : Int32} {x2 : Int32} {x3 : Int32} {x4 : Int32} {u5 : Option am_V} {u6 : Option am_V}  (k : am_ev sh C 96 (19, [some (am_R (some (20, 0, 0))), some (am_I x1), some (am_I x2), some (am_I x3), some (am_I x4), some (am_I 0), u6], [], M, 0) P) : am_ev sh C 96 (16, [some (am_R (some (20, 0, 0))), some (am_I x1), some (am_I x2), some (am_I x3), some (am_I x4), u5, u6], [], M, 0) P := by
  refine am_e_iconst (v := 0) dd_96_16 rfl rfl ?_
  refine am_e_istore dd_96_17 (Nat.le_of_ble_eq_true rfl) rfl rfl ?_
  exact k

theorem sg_96_19 {sh : am_Sh} {C : Nat → am_M → List am_V → am_O → Prop} {P : am_S ⊕ am_O → Prop} {M : am_M} {x1 : Int32} {x2 : Int32} {x3 : Int32} {x4 : Int32} {x5 : Int32} {u6 : Option am_V} {j1 : Nat} (hx_j1 : x1 = nI j1) (hl_j1 : j1 < 4) (k1 : (M (21, 4, 0) j1) ≤ x5 → am_ev sh C 96 (75, [some (am_R (some (20, 0, 0))), some (am_I x1), some (am_I x2), some (am_I x3), some (am_I x4), some (am_I x5), u6], [], M, 0) P) (k2 : ¬ (M (21, 4, 0) j1) ≤ x5 → am_ev sh C 96 (30, [some (am_R (some (20, 0, 0))), some (am_I x1), some (am_I x2), some (am_I x3), some (am_I x4), some (am_I x5), u6], [], M, 0) P) : am_ev sh C 96 (19, [some (am_R (some (20, 0, 0))), some (am_I x1), some (am_I x2), some (am_I x3), some (am_I x4), some (am_I x5), u6], [], M, 0) P := by
  refine am_e_iload dd_96_19 rfl rfl ?_
  refine am_e_aload_n dd_96_21 rfl rfl ?_
  refine am_e_gf (ci := 3) (j := 4) (v := am_R (some (21, 4, 0))) dd_96_22 (by decide +kernel) rfl rfl rfl ?_
  refine am_e_iload_n dd_96_25 rfl rfl ?_
  refine am_a_iald dd_96_26 rfl hx_j1 hl_j1 (by decide) rfl ?_
  exact am_a_icmp_ge (tgt := 75) (pc' := 30) dd_96_27 rfl rfl k1 k2

theorem sg_96_30 {sh : am_Sh} {C : Nat → am_M → List am_V → am_O → Prop} {P : am_S ⊕ am_O → Prop} {M : am_M} {x1 : Int32} {x2 : Int32} {x3 : Int32} {x4 : Int32} {x5 : Int32} {u6 : Option am_V} {M1 : am_M} {r1 : Int32} {j1 : Nat} (hc1 : C 69 M [am_R (some (20, 0, 0)), am_I x1, am_I x4] (M1, Sum.inl (some (am_I r1)))) (hx_j1 : r1 + x5 = nI j1) (hl_j1 : j1 < 256) (k1 : (M1 (21, 10, 0) j1) < 0 → am_ev sh C 96 (69, [some (am_R (some (20, 0, 0))), some (am_I x1), some (am_I x2), some (am_I x3), some (am_I x4), some (am_I x5), some (am_I (r1 + x5))], [], M1, 0) P) (k2 : ¬ (M1 (21, 10, 0) j1) < 0 → am_ev sh C 96 (52, [some (am_R (some (20, 0, 0))), some (am_I x1), some (am_I x2), some (am_I x3), some (am_I x4), some (am_I x5), some (am_I (r1 + x5))], [], M1, 0) P) : am_ev sh C 96 (30, [some (am_R (some (20, 0, 0))), some (am_I x1), some (am_I x2), some (am_I x3), some (am_I x4), some (am_I x5), u6], [], M, 0) P := by
  refine am_e_aload_n dd_96_30 rfl rfl ?_
  refine am_e_iload_n dd_96_31 rfl rfl ?_
  refine am_e_iload dd_96_32 rfl rfl ?_
  refine am_e_callV (c := 69) (k := 3) (as := [am_R (some (20, 0, 0)), am_I x1, am_I x4]) (S' := [am_I r1]) (v := some (am_I r1)) (M' := M1) (n' := 0) dd_96_34 (by decide +kernel) ⟨Nat.le_of_ble_eq_true rfl, Nat.le_of_ble_eq_true rfl, by decide +kernel, (Or.inr (am_rcv_of rfl))⟩ rfl rfl (by decide +kernel) hc1 rfl ?_
  refine am_e_iload dd_96_37 rfl rfl ?_
  refine am_e_iadd dd_96_39 rfl ?_
  refine am_e_istore dd_96_40 (Nat.le_of_ble_eq_true rfl) rfl rfl ?_
  refine am_e_aload_n dd_96_42 rfl rfl ?_
  refine am_e_gf (ci := 3) (j := 10) (v := am_R (some (21, 10, 0))) dd_96_43 (by decide +kernel) rfl rfl rfl ?_
  refine am_e_iload dd_96_46 rfl rfl ?_
  refine am_a_iald dd_96_48 rfl hx_j1 hl_j1 (by decide) rfl ?_
  exact am_a_if_lt (tgt := 69) (pc' := 52) dd_96_49 rfl rfl k1 k2

theorem sg_96_52 {sh : am_Sh} {C : Nat → am_M → List am_V → am_O → Prop} {P : am_S ⊕ am_O → Prop} {M : am_M} {x1 : Int32} {x2 : Int32} {x3 : Int32} {x4 : Int32} {x5 : Int32} {x6 : Int32} {M1 : am_M} {M2 : am_M} (hc1 : C 65 M [am_R (some (20, 0, 0)), am_I x2, am_I x1, am_I 0, am_I 0, am_I x6] (M1, Sum.inl none)) (hc2 : C 66 M1 [am_R (some (20, 0, 0))] (M2, Sum.inl none)) (k : am_ev sh C 96 (69, [some (am_R (some (20, 0, 0))), some (am_I x1), some (am_I x2), some (am_I (x3 + 1)), some (am_I x4), some (am_I x5), some (am_I x6)], [], M2, 0) P) : am_ev sh C 96 (52, [some (am_R (some (20, 0, 0))), some (am_I x1), some (am_I x2), some (am_I x3), some (am_I x4), some (am_I x5), some (am_I x6)], [], M, 0) P := by
  refine am_e_aload_n dd_96_52 rfl rfl ?_
  refine am_e_iload_n dd_96_53 rfl rfl ?_
  refine am_e_iload_n dd_96_54 rfl rfl ?_
  refine am_e_iconst (v := 0) dd_96_55 rfl rfl ?_
  refine am_e_iconst (v := 0) dd_96_56 rfl rfl ?_
  refine am_e_iload dd_96_57 rfl rfl ?_
  refine am_e_callV (c := 65) (k := 6) (as := [am_R (some (20, 0, 0)), am_I x2, am_I x1, am_I 0, am_I 0, am_I x6]) (S' := []) (v := none) (M' := M1) (n' := 0) dd_96_59 (by decide +kernel) ⟨Nat.le_of_ble_eq_true rfl, Nat.le_of_ble_eq_true rfl, by decide +kernel, (Or.inr (am_rcv_of rfl))⟩ rfl rfl (by decide +kernel) hc1 rfl ?_
  refine am_e_aload_n dd_96_62 rfl rfl ?_
  refine am_e_callV (c := 66) (k := 1) (as := [am_R (some (20, 0, 0))]) (S' := []) (v := none) (M' := M2) (n' := 0) dd_96_63 (by decide +kernel) ⟨Nat.le_of_ble_eq_true rfl, Nat.le_of_ble_eq_true rfl, by decide +kernel, (Or.inr (am_rcv_of rfl))⟩ rfl rfl (by decide +kernel) hc2 rfl ?_
  refine am_e_iinc (v := x3 + 1) dd_96_66 rfl rfl rfl rfl ?_
  exact k

theorem sg_96_69 {sh : am_Sh} {C : Nat → am_M → List am_V → am_O → Prop} {P : am_S ⊕ am_O → Prop} {M : am_M} {x1 : Int32} {x2 : Int32} {x3 : Int32} {x4 : Int32} {x5 : Int32} {x6 : Int32}  (k : am_ev sh C 96 (19, [some (am_R (some (20, 0, 0))), some (am_I x1), some (am_I x2), some (am_I x3), some (am_I x4), some (am_I (x5 + 1)), some (am_I x6)], [], M, 0) P) : am_ev sh C 96 (69, [some (am_R (some (20, 0, 0))), some (am_I x1), some (am_I x2), some (am_I x3), some (am_I x4), some (am_I x5), some (am_I x6)], [], M, 0) P := by
  refine am_e_iinc (v := x5 + 1) dd_96_69 rfl rfl rfl rfl ?_
  refine am_e_goto (pc' := 19) dd_96_72 rfl ?_
  exact k

theorem sg_96_75 {sh : am_Sh} {C : Nat → am_M → List am_V → am_O → Prop} {P : am_S ⊕ am_O → Prop} {M : am_M} {x1 : Int32} {x2 : Int32} {x3 : Int32} {x4 : Int32} {x5 : Int32} {u6 : Option am_V}  (k : am_ev sh C 96 (5, [some (am_R (some (20, 0, 0))), some (am_I x1), some (am_I x2), some (am_I x3), some (am_I (x4 + 1)), some (am_I x5), u6], [], M, 0) P) : am_ev sh C 96 (75, [some (am_R (some (20, 0, 0))), some (am_I x1), some (am_I x2), some (am_I x3), some (am_I x4), some (am_I x5), u6], [], M, 0) P := by
  refine am_e_iinc (v := x4 + 1) dd_96_75 rfl rfl rfl rfl ?_
  refine am_e_goto (pc' := 5) dd_96_78 rfl ?_
  exact k

theorem sg_96_81 {sh : am_Sh} {C : Nat → am_M → List am_V → am_O → Prop} {P : am_S ⊕ am_O → Prop} {M : am_M} {x1 : Int32} {x2 : Int32} {x3 : Int32} {x4 : Int32} {u5 : Option am_V} {u6 : Option am_V}  (k : P (Sum.inr (M, Sum.inl (some (am_I x3))))) : am_ev sh C 96 (81, [some (am_R (some (20, 0, 0))), some (am_I x1), some (am_I x2), some (am_I x3), some (am_I x4), u5, u6], [], M, 0) P := by
  refine am_e_iload_n dd_96_81 rfl rfl ?_
  exact am_e_iret dd_96_82 (by decide +kernel) (Or.inl rfl) k

-- 97: CacheLadderModel.empty(I)I
theorem dd_97_0 : decode (am_b 97) 0 = .ok (.aload_n 0, 1) := by decide +kernel
theorem dd_97_1 : decode (am_b 97) 1 = .ok (.aload_n 0, 1) := by decide +kernel
theorem dd_97_2 : decode (am_b 97) 2 = .ok (.iload_n 1, 1) := by decide +kernel
theorem dd_97_3 : decode (am_b 97) 3 = .ok (.invokevirtual 194, 3) := by decide +kernel
theorem dd_97_6 : decode (am_b 97) 6 = .ok (.ifCond .eq 7, 3) := by decide +kernel
theorem dd_97_9 : decode (am_b 97) 9 = .ok (.iconst 0, 1) := by decide +kernel
theorem dd_97_10 : decode (am_b 97) 10 = .ok (.goto 4, 3) := by decide +kernel
theorem dd_97_13 : decode (am_b 97) 13 = .ok (.iconst 1, 1) := by decide +kernel
theorem dd_97_14 : decode (am_b 97) 14 = .ok (.putfield 83, 3) := by decide +kernel
theorem dd_97_17 : decode (am_b 97) 17 = .ok (.aload_n 0, 1) := by decide +kernel
theorem dd_97_18 : decode (am_b 97) 18 = .ok (.getfield 83, 3) := by decide +kernel
theorem dd_97_21 : decode (am_b 97) 21 = .ok (.ifCond .le 7, 3) := by decide +kernel
theorem dd_97_24 : decode (am_b 97) 24 = .ok (.iconst 0, 1) := by decide +kernel
theorem dd_97_25 : decode (am_b 97) 25 = .ok (.goto 9, 3) := by decide +kernel
theorem dd_97_28 : decode (am_b 97) 28 = .ok (.aload_n 0, 1) := by decide +kernel
theorem dd_97_29 : decode (am_b 97) 29 = .ok (.iload_n 1, 1) := by decide +kernel
theorem dd_97_30 : decode (am_b 97) 30 = .ok (.iconst 2, 1) := by decide +kernel
theorem dd_97_31 : decode (am_b 97) 31 = .ok (.invokevirtual 197, 3) := by decide +kernel
theorem dd_97_34 : decode (am_b 97) 34 = .ok (.ireturn, 1) := by decide +kernel
theorem sg_97_0 {sh : am_Sh} {C : Nat → am_M → List am_V → am_O → Prop} {P : am_S ⊕ am_O → Prop} {M : am_M} {x1 : Int32} {M1 : am_M} {r1 : Int32} (hc1 : C 95 M [am_R (some (20, 0, 0)), am_I x1] (M1, Sum.inl (some (am_I r1)))) (k1 : r1 = 0 → am_ev sh C 97 (13, [some (am_R (some (20, 0, 0))), some (am_I x1)], [am_R (some (20, 0, 0))], M1, 0) P) (k2 : ¬ r1 = 0 → am_ev sh C 97 (9, [some (am_R (some (20, 0, 0))), some (am_I x1)], [am_R (some (20, 0, 0))], M1, 0) P) : am_ev sh C 97 (0, [some (am_R (some (20, 0, 0))), some (am_I x1)], [], M, 0) P := by
  refine am_e_aload_n dd_97_0 rfl rfl ?_
  refine am_e_aload_n dd_97_1 rfl rfl ?_
  refine am_e_iload_n dd_97_2 rfl rfl ?_
  refine am_e_callV (c := 95) (k := 2) (as := [am_R (some (20, 0, 0)), am_I x1]) (S' := [am_I r1, am_R (some (20, 0, 0))]) (v := some (am_I r1)) (M' := M1) (n' := 0) dd_97_3 (by decide +kernel) ⟨Nat.le_of_ble_eq_true rfl, Nat.le_of_ble_eq_true rfl, by decide +kernel, (Or.inr (am_rcv_of rfl))⟩ rfl rfl (by decide +kernel) hc1 rfl ?_
  exact am_a_if_eq (tgt := 13) (pc' := 9) dd_97_6 rfl rfl k1 k2

theorem sg_97_9 {sh : am_Sh} {C : Nat → am_M → List am_V → am_O → Prop} {P : am_S ⊕ am_O → Prop} {M : am_M} {x1 : Int32}  (k : am_ev sh C 97 (14, [some (am_R (some (20, 0, 0))), some (am_I x1)], [am_I 0, am_R (some (20, 0, 0))], M, 0) P) : am_ev sh C 97 (9, [some (am_R (some (20, 0, 0))), some (am_I x1)], [am_R (some (20, 0, 0))], M, 0) P := by
  refine am_e_iconst (v := 0) dd_97_9 rfl rfl ?_
  refine am_e_goto (pc' := 14) dd_97_10 rfl ?_
  exact k

theorem sg_97_13 {sh : am_Sh} {C : Nat → am_M → List am_V → am_O → Prop} {P : am_S ⊕ am_O → Prop} {M : am_M} {x1 : Int32}  (k : am_ev sh C 97 (14, [some (am_R (some (20, 0, 0))), some (am_I x1)], [am_I 1, am_R (some (20, 0, 0))], M, 0) P) : am_ev sh C 97 (13, [some (am_R (some (20, 0, 0))), some (am_I x1)], [am_R (some (20, 0, 0))], M, 0) P := by
  refine am_e_iconst (v := 1) dd_97_13 rfl rfl ?_
  exact k

theorem sg_97_14 {sh : am_Sh} {C : Nat → am_M → List am_V → am_O → Prop} {P : am_S ⊕ am_O → Prop} {M : am_M} {x1 : Int32} {xs1 : Int32}  (k1 : ((am_up M (20, 0, 0) 0 xs1) (20, 0, 0) 0) ≤ 0 → am_ev sh C 97 (28, [some (am_R (some (20, 0, 0))), some (am_I x1)], [], (am_up M (20, 0, 0) 0 xs1), 0) P) (k2 : ¬ ((am_up M (20, 0, 0) 0 xs1) (20, 0, 0) 0) ≤ 0 → am_ev sh C 97 (24, [some (am_R (some (20, 0, 0))), some (am_I x1)], [], (am_up M (20, 0, 0) 0 xs1), 0) P) : am_ev sh C 97 (14, [some (am_R (some (20, 0, 0))), some (am_I x1)], [am_I xs1, am_R (some (20, 0, 0))], M, 0) P := by
  refine am_e_pf (ci := 3) (j := 0) dd_97_14 (by decide +kernel) rfl rfl (Or.inl rfl) rfl ?_
  refine am_e_aload_n dd_97_17 rfl rfl ?_
  refine am_e_gf (ci := 3) (j := 0) (v := am_I ((am_up M (20, 0, 0) 0 xs1) (20, 0, 0) 0)) dd_97_18 (by decide +kernel) rfl rfl rfl ?_
  exact am_a_if_le (tgt := 28) (pc' := 24) dd_97_21 rfl rfl k1 k2

theorem sg_97_24 {sh : am_Sh} {C : Nat → am_M → List am_V → am_O → Prop} {P : am_S ⊕ am_O → Prop} {M : am_M} {x1 : Int32}  (k : am_ev sh C 97 (34, [some (am_R (some (20, 0, 0))), some (am_I x1)], [am_I 0], M, 0) P) : am_ev sh C 97 (24, [some (am_R (some (20, 0, 0))), some (am_I x1)], [], M, 0) P := by
  refine am_e_iconst (v := 0) dd_97_24 rfl rfl ?_
  refine am_e_goto (pc' := 34) dd_97_25 rfl ?_
  exact k

theorem sg_97_28 {sh : am_Sh} {C : Nat → am_M → List am_V → am_O → Prop} {P : am_S ⊕ am_O → Prop} {M : am_M} {x1 : Int32} {M1 : am_M} {r1 : Int32} (hc1 : C 96 M [am_R (some (20, 0, 0)), am_I x1, am_I 2] (M1, Sum.inl (some (am_I r1)))) (k : am_ev sh C 97 (34, [some (am_R (some (20, 0, 0))), some (am_I x1)], [am_I r1], M1, 0) P) : am_ev sh C 97 (28, [some (am_R (some (20, 0, 0))), some (am_I x1)], [], M, 0) P := by
  refine am_e_aload_n dd_97_28 rfl rfl ?_
  refine am_e_iload_n dd_97_29 rfl rfl ?_
  refine am_e_iconst (v := 2) dd_97_30 rfl rfl ?_
  refine am_e_callV (c := 96) (k := 3) (as := [am_R (some (20, 0, 0)), am_I x1, am_I 2]) (S' := [am_I r1]) (v := some (am_I r1)) (M' := M1) (n' := 0) dd_97_31 (by decide +kernel) ⟨Nat.le_of_ble_eq_true rfl, Nat.le_of_ble_eq_true rfl, by decide +kernel, (Or.inr (am_rcv_of rfl))⟩ rfl rfl (by decide +kernel) hc1 rfl ?_
  exact k

theorem sg_97_34 {sh : am_Sh} {C : Nat → am_M → List am_V → am_O → Prop} {P : am_S ⊕ am_O → Prop} {M : am_M} {x1 : Int32} {xs0 : Int32}  (k : P (Sum.inr (M, Sum.inl (some (am_I xs0))))) : am_ev sh C 97 (34, [some (am_R (some (20, 0, 0))), some (am_I x1)], [am_I xs0], M, 0) P := by
  exact am_e_iret dd_97_34 (by decide +kernel) (Or.inl rfl) k

-- 98: CacheLadderModel.crash()I
theorem dd_98_0 : decode (am_b 98) 0 = .ok (.aload_n 0, 1) := by decide +kernel
theorem dd_98_1 : decode (am_b 98) 1 = .ok (.iconst 0, 1) := by decide +kernel
theorem dd_98_2 : decode (am_b 98) 2 = .ok (.putfield 83, 3) := by decide +kernel
theorem dd_98_5 : decode (am_b 98) 5 = .ok (.iconst 0, 1) := by decide +kernel
theorem dd_98_6 : decode (am_b 98) 6 = .ok (.istore_n 1, 1) := by decide +kernel
theorem dd_98_7 : decode (am_b 98) 7 = .ok (.iload_n 1, 1) := by decide +kernel
theorem dd_98_8 : decode (am_b 98) 8 = .ok (.sipush 1024, 3) := by decide +kernel
theorem dd_98_11 : decode (am_b 98) 11 = .ok (.if_icmp .ge 20, 3) := by decide +kernel
theorem dd_98_14 : decode (am_b 98) 14 = .ok (.aload_n 0, 1) := by decide +kernel
theorem dd_98_15 : decode (am_b 98) 15 = .ok (.getfield 80, 3) := by decide +kernel
theorem dd_98_18 : decode (am_b 98) 18 = .ok (.iload_n 1, 1) := by decide +kernel
theorem dd_98_19 : decode (am_b 98) 19 = .ok (.aload_n 0, 1) := by decide +kernel
theorem dd_98_20 : decode (am_b 98) 20 = .ok (.iload_n 1, 1) := by decide +kernel
theorem dd_98_21 : decode (am_b 98) 21 = .ok (.invokevirtual 191, 3) := by decide +kernel
theorem dd_98_24 : decode (am_b 98) 24 = .ok (.iastore, 1) := by decide +kernel
theorem dd_98_25 : decode (am_b 98) 25 = .ok (.iinc 1 1, 3) := by decide +kernel
theorem dd_98_28 : decode (am_b 98) 28 = .ok (.goto (-21), 3) := by decide +kernel
theorem dd_98_31 : decode (am_b 98) 31 = .ok (.iconst 0, 1) := by decide +kernel
theorem dd_98_32 : decode (am_b 98) 32 = .ok (.istore_n 1, 1) := by decide +kernel
theorem dd_98_33 : decode (am_b 98) 33 = .ok (.iload_n 1, 1) := by decide +kernel
theorem dd_98_34 : decode (am_b 98) 34 = .ok (.sipush 256, 3) := by decide +kernel
theorem dd_98_37 : decode (am_b 98) 37 = .ok (.if_icmp .ge 30, 3) := by decide +kernel
theorem dd_98_40 : decode (am_b 98) 40 = .ok (.aload_n 0, 1) := by decide +kernel
theorem dd_98_41 : decode (am_b 98) 41 = .ok (.getfield 32, 3) := by decide +kernel
theorem dd_98_44 : decode (am_b 98) 44 = .ok (.iload_n 1, 1) := by decide +kernel
theorem dd_98_45 : decode (am_b 98) 45 = .ok (.iconst (-1), 1) := by decide +kernel
theorem dd_98_46 : decode (am_b 98) 46 = .ok (.iastore, 1) := by decide +kernel
theorem dd_98_47 : decode (am_b 98) 47 = .ok (.aload_n 0, 1) := by decide +kernel
theorem dd_98_48 : decode (am_b 98) 48 = .ok (.getfield 35, 3) := by decide +kernel
theorem dd_98_51 : decode (am_b 98) 51 = .ok (.iload_n 1, 1) := by decide +kernel
theorem dd_98_52 : decode (am_b 98) 52 = .ok (.iconst 0, 1) := by decide +kernel
theorem dd_98_53 : decode (am_b 98) 53 = .ok (.iastore, 1) := by decide +kernel
theorem dd_98_54 : decode (am_b 98) 54 = .ok (.aload_n 0, 1) := by decide +kernel
theorem dd_98_55 : decode (am_b 98) 55 = .ok (.getfield 47, 3) := by decide +kernel
theorem dd_98_58 : decode (am_b 98) 58 = .ok (.iload_n 1, 1) := by decide +kernel
theorem dd_98_59 : decode (am_b 98) 59 = .ok (.iconst 0, 1) := by decide +kernel
theorem dd_98_60 : decode (am_b 98) 60 = .ok (.bastore, 1) := by decide +kernel
theorem dd_98_61 : decode (am_b 98) 61 = .ok (.iinc 1 1, 3) := by decide +kernel
theorem dd_98_64 : decode (am_b 98) 64 = .ok (.goto (-31), 3) := by decide +kernel
theorem dd_98_67 : decode (am_b 98) 67 = .ok (.iconst 0, 1) := by decide +kernel
theorem dd_98_68 : decode (am_b 98) 68 = .ok (.istore_n 1, 1) := by decide +kernel
theorem dd_98_69 : decode (am_b 98) 69 = .ok (.iload_n 1, 1) := by decide +kernel
theorem dd_98_70 : decode (am_b 98) 70 = .ok (.bipush 64, 2) := by decide +kernel
theorem dd_98_72 : decode (am_b 98) 72 = .ok (.if_icmp .ge 16, 3) := by decide +kernel
theorem dd_98_75 : decode (am_b 98) 75 = .ok (.aload_n 0, 1) := by decide +kernel
theorem dd_98_76 : decode (am_b 98) 76 = .ok (.getfield 29, 3) := by decide +kernel
theorem dd_98_79 : decode (am_b 98) 79 = .ok (.iload_n 1, 1) := by decide +kernel
theorem dd_98_80 : decode (am_b 98) 80 = .ok (.iconst 0, 1) := by decide +kernel
theorem dd_98_81 : decode (am_b 98) 81 = .ok (.iastore, 1) := by decide +kernel
theorem dd_98_82 : decode (am_b 98) 82 = .ok (.iinc 1 1, 3) := by decide +kernel
theorem dd_98_85 : decode (am_b 98) 85 = .ok (.goto (-16), 3) := by decide +kernel
theorem dd_98_88 : decode (am_b 98) 88 = .ok (.iconst 0, 1) := by decide +kernel
theorem dd_98_89 : decode (am_b 98) 89 = .ok (.istore_n 1, 1) := by decide +kernel
theorem dd_98_90 : decode (am_b 98) 90 = .ok (.iconst 0, 1) := by decide +kernel
theorem dd_98_91 : decode (am_b 98) 91 = .ok (.istore_n 2, 1) := by decide +kernel
theorem dd_98_92 : decode (am_b 98) 92 = .ok (.iload_n 2, 1) := by decide +kernel
theorem dd_98_93 : decode (am_b 98) 93 = .ok (.sipush 1024, 3) := by decide +kernel
theorem dd_98_96 : decode (am_b 98) 96 = .ok (.if_icmp .ge 32, 3) := by decide +kernel
theorem dd_98_99 : decode (am_b 98) 99 = .ok (.iload_n 1, 1) := by decide +kernel
theorem dd_98_100 : decode (am_b 98) 100 = .ok (.aload_n 0, 1) := by decide +kernel
theorem dd_98_101 : decode (am_b 98) 101 = .ok (.getfield 80, 3) := by decide +kernel
theorem dd_98_104 : decode (am_b 98) 104 = .ok (.iload_n 2, 1) := by decide +kernel
theorem dd_98_105 : decode (am_b 98) 105 = .ok (.iaload, 1) := by decide +kernel
theorem dd_98_106 : decode (am_b 98) 106 = .ok (.aload_n 0, 1) := by decide +kernel
theorem dd_98_107 : decode (am_b 98) 107 = .ok (.getfield 53, 3) := by decide +kernel
theorem dd_98_110 : decode (am_b 98) 110 = .ok (.iload_n 2, 1) := by decide +kernel
theorem dd_98_111 : decode (am_b 98) 111 = .ok (.iaload, 1) := by decide +kernel
theorem dd_98_112 : decode (am_b 98) 112 = .ok (.if_icmp .eq 7, 3) := by decide +kernel
theorem dd_98_115 : decode (am_b 98) 115 = .ok (.iconst 1, 1) := by decide +kernel
theorem dd_98_116 : decode (am_b 98) 116 = .ok (.goto 4, 3) := by decide +kernel
theorem dd_98_119 : decode (am_b 98) 119 = .ok (.iconst 0, 1) := by decide +kernel
theorem dd_98_120 : decode (am_b 98) 120 = .ok (.iadd, 1) := by decide +kernel
theorem dd_98_121 : decode (am_b 98) 121 = .ok (.istore_n 1, 1) := by decide +kernel
theorem dd_98_122 : decode (am_b 98) 122 = .ok (.iinc 2 1, 3) := by decide +kernel
theorem dd_98_125 : decode (am_b 98) 125 = .ok (.goto (-33), 3) := by decide +kernel
theorem dd_98_128 : decode (am_b 98) 128 = .ok (.iload_n 1, 1) := by decide +kernel
theorem dd_98_129 : decode (am_b 98) 129 = .ok (.ireturn, 1) := by decide +kernel
theorem sg_98_0 {sh : am_Sh} {C : Nat → am_M → List am_V → am_O → Prop} {P : am_S ⊕ am_O → Prop} {M : am_M} {u1 : Option am_V} {u2 : Option am_V}  (k : am_ev sh C 98 (7, [some (am_R (some (20, 0, 0))), some (am_I 0), u2], [], (am_up M (20, 0, 0) 0 0), 0) P) : am_ev sh C 98 (0, [some (am_R (some (20, 0, 0))), u1, u2], [], M, 0) P := by
  refine am_e_aload_n dd_98_0 rfl rfl ?_
  refine am_e_iconst (v := 0) dd_98_1 rfl rfl ?_
  refine am_e_pf (ci := 3) (j := 0) dd_98_2 (by decide +kernel) rfl rfl (Or.inl rfl) rfl ?_
  refine am_e_iconst (v := 0) dd_98_5 rfl rfl ?_
  refine am_e_istore_n dd_98_6 (Nat.le_of_ble_eq_true rfl) rfl rfl ?_
  exact k

theorem sg_98_7 {sh : am_Sh} {C : Nat → am_M → List am_V → am_O → Prop} {P : am_S ⊕ am_O → Prop} {M : am_M} {x1 : Int32} {u2 : Option am_V}  (k1 : 1024 ≤ x1 → am_ev sh C 98 (31, [some (am_R (some (20, 0, 0))), some (am_I x1), u2], [], M, 0) P) (k2 : ¬ 1024 ≤ x1 → am_ev sh C 98 (14, [some (am_R (some (20, 0, 0))), some (am_I x1), u2], [], M, 0) P) : am_ev sh C 98 (7, [some (am_R (some (20, 0, 0))), some (am_I x1), u2], [], M, 0) P := by
  refine am_e_iload_n dd_98_7 rfl rfl ?_
  refine am_e_sipush (v := 1024) dd_98_8 (by decide) rfl ?_
  exact am_a_icmp_ge (tgt := 31) (pc' := 14) dd_98_11 rfl rfl k1 k2

theorem sg_98_14 {sh : am_Sh} {C : Nat → am_M → List am_V → am_O → Prop} {P : am_S ⊕ am_O → Prop} {M : am_M} {x1 : Int32} {u2 : Option am_V} {M1 : am_M} {r1 : Int32} {j1 : Nat} (hc1 : C 92 M [am_R (some (20, 0, 0)), am_I x1] (M1, Sum.inl (some (am_I r1)))) (hx_j1 : x1 = nI j1) (hl_j1 : j1 < 1024) (k : am_ev sh C 98 (7, [some (am_R (some (20, 0, 0))), some (am_I (x1 + 1)), u2], [], (am_up M1 (21, 30, 0) j1 r1), 0) P) : am_ev sh C 98 (14, [some (am_R (some (20, 0, 0))), some (am_I x1), u2], [], M, 0) P := by
  refine am_e_aload_n dd_98_14 rfl rfl ?_
  refine am_e_gf (ci := 3) (j := 30) (v := am_R (some (21, 30, 0))) dd_98_15 (by decide +kernel) rfl rfl rfl ?_
  refine am_e_iload_n dd_98_18 rfl rfl ?_
  refine am_e_aload_n dd_98_19 rfl rfl ?_
  refine am_e_iload_n dd_98_20 rfl rfl ?_
  refine am_e_callV (c := 92) (k := 2) (as := [am_R (some (20, 0, 0)), am_I x1]) (S' := [am_I r1, am_I x1, am_R (some (21, 30, 0))]) (v := some (am_I r1)) (M' := M1) (n' := 0) dd_98_21 (by decide +kernel) ⟨Nat.le_of_ble_eq_true rfl, Nat.le_of_ble_eq_true rfl, by decide +kernel, (Or.inr (am_rcv_of rfl))⟩ rfl rfl (by decide +kernel) hc1 rfl ?_
  refine am_a_iast dd_98_24 rfl hx_j1 hl_j1 (by decide) rfl ?_
  refine am_e_iinc (v := x1 + 1) dd_98_25 rfl rfl rfl rfl ?_
  refine am_e_goto (pc' := 7) dd_98_28 rfl ?_
  exact k

theorem sg_98_31 {sh : am_Sh} {C : Nat → am_M → List am_V → am_O → Prop} {P : am_S ⊕ am_O → Prop} {M : am_M} {x1 : Int32} {u2 : Option am_V}  (k : am_ev sh C 98 (33, [some (am_R (some (20, 0, 0))), some (am_I 0), u2], [], M, 0) P) : am_ev sh C 98 (31, [some (am_R (some (20, 0, 0))), some (am_I x1), u2], [], M, 0) P := by
  refine am_e_iconst (v := 0) dd_98_31 rfl rfl ?_
  refine am_e_istore_n dd_98_32 (Nat.le_of_ble_eq_true rfl) rfl rfl ?_
  exact k

theorem sg_98_33 {sh : am_Sh} {C : Nat → am_M → List am_V → am_O → Prop} {P : am_S ⊕ am_O → Prop} {M : am_M} {x1 : Int32} {u2 : Option am_V}  (k1 : 256 ≤ x1 → am_ev sh C 98 (67, [some (am_R (some (20, 0, 0))), some (am_I x1), u2], [], M, 0) P) (k2 : ¬ 256 ≤ x1 → am_ev sh C 98 (40, [some (am_R (some (20, 0, 0))), some (am_I x1), u2], [], M, 0) P) : am_ev sh C 98 (33, [some (am_R (some (20, 0, 0))), some (am_I x1), u2], [], M, 0) P := by
  refine am_e_iload_n dd_98_33 rfl rfl ?_
  refine am_e_sipush (v := 256) dd_98_34 (by decide) rfl ?_
  exact am_a_icmp_ge (tgt := 67) (pc' := 40) dd_98_37 rfl rfl k1 k2

theorem sg_98_40 {sh : am_Sh} {C : Nat → am_M → List am_V → am_O → Prop} {P : am_S ⊕ am_O → Prop} {M : am_M} {x1 : Int32} {u2 : Option am_V} {j1 : Nat} {j2 : Nat} {j3 : Nat} (hx_j1 : x1 = nI j1) (hl_j1 : j1 < 256) (hx_j2 : x1 = nI j2) (hl_j2 : j2 < 256) (hx_j3 : x1 = nI j3) (hl_j3 : j3 < 256) (k : am_ev sh C 98 (33, [some (am_R (some (20, 0, 0))), some (am_I (x1 + 1)), u2], [], (am_up (am_up (am_up M (21, 10, 0) j1 (-1)) (21, 11, 0) j2 0) (21, 15, 0) j3 0), 0) P) : am_ev sh C 98 (40, [some (am_R (some (20, 0, 0))), some (am_I x1), u2], [], M, 0) P := by
  refine am_e_aload_n dd_98_40 rfl rfl ?_
  refine am_e_gf (ci := 3) (j := 10) (v := am_R (some (21, 10, 0))) dd_98_41 (by decide +kernel) rfl rfl rfl ?_
  refine am_e_iload_n dd_98_44 rfl rfl ?_
  refine am_e_iconst (v := (-1)) dd_98_45 rfl rfl ?_
  refine am_a_iast dd_98_46 rfl hx_j1 hl_j1 (by decide) rfl ?_
  refine am_e_aload_n dd_98_47 rfl rfl ?_
  refine am_e_gf (ci := 3) (j := 11) (v := am_R (some (21, 11, 0))) dd_98_48 (by decide +kernel) rfl rfl rfl ?_
  refine am_e_iload_n dd_98_51 rfl rfl ?_
  refine am_e_iconst (v := 0) dd_98_52 rfl rfl ?_
  refine am_a_iast dd_98_53 rfl hx_j2 hl_j2 (by decide) rfl ?_
  refine am_e_aload_n dd_98_54 rfl rfl ?_
  refine am_e_gf (ci := 3) (j := 15) (v := am_R (some (21, 15, 0))) dd_98_55 (by decide +kernel) rfl rfl rfl ?_
  refine am_e_iload_n dd_98_58 rfl rfl ?_
  refine am_e_iconst (v := 0) dd_98_59 rfl rfl ?_
  refine am_a_zast dd_98_60 rfl (Or.inl rfl) hx_j3 hl_j3 (by decide) rfl ?_
  refine am_e_iinc (v := x1 + 1) dd_98_61 rfl rfl rfl rfl ?_
  refine am_e_goto (pc' := 33) dd_98_64 rfl ?_
  exact k

theorem sg_98_67 {sh : am_Sh} {C : Nat → am_M → List am_V → am_O → Prop} {P : am_S ⊕ am_O → Prop} {M : am_M} {x1 : Int32} {u2 : Option am_V}  (k : am_ev sh C 98 (69, [some (am_R (some (20, 0, 0))), some (am_I 0), u2], [], M, 0) P) : am_ev sh C 98 (67, [some (am_R (some (20, 0, 0))), some (am_I x1), u2], [], M, 0) P := by
  refine am_e_iconst (v := 0) dd_98_67 rfl rfl ?_
  refine am_e_istore_n dd_98_68 (Nat.le_of_ble_eq_true rfl) rfl rfl ?_
  exact k

theorem sg_98_69 {sh : am_Sh} {C : Nat → am_M → List am_V → am_O → Prop} {P : am_S ⊕ am_O → Prop} {M : am_M} {x1 : Int32} {u2 : Option am_V}  (k1 : 64 ≤ x1 → am_ev sh C 98 (88, [some (am_R (some (20, 0, 0))), some (am_I x1), u2], [], M, 0) P) (k2 : ¬ 64 ≤ x1 → am_ev sh C 98 (75, [some (am_R (some (20, 0, 0))), some (am_I x1), u2], [], M, 0) P) : am_ev sh C 98 (69, [some (am_R (some (20, 0, 0))), some (am_I x1), u2], [], M, 0) P := by
  refine am_e_iload_n dd_98_69 rfl rfl ?_
  refine am_e_bipush (v := 64) dd_98_70 (by decide) rfl ?_
  exact am_a_icmp_ge (tgt := 88) (pc' := 75) dd_98_72 rfl rfl k1 k2

theorem sg_98_75 {sh : am_Sh} {C : Nat → am_M → List am_V → am_O → Prop} {P : am_S ⊕ am_O → Prop} {M : am_M} {x1 : Int32} {u2 : Option am_V} {j1 : Nat} (hx_j1 : x1 = nI j1) (hl_j1 : j1 < 64) (k : am_ev sh C 98 (69, [some (am_R (some (20, 0, 0))), some (am_I (x1 + 1)), u2], [], (am_up M (21, 9, 0) j1 0), 0) P) : am_ev sh C 98 (75, [some (am_R (some (20, 0, 0))), some (am_I x1), u2], [], M, 0) P := by
  refine am_e_aload_n dd_98_75 rfl rfl ?_
  refine am_e_gf (ci := 3) (j := 9) (v := am_R (some (21, 9, 0))) dd_98_76 (by decide +kernel) rfl rfl rfl ?_
  refine am_e_iload_n dd_98_79 rfl rfl ?_
  refine am_e_iconst (v := 0) dd_98_80 rfl rfl ?_
  refine am_a_iast dd_98_81 rfl hx_j1 hl_j1 (by decide) rfl ?_
  refine am_e_iinc (v := x1 + 1) dd_98_82 rfl rfl rfl rfl ?_
  refine am_e_goto (pc' := 69) dd_98_85 rfl ?_
  exact k

theorem sg_98_88 {sh : am_Sh} {C : Nat → am_M → List am_V → am_O → Prop} {P : am_S ⊕ am_O → Prop} {M : am_M} {x1 : Int32} {u2 : Option am_V}  (k : am_ev sh C 98 (92, [some (am_R (some (20, 0, 0))), some (am_I 0), some (am_I 0)], [], M, 0) P) : am_ev sh C 98 (88, [some (am_R (some (20, 0, 0))), some (am_I x1), u2], [], M, 0) P := by
  refine am_e_iconst (v := 0) dd_98_88 rfl rfl ?_
  refine am_e_istore_n dd_98_89 (Nat.le_of_ble_eq_true rfl) rfl rfl ?_
  refine am_e_iconst (v := 0) dd_98_90 rfl rfl ?_
  refine am_e_istore_n dd_98_91 (Nat.le_of_ble_eq_true rfl) rfl rfl ?_
  exact k

theorem sg_98_92 {sh : am_Sh} {C : Nat → am_M → List am_V → am_O → Prop} {P : am_S ⊕ am_O → Prop} {M : am_M} {x1 : Int32} {x2 : Int32}  (k1 : 1024 ≤ x2 → am_ev sh C 98 (128, [some (am_R (some (20, 0, 0))), some (am_I x1), some (am_I x2)], [], M, 0) P) (k2 : ¬ 1024 ≤ x2 → am_ev sh C 98 (99, [some (am_R (some (20, 0, 0))), some (am_I x1), some (am_I x2)], [], M, 0) P) : am_ev sh C 98 (92, [some (am_R (some (20, 0, 0))), some (am_I x1), some (am_I x2)], [], M, 0) P := by
  refine am_e_iload_n dd_98_92 rfl rfl ?_
  refine am_e_sipush (v := 1024) dd_98_93 (by decide) rfl ?_
  exact am_a_icmp_ge (tgt := 128) (pc' := 99) dd_98_96 rfl rfl k1 k2

theorem sg_98_99 {sh : am_Sh} {C : Nat → am_M → List am_V → am_O → Prop} {P : am_S ⊕ am_O → Prop} {M : am_M} {x1 : Int32} {x2 : Int32} {j1 : Nat} {j2 : Nat} (hx_j1 : x2 = nI j1) (hl_j1 : j1 < 1024) (hx_j2 : x2 = nI j2) (hl_j2 : j2 < 1024) (k1 : (M (21, 30, 0) j1) = (M (21, 18, 0) j2) → am_ev sh C 98 (119, [some (am_R (some (20, 0, 0))), some (am_I x1), some (am_I x2)], [am_I x1], M, 0) P) (k2 : ¬ (M (21, 30, 0) j1) = (M (21, 18, 0) j2) → am_ev sh C 98 (115, [some (am_R (some (20, 0, 0))), some (am_I x1), some (am_I x2)], [am_I x1], M, 0) P) : am_ev sh C 98 (99, [some (am_R (some (20, 0, 0))), some (am_I x1), some (am_I x2)], [], M, 0) P := by
  refine am_e_iload_n dd_98_99 rfl rfl ?_
  refine am_e_aload_n dd_98_100 rfl rfl ?_
  refine am_e_gf (ci := 3) (j := 30) (v := am_R (some (21, 30, 0))) dd_98_101 (by decide +kernel) rfl rfl rfl ?_
  refine am_e_iload_n dd_98_104 rfl rfl ?_
  refine am_a_iald dd_98_105 rfl hx_j1 hl_j1 (by decide) rfl ?_
  refine am_e_aload_n dd_98_106 rfl rfl ?_
  refine am_e_gf (ci := 3) (j := 18) (v := am_R (some (21, 18, 0))) dd_98_107 (by decide +kernel) rfl rfl rfl ?_
  refine am_e_iload_n dd_98_110 rfl rfl ?_
  refine am_a_iald dd_98_111 rfl hx_j2 hl_j2 (by decide) rfl ?_
  exact am_a_icmp_eq (tgt := 119) (pc' := 115) dd_98_112 rfl rfl k1 k2

theorem sg_98_115 {sh : am_Sh} {C : Nat → am_M → List am_V → am_O → Prop} {P : am_S ⊕ am_O → Prop} {M : am_M} {x1 : Int32} {x2 : Int32} {xs0 : Int32}  (k : am_ev sh C 98 (120, [some (am_R (some (20, 0, 0))), some (am_I x1), some (am_I x2)], [am_I 1, am_I xs0], M, 0) P) : am_ev sh C 98 (115, [some (am_R (some (20, 0, 0))), some (am_I x1), some (am_I x2)], [am_I xs0], M, 0) P := by
  refine am_e_iconst (v := 1) dd_98_115 rfl rfl ?_
  refine am_e_goto (pc' := 120) dd_98_116 rfl ?_
  exact k

theorem sg_98_119 {sh : am_Sh} {C : Nat → am_M → List am_V → am_O → Prop} {P : am_S ⊕ am_O → Prop} {M : am_M} {x1 : Int32} {x2 : Int32} {xs0 : Int32}  (k : am_ev sh C 98 (120, [some (am_R (some (20, 0, 0))), some (am_I x1), some (am_I x2)], [am_I 0, am_I xs0], M, 0) P) : am_ev sh C 98 (119, [some (am_R (some (20, 0, 0))), some (am_I x1), some (am_I x2)], [am_I xs0], M, 0) P := by
  refine am_e_iconst (v := 0) dd_98_119 rfl rfl ?_
  exact k

theorem sg_98_120 {sh : am_Sh} {C : Nat → am_M → List am_V → am_O → Prop} {P : am_S ⊕ am_O → Prop} {M : am_M} {x1 : Int32} {x2 : Int32} {xs0 : Int32} {xs1 : Int32}  (k : am_ev sh C 98 (92, [some (am_R (some (20, 0, 0))), some (am_I (xs0 + xs1)), some (am_I (x2 + 1))], [], M, 0) P) : am_ev sh C 98 (120, [some (am_R (some (20, 0, 0))), some (am_I x1), some (am_I x2)], [am_I xs1, am_I xs0], M, 0) P := by
  refine am_e_iadd dd_98_120 rfl ?_
  refine am_e_istore_n dd_98_121 (Nat.le_of_ble_eq_true rfl) rfl rfl ?_
  refine am_e_iinc (v := x2 + 1) dd_98_122 rfl rfl rfl rfl ?_
  refine am_e_goto (pc' := 92) dd_98_125 rfl ?_
  exact k

theorem sg_98_128 {sh : am_Sh} {C : Nat → am_M → List am_V → am_O → Prop} {P : am_S ⊕ am_O → Prop} {M : am_M} {x1 : Int32} {x2 : Int32}  (k : P (Sum.inr (M, Sum.inl (some (am_I x1))))) : am_ev sh C 98 (128, [some (am_R (some (20, 0, 0))), some (am_I x1), some (am_I x2)], [], M, 0) P := by
  refine am_e_iload_n dd_98_128 rfl rfl ?_
  exact am_e_iret dd_98_129 (by decide +kernel) (Or.inl rfl) k

-- 99: CacheLadderModel.count(II)I
theorem dd_99_0 : decode (am_b 99) 0 = .ok (.aload_n 0, 1) := by decide +kernel
theorem dd_99_1 : decode (am_b 99) 1 = .ok (.aload_n 0, 1) := by decide +kernel
theorem dd_99_2 : decode (am_b 99) 2 = .ok (.iload_n 1, 1) := by decide +kernel
theorem dd_99_3 : decode (am_b 99) 3 = .ok (.invokevirtual 194, 3) := by decide +kernel
theorem dd_99_6 : decode (am_b 99) 6 = .ok (.ifCond .ne 7, 3) := by decide +kernel
theorem dd_99_9 : decode (am_b 99) 9 = .ok (.iconst 1, 1) := by decide +kernel
theorem dd_99_10 : decode (am_b 99) 10 = .ok (.goto 17, 3) := by decide +kernel
theorem dd_99_13 : decode (am_b 99) 13 = .ok (.iload_n 2, 1) := by decide +kernel
theorem dd_99_14 : decode (am_b 99) 14 = .ok (.iconst 0, 1) := by decide +kernel
theorem dd_99_15 : decode (am_b 99) 15 = .ok (.iconst 5, 1) := by decide +kernel
theorem dd_99_16 : decode (am_b 99) 16 = .ok (.invokestatic 174, 3) := by decide +kernel
theorem dd_99_19 : decode (am_b 99) 19 = .ok (.ifCond .eq 7, 3) := by decide +kernel
theorem dd_99_22 : decode (am_b 99) 22 = .ok (.iconst 0, 1) := by decide +kernel
theorem dd_99_23 : decode (am_b 99) 23 = .ok (.goto 4, 3) := by decide +kernel
theorem dd_99_26 : decode (am_b 99) 26 = .ok (.iconst 2, 1) := by decide +kernel
theorem dd_99_27 : decode (am_b 99) 27 = .ok (.putfield 83, 3) := by decide +kernel
theorem dd_99_30 : decode (am_b 99) 30 = .ok (.aload_n 0, 1) := by decide +kernel
theorem dd_99_31 : decode (am_b 99) 31 = .ok (.getfield 83, 3) := by decide +kernel
theorem dd_99_34 : decode (am_b 99) 34 = .ok (.ifCond .le 7, 3) := by decide +kernel
theorem dd_99_37 : decode (am_b 99) 37 = .ok (.iconst 0, 1) := by decide +kernel
theorem dd_99_38 : decode (am_b 99) 38 = .ok (.goto 14, 3) := by decide +kernel
theorem dd_99_41 : decode (am_b 99) 41 = .ok (.aload_n 0, 1) := by decide +kernel
theorem dd_99_42 : decode (am_b 99) 42 = .ok (.getfield 26, 3) := by decide +kernel
theorem dd_99_45 : decode (am_b 99) 45 = .ok (.bipush 6, 2) := by decide +kernel
theorem dd_99_47 : decode (am_b 99) 47 = .ok (.iload_n 1, 1) := by decide +kernel
theorem dd_99_48 : decode (am_b 99) 48 = .ok (.imul, 1) := by decide +kernel
theorem dd_99_49 : decode (am_b 99) 49 = .ok (.iload_n 2, 1) := by decide +kernel
theorem dd_99_50 : decode (am_b 99) 50 = .ok (.iadd, 1) := by decide +kernel
theorem dd_99_51 : decode (am_b 99) 51 = .ok (.iaload, 1) := by decide +kernel
theorem dd_99_52 : decode (am_b 99) 52 = .ok (.ireturn, 1) := by decide +kernel
theorem sg_99_0 {sh : am_Sh} {C : Nat → am_M → List am_V → am_O → Prop} {P : am_S ⊕ am_O → Prop} {M : am_M} {x1 : Int32} {x2 : Int32} {M1 : am_M} {r1 : Int32} (hc1 : C 95 M [am_R (some (20, 0, 0)), am_I x1] (M1, Sum.inl (some (am_I r1)))) (k1 : ¬ r1 = 0 → am_ev sh C 99 (13, [some (am_R (some (20, 0, 0))), some (am_I x1), some (am_I x2)], [am_R (some (20, 0, 0))], M1, 0) P) (k2 : r1 = 0 → am_ev sh C 99 (9, [some (am_R (some (20, 0, 0))), some (am_I x1), some (am_I x2)], [am_R (some (20, 0, 0))], M1, 0) P) : am_ev sh C 99 (0, [some (am_R (some (20, 0, 0))), some (am_I x1), some (am_I x2)], [], M, 0) P := by
  refine am_e_aload_n dd_99_0 rfl rfl ?_
  refine am_e_aload_n dd_99_1 rfl rfl ?_
  refine am_e_iload_n dd_99_2 rfl rfl ?_
  refine am_e_callV (c := 95) (k := 2) (as := [am_R (some (20, 0, 0)), am_I x1]) (S' := [am_I r1, am_R (some (20, 0, 0))]) (v := some (am_I r1)) (M' := M1) (n' := 0) dd_99_3 (by decide +kernel) ⟨Nat.le_of_ble_eq_true rfl, Nat.le_of_ble_eq_true rfl, by decide +kernel, (Or.inr (am_rcv_of rfl))⟩ rfl rfl (by decide +kernel) hc1 rfl ?_
  exact am_a_if_ne (tgt := 13) (pc' := 9) dd_99_6 rfl rfl k1 k2

theorem sg_99_9 {sh : am_Sh} {C : Nat → am_M → List am_V → am_O → Prop} {P : am_S ⊕ am_O → Prop} {M : am_M} {x1 : Int32} {x2 : Int32}  (k : am_ev sh C 99 (27, [some (am_R (some (20, 0, 0))), some (am_I x1), some (am_I x2)], [am_I 1, am_R (some (20, 0, 0))], M, 0) P) : am_ev sh C 99 (9, [some (am_R (some (20, 0, 0))), some (am_I x1), some (am_I x2)], [am_R (some (20, 0, 0))], M, 0) P := by
  refine am_e_iconst (v := 1) dd_99_9 rfl rfl ?_
  refine am_e_goto (pc' := 27) dd_99_10 rfl ?_
  exact k

theorem sg_99_13 {sh : am_Sh} {C : Nat → am_M → List am_V → am_O → Prop} {P : am_S ⊕ am_O → Prop} {M : am_M} {x1 : Int32} {x2 : Int32} {M1 : am_M} {r1 : Int32} (hc1 : C 62 M [am_I x2, am_I 0, am_I 5] (M1, Sum.inl (some (am_I r1)))) (k1 : r1 = 0 → am_ev sh C 99 (26, [some (am_R (some (20, 0, 0))), some (am_I x1), some (am_I x2)], [am_R (some (20, 0, 0))], M1, 0) P) (k2 : ¬ r1 = 0 → am_ev sh C 99 (22, [some (am_R (some (20, 0, 0))), some (am_I x1), some (am_I x2)], [am_R (some (20, 0, 0))], M1, 0) P) : am_ev sh C 99 (13, [some (am_R (some (20, 0, 0))), some (am_I x1), some (am_I x2)], [am_R (some (20, 0, 0))], M, 0) P := by
  refine am_e_iload_n dd_99_13 rfl rfl ?_
  refine am_e_iconst (v := 0) dd_99_14 rfl rfl ?_
  refine am_e_iconst (v := 5) dd_99_15 rfl rfl ?_
  refine am_e_callS (c := 62) (k := 3) (as := [am_I x2, am_I 0, am_I 5]) (S' := [am_I r1, am_R (some (20, 0, 0))]) (v := some (am_I r1)) (M' := M1) (n' := 0) dd_99_16 (by decide +kernel) (by decide +kernel) ⟨Nat.le_of_ble_eq_true rfl, Nat.le_of_ble_eq_true rfl, by decide +kernel, (Or.inl rfl)⟩ rfl rfl (by decide +kernel) hc1 rfl ?_
  exact am_a_if_eq (tgt := 26) (pc' := 22) dd_99_19 rfl rfl k1 k2

theorem sg_99_22 {sh : am_Sh} {C : Nat → am_M → List am_V → am_O → Prop} {P : am_S ⊕ am_O → Prop} {M : am_M} {x1 : Int32} {x2 : Int32}  (k : am_ev sh C 99 (27, [some (am_R (some (20, 0, 0))), some (am_I x1), some (am_I x2)], [am_I 0, am_R (some (20, 0, 0))], M, 0) P) : am_ev sh C 99 (22, [some (am_R (some (20, 0, 0))), some (am_I x1), some (am_I x2)], [am_R (some (20, 0, 0))], M, 0) P := by
  refine am_e_iconst (v := 0) dd_99_22 rfl rfl ?_
  refine am_e_goto (pc' := 27) dd_99_23 rfl ?_
  exact k

theorem sg_99_26 {sh : am_Sh} {C : Nat → am_M → List am_V → am_O → Prop} {P : am_S ⊕ am_O → Prop} {M : am_M} {x1 : Int32} {x2 : Int32}  (k : am_ev sh C 99 (27, [some (am_R (some (20, 0, 0))), some (am_I x1), some (am_I x2)], [am_I 2, am_R (some (20, 0, 0))], M, 0) P) : am_ev sh C 99 (26, [some (am_R (some (20, 0, 0))), some (am_I x1), some (am_I x2)], [am_R (some (20, 0, 0))], M, 0) P := by
  refine am_e_iconst (v := 2) dd_99_26 rfl rfl ?_
  exact k

theorem sg_99_27 {sh : am_Sh} {C : Nat → am_M → List am_V → am_O → Prop} {P : am_S ⊕ am_O → Prop} {M : am_M} {x1 : Int32} {x2 : Int32} {xs1 : Int32}  (k1 : ((am_up M (20, 0, 0) 0 xs1) (20, 0, 0) 0) ≤ 0 → am_ev sh C 99 (41, [some (am_R (some (20, 0, 0))), some (am_I x1), some (am_I x2)], [], (am_up M (20, 0, 0) 0 xs1), 0) P) (k2 : ¬ ((am_up M (20, 0, 0) 0 xs1) (20, 0, 0) 0) ≤ 0 → am_ev sh C 99 (37, [some (am_R (some (20, 0, 0))), some (am_I x1), some (am_I x2)], [], (am_up M (20, 0, 0) 0 xs1), 0) P) : am_ev sh C 99 (27, [some (am_R (some (20, 0, 0))), some (am_I x1), some (am_I x2)], [am_I xs1, am_R (some (20, 0, 0))], M, 0) P := by
  refine am_e_pf (ci := 3) (j := 0) dd_99_27 (by decide +kernel) rfl rfl (Or.inl rfl) rfl ?_
  refine am_e_aload_n dd_99_30 rfl rfl ?_
  refine am_e_gf (ci := 3) (j := 0) (v := am_I ((am_up M (20, 0, 0) 0 xs1) (20, 0, 0) 0)) dd_99_31 (by decide +kernel) rfl rfl rfl ?_
  exact am_a_if_le (tgt := 41) (pc' := 37) dd_99_34 rfl rfl k1 k2

theorem sg_99_37 {sh : am_Sh} {C : Nat → am_M → List am_V → am_O → Prop} {P : am_S ⊕ am_O → Prop} {M : am_M} {x1 : Int32} {x2 : Int32}  (k : am_ev sh C 99 (52, [some (am_R (some (20, 0, 0))), some (am_I x1), some (am_I x2)], [am_I 0], M, 0) P) : am_ev sh C 99 (37, [some (am_R (some (20, 0, 0))), some (am_I x1), some (am_I x2)], [], M, 0) P := by
  refine am_e_iconst (v := 0) dd_99_37 rfl rfl ?_
  refine am_e_goto (pc' := 52) dd_99_38 rfl ?_
  exact k

theorem sg_99_41 {sh : am_Sh} {C : Nat → am_M → List am_V → am_O → Prop} {P : am_S ⊕ am_O → Prop} {M : am_M} {x1 : Int32} {x2 : Int32} {j1 : Nat} (hx_j1 : (6 * x1) + x2 = nI j1) (hl_j1 : j1 < 24) (k : am_ev sh C 99 (52, [some (am_R (some (20, 0, 0))), some (am_I x1), some (am_I x2)], [am_I (M (21, 8, 0) j1)], M, 0) P) : am_ev sh C 99 (41, [some (am_R (some (20, 0, 0))), some (am_I x1), some (am_I x2)], [], M, 0) P := by
  refine am_e_aload_n dd_99_41 rfl rfl ?_
  refine am_e_gf (ci := 3) (j := 8) (v := am_R (some (21, 8, 0))) dd_99_42 (by decide +kernel) rfl rfl rfl ?_
  refine am_e_bipush (v := 6) dd_99_45 (by decide) rfl ?_
  refine am_e_iload_n dd_99_47 rfl rfl ?_
  refine am_e_imul dd_99_48 rfl ?_
  refine am_e_iload_n dd_99_49 rfl rfl ?_
  refine am_e_iadd dd_99_50 rfl ?_
  refine am_a_iald dd_99_51 rfl hx_j1 hl_j1 (by decide) rfl ?_
  exact k

theorem sg_99_52 {sh : am_Sh} {C : Nat → am_M → List am_V → am_O → Prop} {P : am_S ⊕ am_O → Prop} {M : am_M} {x1 : Int32} {x2 : Int32} {xs0 : Int32}  (k : P (Sum.inr (M, Sum.inl (some (am_I xs0))))) : am_ev sh C 99 (52, [some (am_R (some (20, 0, 0))), some (am_I x1), some (am_I x2)], [am_I xs0], M, 0) P := by
  exact am_e_iret dd_99_52 (by decide +kernel) (Or.inl rfl) k

