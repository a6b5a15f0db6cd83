-- 13: CacheLadder$Tier.noteUse(LCacheLadder$Line;)V
theorem dd_13_0 : decode (am_b 13) 0 = .ok (.aload_n 0, 1) := by decide +kernel
theorem dd_13_1 : decode (am_b 13) 1 = .ok (.dup, 1) := by decide +kernel
theorem dd_13_2 : decode (am_b 13) 2 = .ok (.getfield 96, 3) := by decide +kernel
theorem dd_13_5 : decode (am_b 13) 5 = .ok (.iconst 1, 1) := by decide +kernel
theorem dd_13_6 : decode (am_b 13) 6 = .ok (.iadd, 1) := by decide +kernel
theorem dd_13_7 : decode (am_b 13) 7 = .ok (.putfield 96, 3) := by decide +kernel
theorem dd_13_10 : decode (am_b 13) 10 = .ok (.aload_n 1, 1) := by decide +kernel
theorem dd_13_11 : decode (am_b 13) 11 = .ok (.aload_n 0, 1) := by decide +kernel
theorem dd_13_12 : decode (am_b 13) 12 = .ok (.getfield 96, 3) := by decide +kernel
theorem dd_13_15 : decode (am_b 13) 15 = .ok (.putfield 74, 3) := by decide +kernel
theorem dd_13_18 : decode (am_b 13) 18 = .ok (.aload_n 1, 1) := by decide +kernel
theorem dd_13_19 : decode (am_b 13) 19 = .ok (.dup, 1) := by decide +kernel
theorem dd_13_20 : decode (am_b 13) 20 = .ok (.getfield 77, 3) := by decide +kernel
theorem dd_13_23 : decode (am_b 13) 23 = .ok (.iconst 1, 1) := by decide +kernel
theorem dd_13_24 : decode (am_b 13) 24 = .ok (.iadd, 1) := by decide +kernel
theorem dd_13_25 : decode (am_b 13) 25 = .ok (.putfield 77, 3) := by decide +kernel
theorem dd_13_28 : decode (am_b 13) 28 = .ok (.aload_n 1, 1) := by decide +kernel
theorem dd_13_29 : decode (am_b 13) 29 = .ok (.iconst 1, 1) := by decide +kernel
theorem dd_13_30 : decode (am_b 13) 30 = .ok (.putfield 86, 3) := by decide +kernel
theorem dd_13_33 : decode (am_b 13) 33 = .ok (.return_, 1) := by decide +kernel
theorem sg_13_0 {sh : am_Sh} {C : Nat → am_M → List am_V → am_O → Prop} {P : am_S ⊕ am_O → Prop} {M : am_M} {t0 : Nat} {t1 : Nat} {i1 : Nat} (ht0 : t0 < sh.1) (ht1 : t1 < sh.1) (ht1_i1 : i1 < sh.2.1 t1) (k : P (Sum.inr ((am_up (am_up (am_up (am_up M (5, t0, 0) 8 ((M (5, t0, 0) 8) + 1)) (9, t1, i1) 4 ((am_up M (5, t0, 0) 8 ((M (5, t0, 0) 8) + 1)) (5, t0, 0) 8)) (9, t1, i1) 5 (((am_up (am_up M (5, t0, 0) 8 ((M (5, t0, 0) 8) + 1)) (9, t1, i1) 4 ((am_up M (5, t0, 0) 8 ((M (5, t0, 0) 8) + 1)) (5, t0, 0) 8)) (9, t1, i1) 5) + 1)) (9, t1, i1) 6 1), Sum.inl none))) : am_ev sh C 13 (0, [some (am_R (some (5, t0, 0))), some (am_R (some (9, t1, i1)))], [], M, 0) P := by
  refine am_e_aload_n dd_13_0 rfl rfl ?_
  refine am_e_dup dd_13_1 rfl rfl ?_
  refine am_e_gf (ci := 1) (j := 8) (v := am_I (M (5, t0, 0) 8)) dd_13_2 (by decide +kernel) (am_ct5 ht0) rfl rfl ?_
  refine am_e_iconst (v := 1) dd_13_5 rfl rfl ?_
  refine am_e_iadd dd_13_6 rfl ?_
  refine am_e_pf (ci := 1) (j := 8) dd_13_7 (by decide +kernel) (am_ct5 ht0) rfl (Or.inl rfl) rfl ?_
  refine am_e_aload_n dd_13_10 rfl rfl ?_
  refine am_e_aload_n dd_13_11 rfl rfl ?_
  refine am_e_gf (ci := 1) (j := 8) (v := am_I ((am_up M (5, t0, 0) 8 ((M (5, t0, 0) 8) + 1)) (5, t0, 0) 8)) dd_13_12 (by decide +kernel) (am_ct5 ht0) rfl rfl ?_
  refine am_e_pf (ci := 0) (j := 4) dd_13_15 (by decide +kernel) (am_ct9 ht1 ht1_i1) rfl (Or.inl rfl) rfl ?_
  refine am_e_aload_n dd_13_18 rfl rfl ?_
  refine am_e_dup dd_13_19 rfl rfl ?_
  refine am_e_gf (ci := 0) (j := 5) (v := am_I ((am_up (am_up M (5, t0, 0) 8 ((M (5, t0, 0) 8) + 1)) (9, t1, i1) 4 ((am_up M (5, t0, 0) 8 ((M (5, t0, 0) 8) + 1)) (5, t0, 0) 8)) (9, t1, i1) 5)) dd_13_20 (by decide +kernel) (am_ct9 ht1 ht1_i1) rfl rfl ?_
  refine am_e_iconst (v := 1) dd_13_23 rfl rfl ?_
  refine am_e_iadd dd_13_24 rfl ?_
  refine am_e_pf (ci := 0) (j := 5) dd_13_25 (by decide +kernel) (am_ct9 ht1 ht1_i1) rfl (Or.inl rfl) rfl ?_
  refine am_e_aload_n dd_13_28 rfl rfl ?_
  refine am_e_iconst (v := 1) dd_13_29 rfl rfl ?_
  refine am_e_pf (ci := 0) (j := 6) dd_13_30 (by decide +kernel) (am_ct9 ht1 ht1_i1) rfl (Or.inr ⟨rfl, Or.inr rfl⟩) rfl ?_
  exact am_e_vret dd_13_33 (by decide +kernel) rfl k

-- 14: CacheLadder$Tier.place(LCacheLadder$Line;I)V
theorem dd_14_0 : decode (am_b 14) 0 = .ok (.aload_n 1, 1) := by decide +kernel
theorem dd_14_1 : decode (am_b 14) 1 = .ok (.iload_n 2, 1) := by decide +kernel
theorem dd_14_2 : decode (am_b 14) 2 = .ok (.putfield 50, 3) := by decide +kernel
theorem dd_14_5 : decode (am_b 14) 5 = .ok (.aload_n 1, 1) := by decide +kernel
theorem dd_14_6 : decode (am_b 14) 6 = .ok (.iconst 0, 1) := by decide +kernel
theorem dd_14_7 : decode (am_b 14) 7 = .ok (.putfield 89, 3) := by decide +kernel
theorem dd_14_10 : decode (am_b 14) 10 = .ok (.aload_n 1, 1) := by decide +kernel
theorem dd_14_11 : decode (am_b 14) 11 = .ok (.iconst 0, 1) := by decide +kernel
theorem dd_14_12 : decode (am_b 14) 12 = .ok (.putfield 77, 3) := by decide +kernel
theorem dd_14_15 : decode (am_b 14) 15 = .ok (.aload_n 0, 1) := by decide +kernel
theorem dd_14_16 : decode (am_b 14) 16 = .ok (.aload_n 1, 1) := by decide +kernel
theorem dd_14_17 : decode (am_b 14) 17 = .ok (.invokevirtual 92, 3) := by decide +kernel
theorem dd_14_20 : decode (am_b 14) 20 = .ok (.aload_n 1, 1) := by decide +kernel
theorem dd_14_21 : decode (am_b 14) 21 = .ok (.aload_n 0, 1) := by decide +kernel
theorem dd_14_22 : decode (am_b 14) 22 = .ok (.getfield 96, 3) := by decide +kernel
theorem dd_14_25 : decode (am_b 14) 25 = .ok (.putfield 80, 3) := by decide +kernel
theorem dd_14_28 : decode (am_b 14) 28 = .ok (.return_, 1) := by decide +kernel
theorem sg_14_0 {sh : am_Sh} {C : Nat → am_M → List am_V → am_O → Prop} {P : am_S ⊕ am_O → Prop} {M : am_M} {t0 : Nat} {t1 : Nat} {i1 : Nat} {x2 : Int32} {M1 : am_M} (ht1 : t1 < sh.1) (ht1_i1 : i1 < sh.2.1 t1) (ht0 : t0 < sh.1) (hc1 : C 13 (am_up (am_up (am_up M (9, t1, i1) 1 x2) (9, t1, i1) 2 0) (9, t1, i1) 5 0) [am_R (some (5, t0, 0)), am_R (some (9, t1, i1))] (M1, Sum.inl none)) (k : P (Sum.inr ((am_up M1 (9, t1, i1) 3 (M1 (5, t0, 0) 8)), Sum.inl none))) : am_ev sh C 14 (0, [some (am_R (some (5, t0, 0))), some (am_R (some (9, t1, i1))), some (am_I x2)], [], M, 0) P := by
  refine am_e_aload_n dd_14_0 rfl rfl ?_
  refine am_e_iload_n dd_14_1 rfl rfl ?_
  refine am_e_pf (ci := 0) (j := 1) dd_14_2 (by decide +kernel) (am_ct9 ht1 ht1_i1) rfl (Or.inl rfl) rfl ?_
  refine am_e_aload_n dd_14_5 rfl rfl ?_
  refine am_e_iconst (v := 0) dd_14_6 rfl rfl ?_
  refine am_e_pf (ci := 0) (j := 2) dd_14_7 (by decide +kernel) (am_ct9 ht1 ht1_i1) rfl (Or.inl rfl) rfl ?_
  refine am_e_aload_n dd_14_10 rfl rfl ?_
  refine am_e_iconst (v := 0) dd_14_11 rfl rfl ?_
  refine am_e_pf (ci := 0) (j := 5) dd_14_12 (by decide +kernel) (am_ct9 ht1 ht1_i1) rfl (Or.inl rfl) rfl ?_
  refine am_e_aload_n dd_14_15 rfl rfl ?_
  refine am_e_aload_n dd_14_16 rfl rfl ?_
  refine am_e_callV (c := 13) (k := 2) (as := [am_R (some (5, t0, 0)), am_R (some (9, t1, i1))]) (S' := []) (v := none) (M' := M1) (n' := 0) dd_14_17 (by decide +kernel) ⟨Nat.le_of_ble_eq_true rfl, Nat.le_of_ble_eq_true rfl, by decide +kernel, (Or.inr (am_rcv_of (am_ct5 ht0)))⟩ rfl rfl (by decide +kernel) hc1 rfl ?_
  refine am_e_aload_n dd_14_20 rfl rfl ?_
  refine am_e_aload_n dd_14_21 rfl rfl ?_
  refine am_e_gf (ci := 1) (j := 8) (v := am_I (M1 (5, t0, 0) 8)) dd_14_22 (by decide +kernel) (am_ct5 ht0) rfl rfl ?_
  refine am_e_pf (ci := 0) (j := 3) dd_14_25 (by decide +kernel) (am_ct9 ht1 ht1_i1) rfl (Or.inl rfl) rfl ?_
  exact am_e_vret dd_14_28 (by decide +kernel) rfl k

-- 15: CacheLadder$Tier.foresee(I)LCacheLadder$Line;
theorem dd_15_0 : decode (am_b 15) 0 = .ok (.aload_n 0, 1) := by decide +kernel
theorem dd_15_1 : decode (am_b 15) 1 = .ok (.getfield 22, 3) := by decide +kernel
theorem dd_15_4 : decode (am_b 15) 4 = .ok (.iconst 2, 1) := by decide +kernel
theorem dd_15_5 : decode (am_b 15) 5 = .ok (.if_icmp .ne 11, 3) := by decide +kernel
theorem dd_15_8 : decode (am_b 15) 8 = .ok (.aload_n 0, 1) := by decide +kernel
theorem dd_15_9 : decode (am_b 15) 9 = .ok (.iload_n 1, 1) := by decide +kernel
theorem dd_15_10 : decode (am_b 15) 10 = .ok (.invokevirtual 67, 3) := by decide +kernel
theorem dd_15_13 : decode (am_b 15) 13 = .ok (.goto 8, 3) := by decide +kernel
theorem dd_15_16 : decode (am_b 15) 16 = .ok (.aload_n 0, 1) := by decide +kernel
theorem dd_15_17 : decode (am_b 15) 17 = .ok (.iload_n 1, 1) := by decide +kernel
theorem dd_15_18 : decode (am_b 15) 18 = .ok (.invokevirtual 64, 3) := by decide +kernel
theorem dd_15_21 : decode (am_b 15) 21 = .ok (.areturn, 1) := by decide +kernel
theorem sg_15_0 {sh : am_Sh} {C : Nat → am_M → List am_V → am_O → Prop} {P : am_S ⊕ am_O → Prop} {M : am_M} {t0 : Nat} {x1 : Int32} (ht0 : t0 < sh.1) (k1 : ¬ (M (5, t0, 0) 2) = 2 → am_ev sh C 15 (16, [some (am_R (some (5, t0, 0))), some (am_I x1)], [], M, 0) P) (k2 : (M (5, t0, 0) 2) = 2 → am_ev sh C 15 (8, [some (am_R (some (5, t0, 0))), some (am_I x1)], [], M, 0) P) : am_ev sh C 15 (0, [some (am_R (some (5, t0, 0))), some (am_I x1)], [], M, 0) P := by
  refine am_e_aload_n dd_15_0 rfl rfl ?_
  refine am_e_gf (ci := 1) (j := 2) (v := am_I (M (5, t0, 0) 2)) dd_15_1 (by decide +kernel) (am_ct5 ht0) rfl rfl ?_
  refine am_e_iconst (v := 2) dd_15_4 rfl rfl ?_
  exact am_a_icmp_ne (tgt := 16) (pc' := 8) dd_15_5 rfl rfl k1 k2

theorem sg_15_8 {sh : am_Sh} {C : Nat → am_M → List am_V → am_O → Prop} {P : am_S ⊕ am_O → Prop} {M : am_M} {t0 : Nat} {x1 : Int32} {M1 : am_M} {oq1 : Option am_K} (ht0 : t0 < sh.1) (hc1 : C 16 M [am_R (some (5, t0, 0)), am_I x1] (M1, Sum.inl (some (am_R oq1)))) (k : am_ev sh C 15 (21, [some (am_R (some (5, t0, 0))), some (am_I x1)], [am_R oq1], M1, 0) P) : am_ev sh C 15 (8, [some (am_R (some (5, t0, 0))), some (am_I x1)], [], M, 0) P := by
  refine am_e_aload_n dd_15_8 rfl rfl ?_
  refine am_e_iload_n dd_15_9 rfl rfl ?_
  refine am_e_callV (c := 16) (k := 2) (as := [am_R (some (5, t0, 0)), am_I x1]) (S' := [am_R oq1]) (v := some (am_R oq1)) (M' := M1) (n' := 0) dd_15_10 (by decide +kernel) ⟨Nat.le_of_ble_eq_true rfl, Nat.le_of_ble_eq_true rfl, by decide +kernel, (Or.inr (am_rcv_of (am_ct5 ht0)))⟩ rfl rfl (by decide +kernel) hc1 rfl ?_
  refine am_e_goto (pc' := 21) dd_15_13 rfl ?_
  exact k

theorem sg_15_16 {sh : am_Sh} {C : Nat → am_M → List am_V → am_O → Prop} {P : am_S ⊕ am_O → Prop} {M : am_M} {t0 : Nat} {x1 : Int32} {M1 : am_M} {oq1 : Option am_K} (ht0 : t0 < sh.1) (hc1 : C 11 M [am_R (some (5, t0, 0)), am_I x1] (M1, Sum.inl (some (am_R oq1)))) (k : am_ev sh C 15 (21, [some (am_R (some (5, t0, 0))), some (am_I x1)], [am_R oq1], M1, 0) P) : am_ev sh C 15 (16, [some (am_R (some (5, t0, 0))), some (am_I x1)], [], M, 0) P := by
  refine am_e_aload_n dd_15_16 rfl rfl ?_
  refine am_e_iload_n dd_15_17 rfl rfl ?_
  refine am_e_callV (c := 11) (k := 2) (as := [am_R (some (5, t0, 0)), am_I x1]) (S' := [am_R oq1]) (v := some (am_R oq1)) (M' := M1) (n' := 0) dd_15_18 (by decide +kernel) ⟨Nat.le_of_ble_eq_true rfl, Nat.le_of_ble_eq_true rfl, by decide +kernel, (Or.inr (am_rcv_of (am_ct5 ht0)))⟩ rfl rfl (by decide +kernel) hc1 rfl ?_
  exact k

theorem sg_15_21 {sh : am_Sh} {C : Nat → am_M → List am_V → am_O → Prop} {P : am_S ⊕ am_O → Prop} {M : am_M} {t0 : Nat} {x1 : Int32} {os0 : Option am_K}  (k : P (Sum.inr (M, Sum.inl (some (am_R os0))))) : am_ev sh C 15 (21, [some (am_R (some (5, t0, 0))), some (am_I x1)], [am_R os0], M, 0) P := by
  exact am_e_aret dd_15_21 (by decide +kernel) rfl k

-- 16: CacheLadder$Tier.aheadOfHand(I)LCacheLadder$Line;
theorem dd_16_0 : decode (am_b 16) 0 = .ok (.aload_n 0, 1) := by decide +kernel
theorem dd_16_1 : decode (am_b 16) 1 = .ok (.getfield 39, 3) := by decide +kernel
theorem dd_16_4 : decode (am_b 16) 4 = .ok (.iload_n 1, 1) := by decide +kernel
theorem dd_16_5 : decode (am_b 16) 5 = .ok (.iaload, 1) := by decide +kernel
theorem dd_16_6 : decode (am_b 16) 6 = .ok (.istore_n 2, 1) := by decide +kernel
theorem dd_16_7 : decode (am_b 16) 7 = .ok (.iconst 0, 1) := by decide +kernel
theorem dd_16_8 : decode (am_b 16) 8 = .ok (.istore_n 3, 1) := by decide +kernel
theorem dd_16_9 : decode (am_b 16) 9 = .ok (.iload_n 3, 1) := by decide +kernel
theorem dd_16_10 : decode (am_b 16) 10 = .ok (.aload_n 0, 1) := by decide +kernel
theorem dd_16_11 : decode (am_b 16) 11 = .ok (.getfield 19, 3) := by decide +kernel
theorem dd_16_14 : decode (am_b 16) 14 = .ok (.if_icmp .ge 30, 3) := by decide +kernel
theorem dd_16_17 : decode (am_b 16) 17 = .ok (.aload_n 0, 1) := by decide +kernel
theorem dd_16_18 : decode (am_b 16) 18 = .ok (.iload_n 1, 1) := by decide +kernel
theorem dd_16_19 : decode (am_b 16) 19 = .ok (.iload_n 2, 1) := by decide +kernel
theorem dd_16_20 : decode (am_b 16) 20 = .ok (.invokevirtual 46, 3) := by decide +kernel
theorem dd_16_23 : decode (am_b 16) 23 = .ok (.getfield 86, 3) := by decide +kernel
theorem dd_16_26 : decode (am_b 16) 26 = .ok (.ifCond .ne 6, 3) := by decide +kernel
theorem dd_16_29 : decode (am_b 16) 29 = .ok (.goto 15, 3) := by decide +kernel
theorem dd_16_32 : decode (am_b 16) 32 = .ok (.aload_n 0, 1) := by decide +kernel
theorem dd_16_33 : decode (am_b 16) 33 = .ok (.iload_n 2, 1) := by decide +kernel
theorem dd_16_34 : decode (am_b 16) 34 = .ok (.invokevirtual 83, 3) := by decide +kernel
theorem dd_16_37 : decode (am_b 16) 37 = .ok (.istore_n 2, 1) := by decide +kernel
theorem dd_16_38 : decode (am_b 16) 38 = .ok (.iinc 3 1, 3) := by decide +kernel
theorem dd_16_41 : decode (am_b 16) 41 = .ok (.goto (-32), 3) := by decide +kernel
theorem dd_16_44 : decode (am_b 16) 44 = .ok (.aload_n 0, 1) := by decide +kernel
theorem dd_16_45 : decode (am_b 16) 45 = .ok (.iload_n 1, 1) := by decide +kernel
theorem dd_16_46 : decode (am_b 16) 46 = .ok (.iload_n 2, 1) := by decide +kernel
theorem dd_16_47 : decode (am_b 16) 47 = .ok (.invokevirtual 46, 3) := by decide +kernel
theorem dd_16_50 : decode (am_b 16) 50 = .ok (.areturn, 1) := by decide +kernel
theorem sg_16_0 {sh : am_Sh} {C : Nat → am_M → List am_V → am_O → Prop} {P : am_S ⊕ am_O → Prop} {M : am_M} {t0 : Nat} {x1 : Int32} {u2 : Option am_V} {u3 : Option am_V} {j1 : Nat} (ht0 : t0 < sh.1) (hok : am_shok sh) (hx_j1 : x1 = nI j1) (hl_j1 : j1 < (sh.2.2.1 t0)) (k : am_ev sh C 16 (9, [some (am_R (some (5, t0, 0))), some (am_I x1), some (am_I (M (7, t0, 0) j1)), some (am_I 0)], [], M, 0) P) : am_ev sh C 16 (0, [some (am_R (some (5, t0, 0))), some (am_I x1), u2, u3], [], M, 0) P := by
  refine am_e_aload_n dd_16_0 rfl rfl ?_
  refine am_e_gf (ci := 1) (j := 6) (v := am_R (some (7, t0, 0))) dd_16_1 (by decide +kernel) (am_ct5 ht0) rfl rfl ?_
  refine am_e_iload_n dd_16_4 rfl rfl ?_
  refine am_a_iald dd_16_5 (am_ct7 ht0) hx_j1 hl_j1 (Nat.lt_of_le_of_lt (hok t0).2 (by decide)) rfl ?_
  refine am_e_istore_n dd_16_6 (Nat.le_of_ble_eq_true rfl) rfl rfl ?_
  refine am_e_iconst (v := 0) dd_16_7 rfl rfl ?_
  refine am_e_istore_n dd_16_8 (Nat.le_of_ble_eq_true rfl) rfl rfl ?_
  exact k

theorem sg_16_9 {sh : am_Sh} {C : Nat → am_M → List am_V → am_O → Prop} {P : am_S ⊕ am_O → Prop} {M : am_M} {t0 : Nat} {x1 : Int32} {x2 : Int32} {x3 : Int32} (ht0 : t0 < sh.1) (k1 : (M (5, t0, 0) 1) ≤ x3 → am_ev sh C 16 (44, [some (am_R (some (5, t0, 0))), some (am_I x1), some (am_I x2), some (am_I x3)], [], M, 0) P) (k2 : ¬ (M (5, t0, 0) 1) ≤ x3 → am_ev sh C 16 (17, [some (am_R (some (5, t0, 0))), some (am_I x1), some (am_I x2), some (am_I x3)], [], M, 0) P) : am_ev sh C 16 (9, [some (am_R (some (5, t0, 0))), some (am_I x1), some (am_I x2), some (am_I x3)], [], M, 0) P := by
  refine am_e_iload_n dd_16_9 rfl rfl ?_
  refine am_e_aload_n dd_16_10 rfl rfl ?_
  refine am_e_gf (ci := 1) (j := 1) (v := am_I (M (5, t0, 0) 1)) dd_16_11 (by decide +kernel) (am_ct5 ht0) rfl rfl ?_
  exact am_a_icmp_ge (tgt := 44) (pc' := 17) dd_16_14 rfl rfl k1 k2

theorem sg_16_17 {sh : am_Sh} {C : Nat → am_M → List am_V → am_O → Prop} {P : am_S ⊕ am_O → Prop} {M : am_M} {t0 : Nat} {x1 : Int32} {x2 : Int32} {x3 : Int32} {M1 : am_M} {tq1 : Nat} {iq1 : Nat} (ht0 : t0 < sh.1) (hc1 : C 5 M [am_R (some (5, t0, 0)), am_I x1, am_I x2] (M1, Sum.inl (some (am_R (some (9, tq1, iq1)))))) (ht_tq1 : tq1 < sh.1) (htq1_iq1 : iq1 < sh.2.1 tq1) (k1 : ¬ (M1 (9, tq1, iq1) 6) = 0 → am_ev sh C 16 (32, [some (am_R (some (5, t0, 0))), some (am_I x1), some (am_I x2), some (am_I x3)], [], M1, 0) P) (k2 : (M1 (9, tq1, iq1) 6) = 0 → am_ev sh C 16 (29, [some (am_R (some (5, t0, 0))), some (am_I x1), some (am_I x2), some (am_I x3)], [], M1, 0) P) : am_ev sh C 16 (17, [some (am_R (some (5, t0, 0))), some (am_I x1), some (am_I x2), some (am_I x3)], [], M, 0) P := by
  refine am_e_aload_n dd_16_17 rfl rfl ?_
  refine am_e_iload_n dd_16_18 rfl rfl ?_
  refine am_e_iload_n dd_16_19 rfl rfl ?_
  refine am_e_callV (c := 5) (k := 3) (as := [am_R (some (5, t0, 0)), am_I x1, am_I x2]) (S' := [am_R (some (9, tq1, iq1))]) (v := some (am_R (some (9, tq1, iq1)))) (M' := M1) (n' := 0) dd_16_20 (by decide +kernel) ⟨Nat.le_of_ble_eq_true rfl, Nat.le_of_ble_eq_true rfl, by decide +kernel, (Or.inr (am_rcv_of (am_ct5 ht0)))⟩ rfl rfl (by decide +kernel) hc1 rfl ?_
  refine am_e_gf (ci := 0) (j := 6) (v := am_I (M1 (9, tq1, iq1) 6)) dd_16_23 (by decide +kernel) (am_ct9 ht_tq1 htq1_iq1) rfl rfl ?_
  exact am_a_if_ne (tgt := 32) (pc' := 29) dd_16_26 rfl rfl k1 k2

theorem sg_16_29 {sh : am_Sh} {C : Nat → am_M → List am_V → am_O → Prop} {P : am_S ⊕ am_O → Prop} {M : am_M} {t0 : Nat} {x1 : Int32} {x2 : Int32} {x3 : Int32}  (k : am_ev sh C 16 (44, [some (am_R (some (5, t0, 0))), some (am_I x1), some (am_I x2), some (am_I x3)], [], M, 0) P) : am_ev sh C 16 (29, [some (am_R (some (5, t0, 0))), some (am_I x1), some (am_I x2), some (am_I x3)], [], M, 0) P := by
  refine am_e_goto (pc' := 44) dd_16_29 rfl ?_
  exact k

theorem sg_16_32 {sh : am_Sh} {C : Nat → am_M → List am_V → am_O → Prop} {P : am_S ⊕ am_O → Prop} {M : am_M} {t0 : Nat} {x1 : Int32} {x2 : Int32} {x3 : Int32} {M1 : am_M} {r1 : Int32} (ht0 : t0 < sh.1) (hc1 : C 10 M [am_R (some (5, t0, 0)), am_I x2] (M1, Sum.inl (some (am_I r1)))) (k : am_ev sh C 16 (9, [some (am_R (some (5, t0, 0))), some (am_I x1), some (am_I r1), some (am_I (x3 + 1))], [], M1, 0) P) : am_ev sh C 16 (32, [some (am_R (some (5, t0, 0))), some (am_I x1), some (am_I x2), some (am_I x3)], [], M, 0) P := by
  refine am_e_aload_n dd_16_32 rfl rfl ?_
  refine am_e_iload_n dd_16_33 rfl rfl ?_
  refine am_e_callV (c := 10) (k := 2) (as := [am_R (some (5, t0, 0)), am_I x2]) (S' := [am_I r1]) (v := some (am_I r1)) (M' := M1) (n' := 0) dd_16_34 (by decide +kernel) ⟨Nat.le_of_ble_eq_true rfl, Nat.le_of_ble_eq_true rfl, by decide +kernel, (Or.inr (am_rcv_of (am_ct5 ht0)))⟩ rfl rfl (by decide +kernel) hc1 rfl ?_
  refine am_e_istore_n dd_16_37 (Nat.le_of_ble_eq_true rfl) rfl rfl ?_
  refine am_e_iinc (v := x3 + 1) dd_16_38 rfl rfl rfl rfl ?_
  refine am_e_goto (pc' := 9) dd_16_41 rfl ?_
  exact k

theorem sg_16_44 {sh : am_Sh} {C : Nat → am_M → List am_V → am_O → Prop} {P : am_S ⊕ am_O → Prop} {M : am_M} {t0 : Nat} {x1 : Int32} {x2 : Int32} {x3 : Int32} {M1 : am_M} {oq1 : Option am_K} (ht0 : t0 < sh.1) (hc1 : C 5 M [am_R (some (5, t0, 0)), am_I x1, am_I x2] (M1, Sum.inl (some (am_R oq1)))) (k : P (Sum.inr (M1, Sum.inl (some (am_R oq1))))) : am_ev sh C 16 (44, [some (am_R (some (5, t0, 0))), some (am_I x1), some (am_I x2), some (am_I x3)], [], M, 0) P := by
  refine am_e_aload_n dd_16_44 rfl rfl ?_
  refine am_e_iload_n dd_16_45 rfl rfl ?_
  refine am_e_iload_n dd_16_46 rfl rfl ?_
  refine am_e_callV (c := 5) (k := 3) (as := [am_R (some (5, t0, 0)), am_I x1, am_I x2]) (S' := [am_R oq1]) (v := some (am_R oq1)) (M' := M1) (n' := 0) dd_16_47 (by decide +kernel) ⟨Nat.le_of_ble_eq_true rfl, Nat.le_of_ble_eq_true rfl, by decide +kernel, (Or.inr (am_rcv_of (am_ct5 ht0)))⟩ rfl rfl (by decide +kernel) hc1 rfl ?_
  exact am_e_aret dd_16_50 (by decide +kernel) rfl k

-- 17: CacheLadder.crash()I
theorem dd_17_0 : decode (am_b 17) 0 = .ok (.iconst 0, 1) := by decide +kernel
theorem dd_17_1 : decode (am_b 17) 1 = .ok (.istore_n 1, 1) := by decide +kernel
theorem dd_17_2 : decode (am_b 17) 2 = .ok (.iconst 0, 1) := by decide +kernel
theorem dd_17_3 : decode (am_b 17) 3 = .ok (.istore_n 2, 1) := by decide +kernel
theorem dd_17_4 : decode (am_b 17) 4 = .ok (.iload_n 2, 1) := by decide +kernel
theorem dd_17_5 : decode (am_b 17) 5 = .ok (.sipush 256, 3) := by decide +kernel
theorem dd_17_8 : decode (am_b 17) 8 = .ok (.if_icmp .ge 27, 3) := by decide +kernel
theorem dd_17_11 : decode (am_b 17) 11 = .ok (.aload_n 0, 1) := by decide +kernel
theorem dd_17_12 : decode (am_b 17) 12 = .ok (.iload_n 2, 1) := by decide +kernel
theorem dd_17_13 : decode (am_b 17) 13 = .ok (.invokevirtual 90, 3) := by decide +kernel
theorem dd_17_16 : decode (am_b 17) 16 = .ok (.astore_n 3, 1) := by decide +kernel
theorem dd_17_17 : decode (am_b 17) 17 = .ok (.aload_n 3, 1) := by decide +kernel
theorem dd_17_18 : decode (am_b 17) 18 = .ok (.ifnull 11, 3) := by decide +kernel
theorem dd_17_21 : decode (am_b 17) 21 = .ok (.iload_n 1, 1) := by decide +kernel
theorem dd_17_22 : decode (am_b 17) 22 = .ok (.aload_n 0, 1) := by decide +kernel
theorem dd_17_23 : decode (am_b 17) 23 = .ok (.aload_n 3, 1) := by decide +kernel
theorem dd_17_24 : decode (am_b 17) 24 = .ok (.invokevirtual 118, 3) := by decide +kernel
theorem dd_17_27 : decode (am_b 17) 27 = .ok (.iadd, 1) := by decide +kernel
theorem dd_17_28 : decode (am_b 17) 28 = .ok (.istore_n 1, 1) := by decide +kernel
theorem dd_17_29 : decode (am_b 17) 29 = .ok (.iinc 2 1, 3) := by decide +kernel
theorem dd_17_32 : decode (am_b 17) 32 = .ok (.goto (-28), 3) := by decide +kernel
theorem dd_17_35 : decode (am_b 17) 35 = .ok (.iconst 0, 1) := by decide +kernel
theorem dd_17_36 : decode (am_b 17) 36 = .ok (.istore_n 2, 1) := by decide +kernel
theorem dd_17_37 : decode (am_b 17) 37 = .ok (.iload_n 2, 1) := by decide +kernel
theorem dd_17_38 : decode (am_b 17) 38 = .ok (.aload_n 0, 1) := by decide +kernel
theorem dd_17_39 : decode (am_b 17) 39 = .ok (.getfield 38, 3) := by decide +kernel
theorem dd_17_42 : decode (am_b 17) 42 = .ok (.if_icmp .ge 18, 3) := by decide +kernel
theorem dd_17_45 : decode (am_b 17) 45 = .ok (.aload_n 0, 1) := by decide +kernel
theorem dd_17_46 : decode (am_b 17) 46 = .ok (.getfield 15, 3) := by decide +kernel
theorem dd_17_49 : decode (am_b 17) 49 = .ok (.iload_n 2, 1) := by decide +kernel
theorem dd_17_50 : decode (am_b 17) 50 = .ok (.aaload, 1) := by decide +kernel
theorem dd_17_51 : decode (am_b 17) 51 = .ok (.invokevirtual 122, 3) := by decide +kernel
theorem dd_17_54 : decode (am_b 17) 54 = .ok (.iinc 2 1, 3) := by decide +kernel
theorem dd_17_57 : decode (am_b 17) 57 = .ok (.goto (-20), 3) := by decide +kernel
theorem dd_17_60 : decode (am_b 17) 60 = .ok (.iload_n 1, 1) := by decide +kernel
theorem dd_17_61 : decode (am_b 17) 61 = .ok (.ireturn, 1) := by decide +kernel
theorem sg_17_0 {sh : am_Sh} {C : Nat → am_M → List am_V → am_O → Prop} {P : am_S ⊕ am_O → Prop} {M : am_M} {u1 : Option am_V} {u2 : Option am_V} {u3 : Option am_V}  (k : am_ev sh C 17 (4, [some (am_R (some (0, 0, 0))), some (am_I 0), some (am_I 0), u3], [], M, 0) P) : am_ev sh C 17 (0, [some (am_R (some (0, 0, 0))), u1, u2, u3], [], M, 0) P := by
  refine am_e_iconst (v := 0) dd_17_0 rfl rfl ?_
  refine am_e_istore_n dd_17_1 (Nat.le_of_ble_eq_true rfl) rfl rfl ?_
  refine am_e_iconst (v := 0) dd_17_2 rfl rfl ?_
  refine am_e_istore_n dd_17_3 (Nat.le_of_ble_eq_true rfl) rfl rfl ?_
  exact k

theorem sg_17_4 {sh : am_Sh} {C : Nat → am_M → List am_V → am_O → Prop} {P : am_S ⊕ am_O → Prop} {M : am_M} {x1 : Int32} {x2 : Int32} {u3 : Option am_V}  (k1 : 256 ≤ x2 → am_ev sh C 17 (35, [some (am_R (some (0, 0, 0))), some (am_I x1), some (am_I x2), u3], [], M, 0) P) (k2 : ¬ 256 ≤ x2 → am_ev sh C 17 (11, [some (am_R (some (0, 0, 0))), some (am_I x1), some (am_I x2), u3], [], M, 0) P) : am_ev sh C 17 (4, [some (am_R (some (0, 0, 0))), some (am_I x1), some (am_I x2), u3], [], M, 0) P := by
  refine am_e_iload_n dd_17_4 rfl rfl ?_
  refine am_e_sipush (v := 256) dd_17_5 (by decide) rfl ?_
  exact am_a_icmp_ge (tgt := 35) (pc' := 11) dd_17_8 rfl rfl k1 k2

theorem sg_17_11 {sh : am_Sh} {C : Nat → am_M → List am_V → am_O → Prop} {P : am_S ⊕ am_O → Prop} {M : am_M} {x1 : Int32} {x2 : Int32} {u3 : Option am_V} {M1 : am_M} {oq1 : Option am_K} (hc1 : C 18 M [am_R (some (0, 0, 0)), am_I x2] (M1, Sum.inl (some (am_R oq1)))) (k1 : (oq1 = none → am_ev sh C 17 (29, [some (am_R (some (0, 0, 0))), some (am_I x1), some (am_I x2), some (am_R oq1)], [], M1, 0) P)) (k2 : ∀ k, oq1 = some k → am_ev sh C 17 (21, [some (am_R (some (0, 0, 0))), some (am_I x1), some (am_I x2), some (am_R oq1)], [], M1, 0) P) : am_ev sh C 17 (11, [some (am_R (some (0, 0, 0))), some (am_I x1), some (am_I x2), u3], [], M, 0) P := by
  refine am_e_aload_n dd_17_11 rfl rfl ?_
  refine am_e_iload_n dd_17_12 rfl rfl ?_
  refine am_e_callV (c := 18) (k := 2) (as := [am_R (some (0, 0, 0)), am_I x2]) (S' := [am_R oq1]) (v := some (am_R oq1)) (M' := M1) (n' := 0) dd_17_13 (by decide +kernel) ⟨Nat.le_of_ble_eq_true rfl, Nat.le_of_ble_eq_true rfl, by decide +kernel, (Or.inr (am_rcv_of rfl))⟩ rfl rfl (by decide +kernel) hc1 rfl ?_
  refine am_e_astore_n dd_17_16 (Nat.le_of_ble_eq_true rfl) rfl rfl ?_
  refine am_e_aload_n dd_17_17 rfl rfl ?_
  exact am_e_ifnull (tgt := 29) (pc' := 21) dd_17_18 rfl rfl k1 k2

theorem sg_17_21 {sh : am_Sh} {C : Nat → am_M → List am_V → am_O → Prop} {P : am_S ⊕ am_O → Prop} {M : am_M} {x1 : Int32} {x2 : Int32} {o3 : Option am_K} {M1 : am_M} {r1 : Int32} (hc1 : C 19 M [am_R (some (0, 0, 0)), am_R o3] (M1, Sum.inl (some (am_I r1)))) (k : am_ev sh C 17 (29, [some (am_R (some (0, 0, 0))), some (am_I (x1 + r1)), some (am_I x2), some (am_R o3)], [], M1, 0) P) : am_ev sh C 17 (21, [some (am_R (some (0, 0, 0))), some (am_I x1), some (am_I x2), some (am_R o3)], [], M, 0) P := by
  refine am_e_iload_n dd_17_21 rfl rfl ?_
  refine am_e_aload_n dd_17_22 rfl rfl ?_
  refine am_e_aload_n dd_17_23 rfl rfl ?_
  refine am_e_callV (c := 19) (k := 2) (as := [am_R (some (0, 0, 0)), am_R o3]) (S' := [am_I r1, am_I x1]) (v := some (am_I r1)) (M' := M1) (n' := 0) dd_17_24 (by decide +kernel) ⟨Nat.le_of_ble_eq_true rfl, Nat.le_of_ble_eq_true rfl, by decide +kernel, (Or.inr (am_rcv_of rfl))⟩ rfl rfl (by decide +kernel) hc1 rfl ?_
  refine am_e_iadd dd_17_27 rfl ?_
  refine am_e_istore_n dd_17_28 (Nat.le_of_ble_eq_true rfl) rfl rfl ?_
  exact k

theorem sg_17_29 {sh : am_Sh} {C : Nat → am_M → List am_V → am_O → Prop} {P : am_S ⊕ am_O → Prop} {M : am_M} {x1 : Int32} {x2 : Int32} {o3 : Option am_K}  (k : am_ev sh C 17 (4, [some (am_R (some (0, 0, 0))), some (am_I x1), some (am_I (x2 + 1)), some (am_R o3)], [], M, 0) P) : am_ev sh C 17 (29, [some (am_R (some (0, 0, 0))), some (am_I x1), some (am_I x2), some (am_R o3)], [], M, 0) P := by
  refine am_e_iinc (v := x2 + 1) dd_17_29 rfl rfl rfl rfl ?_
  refine am_e_goto (pc' := 4) dd_17_32 rfl ?_
  exact k

theorem sg_17_35 {sh : am_Sh} {C : Nat → am_M → List am_V → am_O → Prop} {P : am_S ⊕ am_O → Prop} {M : am_M} {x1 : Int32} {x2 : Int32} {u3 : Option am_V}  (k : am_ev sh C 17 (37, [some (am_R (some (0, 0, 0))), some (am_I x1), some (am_I 0), u3], [], M, 0) P) : am_ev sh C 17 (35, [some (am_R (some (0, 0, 0))), some (am_I x1), some (am_I x2), u3], [], M, 0) P := by
  refine am_e_iconst (v := 0) dd_17_35 rfl rfl ?_
  refine am_e_istore_n dd_17_36 (Nat.le_of_ble_eq_true rfl) rfl rfl ?_
  exact k

theorem sg_17_37 {sh : am_Sh} {C : Nat → am_M → List am_V → am_O → Prop} {P : am_S ⊕ am_O → Prop} {M : am_M} {x1 : Int32} {x2 : Int32} {u3 : Option am_V}  (k1 : (M (0, 0, 0) 4) ≤ x2 → am_ev sh C 17 (60, [some (am_R (some (0, 0, 0))), some (am_I x1), some (am_I x2), u3], [], M, 0) P) (k2 : ¬ (M (0, 0, 0) 4) ≤ x2 → am_ev sh C 17 (45, [some (am_R (some (0, 0, 0))), some (am_I x1), some (am_I x2), u3], [], M, 0) P) : am_ev sh C 17 (37, [some (am_R (some (0, 0, 0))), some (am_I x1), some (am_I x2), u3], [], M, 0) P := by
  refine am_e_iload_n dd_17_37 rfl rfl ?_
  refine am_e_aload_n dd_17_38 rfl rfl ?_
  refine am_e_gf (ci := 2) (j := 4) (v := am_I (M (0, 0, 0) 4)) dd_17_39 (by decide +kernel) rfl rfl rfl ?_
  exact am_a_icmp_ge (tgt := 60) (pc' := 45) dd_17_42 rfl rfl k1 k2

theorem sg_17_45 {sh : am_Sh} {C : Nat → am_M → List am_V → am_O → Prop} {P : am_S ⊕ am_O → Prop} {M : am_M} {x1 : Int32} {x2 : Int32} {u3 : Option am_V} {t91 : Nat} {M1 : am_M} (hx_t91 : x2 = nI t91) (ht91 : t91 < sh.1) (hh4 : sh.1 ≤ 4) (hc1 : C 6 M [am_R (some (5, t91, 0))] (M1, Sum.inl none)) (k : am_ev sh C 17 (37, [some (am_R (some (0, 0, 0))), some (am_I x1), some (am_I (x2 + 1)), u3], [], M1, 0) P) : am_ev sh C 17 (45, [some (am_R (some (0, 0, 0))), some (am_I x1), some (am_I x2), u3], [], M, 0) P := by
  refine am_e_aload_n dd_17_45 rfl rfl ?_
  refine am_e_gf (ci := 2) (j := 1) (v := am_R (some (2, 0, 0))) dd_17_46 (by decide +kernel) rfl rfl rfl ?_
  refine am_e_iload_n dd_17_49 rfl rfl ?_
  refine am_a_rald dd_17_50 rfl (Or.inl rfl) hx_t91 (Nat.lt_of_lt_of_le ht91 hh4) (by decide) (am_rf2 ht91) rfl ?_
  refine am_e_callV (c := 6) (k := 1) (as := [am_R (some (5, t91, 0))]) (S' := []) (v := none) (M' := M1) (n' := 0) dd_17_51 (by decide +kernel) ⟨Nat.le_of_ble_eq_true rfl, Nat.le_of_ble_eq_true rfl, by decide +kernel, (Or.inr (am_rcv_of (am_ct5 ht91)))⟩ rfl rfl (by decide +kernel) hc1 rfl ?_
  refine am_e_iinc (v := x2 + 1) dd_17_54 rfl rfl rfl rfl ?_
  refine am_e_goto (pc' := 37) dd_17_57 rfl ?_
  exact k

theorem sg_17_60 {sh : am_Sh} {C : Nat → am_M → List am_V → am_O → Prop} {P : am_S ⊕ am_O → Prop} {M : am_M} {x1 : Int32} {x2 : Int32} {u3 : Option am_V}  (k : P (Sum.inr (M, Sum.inl (some (am_I x1))))) : am_ev sh C 17 (60, [some (am_R (some (0, 0, 0))), some (am_I x1), some (am_I x2), u3], [], M, 0) P := by
  refine am_e_iload_n dd_17_60 rfl rfl ?_
  exact am_e_iret dd_17_61 (by decide +kernel) (Or.inl rfl) k

-- 18: CacheLadder.uppermost(I)LCacheLadder$Line;
theorem dd_18_0 : decode (am_b 18) 0 = .ok (.iconst 0, 1) := by decide +kernel
theorem dd_18_1 : decode (am_b 18) 1 = .ok (.istore_n 2, 1) := by decide +kernel
theorem dd_18_2 : decode (am_b 18) 2 = .ok (.iload_n 2, 1) := by decide +kernel
theorem dd_18_3 : decode (am_b 18) 3 = .ok (.aload_n 0, 1) := by decide +kernel
theorem dd_18_4 : decode (am_b 18) 4 = .ok (.getfield 38, 3) := by decide +kernel
theorem dd_18_7 : decode (am_b 18) 7 = .ok (.if_icmp .ge 26, 3) := by decide +kernel
theorem dd_18_10 : decode (am_b 18) 10 = .ok (.aload_n 0, 1) := by decide +kernel
theorem dd_18_11 : decode (am_b 18) 11 = .ok (.getfield 15, 3) := by decide +kernel
theorem dd_18_14 : decode (am_b 18) 14 = .ok (.iload_n 2, 1) := by decide +kernel
theorem dd_18_15 : decode (am_b 18) 15 = .ok (.aaload, 1) := by decide +kernel
theorem dd_18_16 : decode (am_b 18) 16 = .ok (.iload_n 1, 1) := by decide +kernel
theorem dd_18_17 : decode (am_b 18) 17 = .ok (.invokevirtual 157, 3) := by decide +kernel
theorem dd_18_20 : decode (am_b 18) 20 = .ok (.astore_n 3, 1) := by decide +kernel
theorem dd_18_21 : decode (am_b 18) 21 = .ok (.aload_n 3, 1) := by decide +kernel
theorem dd_18_22 : decode (am_b 18) 22 = .ok (.ifnull 5, 3) := by decide +kernel
theorem dd_18_25 : decode (am_b 18) 25 = .ok (.aload_n 3, 1) := by decide +kernel
theorem dd_18_26 : decode (am_b 18) 26 = .ok (.areturn, 1) := by decide +kernel
theorem dd_18_27 : decode (am_b 18) 27 = .ok (.iinc 2 1, 3) := by decide +kernel
theorem dd_18_30 : decode (am_b 18) 30 = .ok (.goto (-28), 3) := by decide +kernel
theorem dd_18_33 : decode (am_b 18) 33 = .ok (.aconst_null, 1) := by decide +kernel
theorem dd_18_34 : decode (am_b 18) 34 = .ok (.areturn, 1) := by decide +kernel
theorem sg_18_0 {sh : am_Sh} {C : Nat → am_M → List am_V → am_O → Prop} {P : am_S ⊕ am_O → Prop} {M : am_M} {x1 : Int32} {u2 : Option am_V} {u3 : Option am_V}  (k : am_ev sh C 18 (2, [some (am_R (some (0, 0, 0))), some (am_I x1), some (am_I 0), u3], [], M, 0) P) : am_ev sh C 18 (0, [some (am_R (some (0, 0, 0))), some (am_I x1), u2, u3], [], M, 0) P := by
  refine am_e_iconst (v := 0) dd_18_0 rfl rfl ?_
  refine am_e_istore_n dd_18_1 (Nat.le_of_ble_eq_true rfl) rfl rfl ?_
  exact k

theorem sg_18_2 {sh : am_Sh} {C : Nat → am_M → List am_V → am_O → Prop} {P : am_S ⊕ am_O → Prop} {M : am_M} {x1 : Int32} {x2 : Int32} {u3 : Option am_V}  (k1 : (M (0, 0, 0) 4) ≤ x2 → am_ev sh C 18 (33, [some (am_R (some (0, 0, 0))), some (am_I x1), some (am_I x2), u3], [], M, 0) P) (k2 : ¬ (M (0, 0, 0) 4) ≤ x2 → am_ev sh C 18 (10, [some (am_R (some (0, 0, 0))), some (am_I x1), some (am_I x2), u3], [], M, 0) P) : am_ev sh C 18 (2, [some (am_R (some (0, 0, 0))), some (am_I x1), some (am_I x2), u3], [], M, 0) P := by
  refine am_e_iload_n dd_18_2 rfl rfl ?_
  refine am_e_aload_n dd_18_3 rfl rfl ?_
  refine am_e_gf (ci := 2) (j := 4) (v := am_I (M (0, 0, 0) 4)) dd_18_4 (by decide +kernel) rfl rfl rfl ?_
  exact am_a_icmp_ge (tgt := 33) (pc' := 10) dd_18_7 rfl rfl k1 k2

theorem sg_18_10 {sh : am_Sh} {C : Nat → am_M → List am_V → am_O → Prop} {P : am_S ⊕ am_O → Prop} {M : am_M} {x1 : Int32} {x2 : Int32} {u3 : Option am_V} {t91 : Nat} {M1 : am_M} {oq1 : Option am_K} (hx_t91 : x2 = nI t91) (ht91 : t91 < sh.1) (hh4 : sh.1 ≤ 4) (hc1 : C 2 M [am_R (some (5, t91, 0)), am_I x1] (M1, Sum.inl (some (am_R oq1)))) (k1 : (oq1 = none → am_ev sh C 18 (27, [some (am_R (some (0, 0, 0))), some (am_I x1), some (am_I x2), some (am_R oq1)], [], M1, 0) P)) (k2 : ∀ k, oq1 = some k → am_ev sh C 18 (25, [some (am_R (some (0, 0, 0))), some (am_I x1), some (am_I x2), some (am_R oq1)], [], M1, 0) P) : am_ev sh C 18 (10, [some (am_R (some (0, 0, 0))), some (am_I x1), some (am_I x2), u3], [], M, 0) P := by
  refine am_e_aload_n dd_18_10 rfl rfl ?_
  refine am_e_gf (ci := 2) (j := 1) (v := am_R (some (2, 0, 0))) dd_18_11 (by decide +kernel) rfl rfl rfl ?_
  refine am_e_iload_n dd_18_14 rfl rfl ?_
  refine am_a_rald dd_18_15 rfl (Or.inl rfl) hx_t91 (Nat.lt_of_lt_of_le ht91 hh4) (by decide) (am_rf2 ht91) rfl ?_
  refine am_e_iload_n dd_18_16 rfl rfl ?_
  refine am_e_callV (c := 2) (k := 2) (as := [am_R (some (5, t91, 0)), am_I x1]) (S' := [am_R oq1]) (v := some (am_R oq1)) (M' := M1) (n' := 0) dd_18_17 (by decide +kernel) ⟨Nat.le_of_ble_eq_true rfl, Nat.le_of_ble_eq_true rfl, by decide +kernel, (Or.inr (am_rcv_of (am_ct5 ht91)))⟩ rfl rfl (by decide +kernel) hc1 rfl ?_
  refine am_e_astore_n dd_18_20 (Nat.le_of_ble_eq_true rfl) rfl rfl ?_
  refine am_e_aload_n dd_18_21 rfl rfl ?_
  exact am_e_ifnull (tgt := 27) (pc' := 25) dd_18_22 rfl rfl k1 k2

theorem sg_18_25 {sh : am_Sh} {C : Nat → am_M → List am_V → am_O → Prop} {P : am_S ⊕ am_O → Prop} {M : am_M} {x1 : Int32} {x2 : Int32} {o3 : Option am_K}  (k : P (Sum.inr (M, Sum.inl (some (am_R o3))))) : am_ev sh C 18 (25, [some (am_R (some (0, 0, 0))), some (am_I x1), some (am_I x2), some (am_R o3)], [], M, 0) P := by
  refine am_e_aload_n dd_18_25 rfl rfl ?_
  exact am_e_aret dd_18_26 (by decide +kernel) rfl k

theorem sg_18_27 {sh : am_Sh} {C : Nat → am_M → List am_V → am_O → Prop} {P : am_S ⊕ am_O → Prop} {M : am_M} {x1 : Int32} {x2 : Int32} {o3 : Option am_K}  (k : am_ev sh C 18 (2, [some (am_R (some (0, 0, 0))), some (am_I x1), some (am_I (x2 + 1)), some (am_R o3)], [], M, 0) P) : am_ev sh C 18 (27, [some (am_R (some (0, 0, 0))), some (am_I x1), some (am_I x2), some (am_R o3)], [], M, 0) P := by
  refine am_e_iinc (v := x2 + 1) dd_18_27 rfl rfl rfl rfl ?_
  refine am_e_goto (pc' := 2) dd_18_30 rfl ?_
  exact k

theorem sg_18_33 {sh : am_Sh} {C : Nat → am_M → List am_V → am_O → Prop} {P : am_S ⊕ am_O → Prop} {M : am_M} {x1 : Int32} {x2 : Int32} {u3 : Option am_V}  (k : P (Sum.inr (M, Sum.inl (some (am_R none))))) : am_ev sh C 18 (33, [some (am_R (some (0, 0, 0))), some (am_I x1), some (am_I x2), u3], [], M, 0) P := by
  refine am_e_null dd_18_33 rfl ?_
  exact am_e_aret dd_18_34 (by decide +kernel) rfl k

-- 19: CacheLadder.wordsUnlikeStore(LCacheLadder$Line;)I
theorem dd_19_0 : decode (am_b 19) 0 = .ok (.iconst 0, 1) := by decide +kernel
theorem dd_19_1 : decode (am_b 19) 1 = .ok (.istore_n 2, 1) := by decide +kernel
theorem dd_19_2 : decode (am_b 19) 2 = .ok (.iconst 0, 1) := by decide +kernel
theorem dd_19_3 : decode (am_b 19) 3 = .ok (.istore_n 3, 1) := by decide +kernel
theorem dd_19_4 : decode (am_b 19) 4 = .ok (.iload_n 3, 1) := by decide +kernel
theorem dd_19_5 : decode (am_b 19) 5 = .ok (.iconst 4, 1) := by decide +kernel
theorem dd_19_6 : decode (am_b 19) 6 = .ok (.if_icmp .ge 34, 3) := by decide +kernel
theorem dd_19_9 : decode (am_b 19) 9 = .ok (.aload_n 1, 1) := by decide +kernel
theorem dd_19_10 : decode (am_b 19) 10 = .ok (.getfield 94, 3) := by decide +kernel
theorem dd_19_13 : decode (am_b 19) 13 = .ok (.iload_n 3, 1) := by decide +kernel
theorem dd_19_14 : decode (am_b 19) 14 = .ok (.iaload, 1) := by decide +kernel
theorem dd_19_15 : decode (am_b 19) 15 = .ok (.aload_n 0, 1) := by decide +kernel
theorem dd_19_16 : decode (am_b 19) 16 = .ok (.getfield 9, 3) := by decide +kernel
theorem dd_19_19 : decode (am_b 19) 19 = .ok (.aload_n 1, 1) := by decide +kernel
theorem dd_19_20 : decode (am_b 19) 20 = .ok (.getfield 148, 3) := by decide +kernel
theorem dd_19_23 : decode (am_b 19) 23 = .ok (.iconst 4, 1) := by decide +kernel
theorem dd_19_24 : decode (am_b 19) 24 = .ok (.imul, 1) := by decide +kernel
theorem dd_19_25 : decode (am_b 19) 25 = .ok (.iload_n 3, 1) := by decide +kernel
theorem dd_19_26 : decode (am_b 19) 26 = .ok (.iadd, 1) := by decide +kernel
theorem dd_19_27 : decode (am_b 19) 27 = .ok (.iaload, 1) := by decide +kernel
theorem dd_19_28 : decode (am_b 19) 28 = .ok (.if_icmp .eq 6, 3) := by decide +kernel
theorem dd_19_31 : decode (am_b 19) 31 = .ok (.iinc 2 1, 3) := by decide +kernel
theorem dd_19_34 : decode (am_b 19) 34 = .ok (.iinc 3 1, 3) := by decide +kernel
theorem dd_19_37 : decode (am_b 19) 37 = .ok (.goto (-33), 3) := by decide +kernel
theorem dd_19_40 : decode (am_b 19) 40 = .ok (.iload_n 2, 1) := by decide +kernel
theorem dd_19_41 : decode (am_b 19) 41 = .ok (.ireturn, 1) := by decide +kernel
theorem sg_19_0 {sh : am_Sh} {C : Nat → am_M → List am_V → am_O → Prop} {P : am_S ⊕ am_O → Prop} {M : am_M} {o1 : Option am_K} {u2 : Option am_V} {u3 : Option am_V}  (k : am_ev sh C 19 (4, [some (am_R (some (0, 0, 0))), some (am_R o1), some (am_I 0), some (am_I 0)], [], M, 0) P) : am_ev sh C 19 (0, [some (am_R (some (0, 0, 0))), some (am_R o1), u2, u3], [], M, 0) P := by
  refine am_e_iconst (v := 0) dd_19_0 rfl rfl ?_
  refine am_e_istore_n dd_19_1 (Nat.le_of_ble_eq_true rfl) rfl rfl ?_
  refine am_e_iconst (v := 0) dd_19_2 rfl rfl ?_
  refine am_e_istore_n dd_19_3 (Nat.le_of_ble_eq_true rfl) rfl rfl ?_
  exact k

theorem sg_19_4 {sh : am_Sh} {C : Nat → am_M → List am_V → am_O → Prop} {P : am_S ⊕ am_O → Prop} {M : am_M} {o1 : Option am_K} {x2 : Int32} {x3 : Int32}  (k1 : 4 ≤ x3 → am_ev sh C 19 (40, [some (am_R (some (0, 0, 0))), some (am_R o1), some (am_I x2), some (am_I x3)], [], M, 0) P) (k2 : ¬ 4 ≤ x3 → am_ev sh C 19 (9, [some (am_R (some (0, 0, 0))), some (am_R o1), some (am_I x2), some (am_I x3)], [], M, 0) P) : am_ev sh C 19 (4, [some (am_R (some (0, 0, 0))), some (am_R o1), some (am_I x2), some (am_I x3)], [], M, 0) P := by
  refine am_e_iload_n dd_19_4 rfl rfl ?_
  refine am_e_iconst (v := 4) dd_19_5 rfl rfl ?_
  exact am_a_icmp_ge (tgt := 40) (pc' := 9) dd_19_6 rfl rfl k1 k2

theorem sg_19_9 {sh : am_Sh} {C : Nat → am_M → List am_V → am_O → Prop} {P : am_S ⊕ am_O → Prop} {M : am_M} {t1 : Nat} {i1 : Nat} {x2 : Int32} {x3 : Int32} {j1 : Nat} {j2 : Nat} (ht1 : t1 < sh.1) (ht1_i1 : i1 < sh.2.1 t1) (hx_j1 : x3 = nI j1) (hl_j1 : j1 < 4) (hx_j2 : ((M (9, t1, i1) 1) * 4) + x3 = nI j2) (hl_j2 : j2 < 1024) (k1 : (M (10, t1, i1) j1) = (M (1, 0, 0) j2) → am_ev sh C 19 (34, [some (am_R (some (0, 0, 0))), some (am_R (some (9, t1, i1))), some (am_I x2), some (am_I x3)], [], M, 0) P) (k2 : ¬ (M (10, t1, i1) j1) = (M (1, 0, 0) j2) → am_ev sh C 19 (31, [some (am_R (some (0, 0, 0))), some (am_R (some (9, t1, i1))), some (am_I x2), some (am_I x3)], [], M, 0) P) : am_ev sh C 19 (9, [some (am_R (some (0, 0, 0))), some (am_R (some (9, t1, i1))), some (am_I x2), some (am_I x3)], [], M, 0) P := by
  refine am_e_aload_n dd_19_9 rfl rfl ?_
  refine am_e_gf (ci := 0) (j := 0) (v := am_R (some (10, t1, i1))) dd_19_10 (by decide +kernel) (am_ct9 ht1 ht1_i1) rfl rfl ?_
  refine am_e_iload_n dd_19_13 rfl rfl ?_
  refine am_a_iald dd_19_14 (am_ct10 ht1 ht1_i1) hx_j1 hl_j1 (by decide) rfl ?_
  refine am_e_aload_n dd_19_15 rfl rfl ?_
  refine am_e_gf (ci := 2) (j := 0) (v := am_R (some (1, 0, 0))) dd_19_16 (by decide +kernel) rfl rfl rfl ?_
  refine am_e_aload_n dd_19_19 rfl rfl ?_
  refine am_e_gf (ci := 0) (j := 1) (v := am_I (M (9, t1, i1) 1)) dd_19_20 (by decide +kernel) (am_ct9 ht1 ht1_i1) rfl rfl ?_
  refine am_e_iconst (v := 4) dd_19_23 rfl rfl ?_
  refine am_e_imul dd_19_24 rfl ?_
  refine am_e_iload_n dd_19_25 rfl rfl ?_
  refine am_e_iadd dd_19_26 rfl ?_
  refine am_a_iald dd_19_27 rfl hx_j2 hl_j2 (by decide) rfl ?_
  exact am_a_icmp_eq (tgt := 34) (pc' := 31) dd_19_28 rfl rfl k1 k2

theorem sg_19_31 {sh : am_Sh} {C : Nat → am_M → List am_V → am_O → Prop} {P : am_S ⊕ am_O → Prop} {M : am_M} {o1 : Option am_K} {x2 : Int32} {x3 : Int32}  (k : am_ev sh C 19 (34, [some (am_R (some (0, 0, 0))), some (am_R o1), some (am_I (x2 + 1)), some (am_I x3)], [], M, 0) P) : am_ev sh C 19 (31, [some (am_R (some (0, 0, 0))), some (am_R o1), some (am_I x2), some (am_I x3)], [], M, 0) P := by
  refine am_e_iinc (v := x2 + 1) dd_19_31 rfl rfl rfl rfl ?_
  exact k

theorem sg_19_34 {sh : am_Sh} {C : Nat → am_M → List am_V → am_O → Prop} {P : am_S ⊕ am_O → Prop} {M : am_M} {o1 : Option am_K} {x2 : Int32} {x3 : Int32}  (k : am_ev sh C 19 (4, [some (am_R (some (0, 0, 0))), some (am_R o1), some (am_I x2), some (am_I (x3 + 1))], [], M, 0) P) : am_ev sh C 19 (34, [some (am_R (some (0, 0, 0))), some (am_R o1), some (am_I x2), some (am_I x3)], [], M, 0) P := by
  refine am_e_iinc (v := x3 + 1) dd_19_34 rfl rfl rfl rfl ?_
  refine am_e_goto (pc' := 4) dd_19_37 rfl ?_
  exact k

theorem sg_19_40 {sh : am_Sh} {C : Nat → am_M → List am_V → am_O → Prop} {P : am_S ⊕ am_O → Prop} {M : am_M} {o1 : Option am_K} {x2 : Int32} {x3 : Int32}  (k : P (Sum.inr (M, Sum.inl (some (am_I x2))))) : am_ev sh C 19 (40, [some (am_R (some (0, 0, 0))), some (am_R o1), some (am_I x2), some (am_I x3)], [], M, 0) P := by
  refine am_e_iload_n dd_19_40 rfl rfl ?_
  exact am_e_iret dd_19_41 (by decide +kernel) (Or.inl rfl) k

-- 20: CacheLadder.traffic(Z)I
theorem dd_20_0 : decode (am_b 20) 0 = .ok (.iload_n 1, 1) := by decide +kernel
theorem dd_20_1 : decode (am_b 20) 1 = .ok (.ifCond .eq 10, 3) := by decide +kernel
theorem dd_20_4 : decode (am_b 20) 4 = .ok (.aload_n 0, 1) := by decide +kernel
theorem dd_20_5 : decode (am_b 20) 5 = .ok (.getfield 130, 3) := by decide +kernel
theorem dd_20_8 : decode (am_b 20) 8 = .ok (.goto 7, 3) := by decide +kernel
theorem dd_20_11 : decode (am_b 20) 11 = .ok (.aload_n 0, 1) := by decide +kernel
theorem dd_20_12 : decode (am_b 20) 12 = .ok (.getfield 133, 3) := by decide +kernel
theorem dd_20_15 : decode (am_b 20) 15 = .ok (.ireturn, 1) := by decide +kernel
theorem sg_20_0 {sh : am_Sh} {C : Nat → am_M → List am_V → am_O → Prop} {P : am_S ⊕ am_O → Prop} {M : am_M} {x1 : Int32}  (k1 : x1 = 0 → am_ev sh C 20 (11, [some (am_R (some (0, 0, 0))), some (am_I x1)], [], M, 0) P) (k2 : ¬ x1 = 0 → am_ev sh C 20 (4, [some (am_R (some (0, 0, 0))), some (am_I x1)], [], M, 0) P) : am_ev sh C 20 (0, [some (am_R (some (0, 0, 0))), some (am_I x1)], [], M, 0) P := by
  refine am_e_iload_n dd_20_0 rfl rfl ?_
  exact am_a_if_eq (tgt := 11) (pc' := 4) dd_20_1 rfl rfl k1 k2

theorem sg_20_4 {sh : am_Sh} {C : Nat → am_M → List am_V → am_O → Prop} {P : am_S ⊕ am_O → Prop} {M : am_M} {x1 : Int32}  (k : am_ev sh C 20 (15, [some (am_R (some (0, 0, 0))), some (am_I x1)], [am_I (M (0, 0, 0) 6)], M, 0) P) : am_ev sh C 20 (4, [some (am_R (some (0, 0, 0))), some (am_I x1)], [], M, 0) P := by
  refine am_e_aload_n dd_20_4 rfl rfl ?_
  refine am_e_gf (ci := 2) (j := 6) (v := am_I (M (0, 0, 0) 6)) dd_20_5 (by decide +kernel) rfl rfl rfl ?_
  refine am_e_goto (pc' := 15) dd_20_8 rfl ?_
  exact k

theorem sg_20_11 {sh : am_Sh} {C : Nat → am_M → List am_V → am_O → Prop} {P : am_S ⊕ am_O → Prop} {M : am_M} {x1 : Int32}  (k : am_ev sh C 20 (15, [some (am_R (some (0, 0, 0))), some (am_I x1)], [am_I (M (0, 0, 0) 5)], M, 0) P) : am_ev sh C 20 (11, [some (am_R (some (0, 0, 0))), some (am_I x1)], [], M, 0) P := by
  refine am_e_aload_n dd_20_11 rfl rfl ?_
  refine am_e_gf (ci := 2) (j := 5) (v := am_I (M (0, 0, 0) 5)) dd_20_12 (by decide +kernel) rfl rfl rfl ?_
  exact k

theorem sg_20_15 {sh : am_Sh} {C : Nat → am_M → List am_V → am_O → Prop} {P : am_S ⊕ am_O → Prop} {M : am_M} {x1 : Int32} {xs0 : Int32}  (k : P (Sum.inr (M, Sum.inl (some (am_I xs0))))) : am_ev sh C 20 (15, [some (am_R (some (0, 0, 0))), some (am_I x1)], [am_I xs0], M, 0) P := by
  exact am_e_iret dd_20_15 (by decide +kernel) (Or.inl rfl) k

-- 21: CacheLadder.tiers()I
theorem dd_21_0 : decode (am_b 21) 0 = .ok (.aload_n 0, 1) := by decide +kernel
theorem dd_21_1 : decode (am_b 21) 1 = .ok (.getfield 38, 3) := by decide +kernel
theorem dd_21_4 : decode (am_b 21) 4 = .ok (.ireturn, 1) := by decide +kernel
theorem sg_21_0 {sh : am_Sh} {C : Nat → am_M → List am_V → am_O → Prop} {P : am_S ⊕ am_O → Prop} {M : am_M}   (k : P (Sum.inr (M, Sum.inl (some (am_I (M (0, 0, 0) 4)))))) : am_ev sh C 21 (0, [some (am_R (some (0, 0, 0)))], [], M, 0) P := by
  refine am_e_aload_n dd_21_0 rfl rfl ?_
  refine am_e_gf (ci := 2) (j := 4) (v := am_I (M (0, 0, 0) 4)) dd_21_1 (by decide +kernel) rfl rfl rfl ?_
  exact am_e_iret dd_21_4 (by decide +kernel) (Or.inl rfl) k

-- 22: CacheLadder.astray()I
theorem dd_22_0 : decode (am_b 22) 0 = .ok (.iconst 0, 1) := by decide +kernel
theorem dd_22_1 : decode (am_b 22) 1 = .ok (.istore_n 1, 1) := by decide +kernel
theorem dd_22_2 : decode (am_b 22) 2 = .ok (.iconst 0, 1) := by decide +kernel
theorem dd_22_3 : decode (am_b 22) 3 = .ok (.istore_n 2, 1) := by decide +kernel
theorem dd_22_4 : decode (am_b 22) 4 = .ok (.iload_n 2, 1) := by decide +kernel
theorem dd_22_5 : decode (am_b 22) 5 = .ok (.aload_n 0, 1) := by decide +kernel
theorem dd_22_6 : decode (am_b 22) 6 = .ok (.getfield 38, 3) := by decide +kernel
theorem dd_22_9 : decode (am_b 22) 9 = .ok (.if_icmp .ge 60, 3) := by decide +kernel
theorem dd_22_12 : decode (am_b 22) 12 = .ok (.aload_n 0, 1) := by decide +kernel
theorem dd_22_13 : decode (am_b 22) 13 = .ok (.getfield 15, 3) := by decide +kernel
theorem dd_22_16 : decode (am_b 22) 16 = .ok (.iload_n 2, 1) := by decide +kernel
theorem dd_22_17 : decode (am_b 22) 17 = .ok (.aaload, 1) := by decide +kernel
theorem dd_22_18 : decode (am_b 22) 18 = .ok (.getfield 102, 3) := by decide +kernel
theorem dd_22_21 : decode (am_b 22) 21 = .ok (.astore_n 3, 1) := by decide +kernel
theorem dd_22_22 : decode (am_b 22) 22 = .ok (.iconst 0, 1) := by decide +kernel
theorem dd_22_23 : decode (am_b 22) 23 = .ok (.istore 4, 2) := by decide +kernel
theorem dd_22_25 : decode (am_b 22) 25 = .ok (.iload 4, 2) := by decide +kernel
theorem dd_22_27 : decode (am_b 22) 27 = .ok (.aload_n 3, 1) := by decide +kernel
theorem dd_22_28 : decode (am_b 22) 28 = .ok (.arraylength, 1) := by decide +kernel
theorem dd_22_29 : decode (am_b 22) 29 = .ok (.if_icmp .ge 34, 3) := by decide +kernel
theorem dd_22_32 : decode (am_b 22) 32 = .ok (.aload_n 3, 1) := by decide +kernel
theorem dd_22_33 : decode (am_b 22) 33 = .ok (.iload 4, 2) := by decide +kernel
theorem dd_22_35 : decode (am_b 22) 35 = .ok (.aaload, 1) := by decide +kernel
theorem dd_22_36 : decode (am_b 22) 36 = .ok (.invokevirtual 106, 3) := by decide +kernel
theorem dd_22_39 : decode (am_b 22) 39 = .ok (.ifCond .eq 18, 3) := by decide +kernel
theorem dd_22_42 : decode (am_b 22) 42 = .ok (.aload_n 0, 1) := by decide +kernel
theorem dd_22_43 : decode (am_b 22) 43 = .ok (.iload_n 2, 1) := by decide +kernel
theorem dd_22_44 : decode (am_b 22) 44 = .ok (.aload_n 3, 1) := by decide +kernel
theorem dd_22_45 : decode (am_b 22) 45 = .ok (.iload 4, 2) := by decide +kernel
theorem dd_22_47 : decode (am_b 22) 47 = .ok (.aaload, 1) := by decide +kernel
theorem dd_22_48 : decode (am_b 22) 48 = .ok (.invokevirtual 169, 3) := by decide +kernel
theorem dd_22_51 : decode (am_b 22) 51 = .ok (.ifCond .eq 6, 3) := by decide +kernel
theorem dd_22_54 : decode (am_b 22) 54 = .ok (.iinc 1 1, 3) := by decide +kernel
theorem dd_22_57 : decode (am_b 22) 57 = .ok (.iinc 4 1, 3) := by decide +kernel
theorem dd_22_60 : decode (am_b 22) 60 = .ok (.goto (-35), 3) := by decide +kernel
theorem dd_22_63 : decode (am_b 22) 63 = .ok (.iinc 2 1, 3) := by decide +kernel
theorem dd_22_66 : decode (am_b 22) 66 = .ok (.goto (-62), 3) := by decide +kernel
theorem dd_22_69 : decode (am_b 22) 69 = .ok (.iload_n 1, 1) := by decide +kernel
theorem dd_22_70 : decode (am_b 22) 70 = .ok (.ireturn, 1) := by decide +kernel
theorem sg_22_0 {sh : am_Sh} {C : Nat → am_M → List am_V → am_O → Prop} {P : am_S ⊕ am_O → Prop} {M : am_M} {u1 : Option am_V} {u2 : Option am_V} {u3 : Option am_V} {u4 : Option am_V}  (k : am_ev sh C 22 (4, [some (am_R (some (0, 0, 0))), some (am_I 0), some (am_I 0), u3, u4], [], M, 0) P) : am_ev sh C 22 (0, [some (am_R (some (0, 0, 0))), u1, u2, u3, u4], [], M, 0) P := by
  refine am_e_iconst (v := 0) dd_22_0 rfl rfl ?_
  refine am_e_istore_n dd_22_1 (Nat.le_of_ble_eq_true rfl) rfl rfl ?_
  refine am_e_iconst (v := 0) dd_22_2 rfl rfl ?_
  refine am_e_istore_n dd_22_3 (Nat.le_of_ble_eq_true rfl) rfl rfl ?_
  exact k

theorem sg_22_4 {sh : am_Sh} {C : Nat → am_M → List am_V → am_O → Prop} {P : am_S ⊕ am_O → Prop} {M : am_M} {x1 : Int32} {x2 : Int32} {u3 : Option am_V} {u4 : Option am_V}  (k1 : (M (0, 0, 0) 4) ≤ x2 → am_ev sh C 22 (69, [some (am_R (some (0, 0, 0))), some (am_I x1), some (am_I x2), u3, u4], [], M, 0) P) (k2 : ¬ (M (0, 0, 0) 4) ≤ x2 → am_ev sh C 22 (12, [some (am_R (some (0, 0, 0))), some (am_I x1), some (am_I x2), u3, u4], [], M, 0) P) : am_ev sh C 22 (4, [some (am_R (some (0, 0, 0))), some (am_I x1), some (am_I x2), u3, u4], [], M, 0) P := by
  refine am_e_iload_n dd_22_4 rfl rfl ?_
  refine am_e_aload_n dd_22_5 rfl rfl ?_
  refine am_e_gf (ci := 2) (j := 4) (v := am_I (M (0, 0, 0) 4)) dd_22_6 (by decide +kernel) rfl rfl rfl ?_
  exact am_a_icmp_ge (tgt := 69) (pc' := 12) dd_22_9 rfl rfl k1 k2

theorem sg_22_12 {sh : am_Sh} {C : Nat → am_M → List am_V → am_O → Prop} {P : am_S ⊕ am_O → Prop} {M : am_M} {x1 : Int32} {x2 : Int32} {u3 : Option am_V} {u4 : Option am_V} {t91 : Nat} (hx_t91 : x2 = nI t91) (ht91 : t91 < sh.1) (hh4 : sh.1 ≤ 4) (k : am_ev sh C 22 (25, [some (am_R (some (0, 0, 0))), some (am_I x1), some (am_I x2), some (am_R (some (6, t91, 0))), some (am_I 0)], [], M, 0) P) : am_ev sh C 22 (12, [some (am_R (some (0, 0, 0))), some (am_I x1), some (am_I x2), u3, u4], [], M, 0) P := by
  refine am_e_aload_n dd_22_12 rfl rfl ?_
  refine am_e_gf (ci := 2) (j := 1) (v := am_R (some (2, 0, 0))) dd_22_13 (by decide +kernel) rfl rfl rfl ?_
  refine am_e_iload_n dd_22_16 rfl rfl ?_
  refine am_a_rald dd_22_17 rfl (Or.inl rfl) hx_t91 (Nat.lt_of_lt_of_le ht91 hh4) (by decide) (am_rf2 ht91) rfl ?_
  refine am_e_gf (ci := 1) (j := 5) (v := am_R (some (6, t91, 0))) dd_22_18 (by decide +kernel) (am_ct5 ht91) rfl rfl ?_
  refine am_e_astore_n dd_22_21 (Nat.le_of_ble_eq_true rfl) rfl rfl ?_
  refine am_e_iconst (v := 0) dd_22_22 rfl rfl ?_
  refine am_e_istore dd_22_23 (Nat.le_of_ble_eq_true rfl) rfl rfl ?_
  exact k

theorem sg_22_25 {sh : am_Sh} {C : Nat → am_M → List am_V → am_O → Prop} {P : am_S ⊕ am_O → Prop} {M : am_M} {x1 : Int32} {x2 : Int32} {t3 : Nat} {x4 : Int32} (hok : am_shok sh) (ht3 : t3 < sh.1) (k1 : (nI (sh.2.1 t3)) ≤ x4 → am_ev sh C 22 (63, [some (am_R (some (0, 0, 0))), some (am_I x1), some (am_I x2), some (am_R (some (6, t3, 0))), some (am_I x4)], [], M, 0) P) (k2 : ¬ (nI (sh.2.1 t3)) ≤ x4 → am_ev sh C 22 (32, [some (am_R (some (0, 0, 0))), some (am_I x1), some (am_I x2), some (am_R (some (6, t3, 0))), some (am_I x4)], [], M, 0) P) : am_ev sh C 22 (25, [some (am_R (some (0, 0, 0))), some (am_I x1), some (am_I x2), some (am_R (some (6, t3, 0))), some (am_I x4)], [], M, 0) P := by
  refine am_e_iload dd_22_25 rfl rfl ?_
  refine am_e_aload_n dd_22_27 rfl rfl ?_
  refine am_e_len dd_22_28 (am_ct6 ht3) rfl ?_
  exact am_a_icmp_ge (tgt := 63) (pc' := 32) dd_22_29 rfl rfl k1 k2

theorem sg_22_32 {sh : am_Sh} {C : Nat → am_M → List am_V → am_O → Prop} {P : am_S ⊕ am_O → Prop} {M : am_M} {x1 : Int32} {x2 : Int32} {t3 : Nat} {x4 : Int32} {j1 : Nat} {M1 : am_M} {r1 : Int32} (hok : am_shok sh) (hx_j1 : x4 = nI j1) (ht3_j1 : j1 < (sh.2.1 t3)) (ht3 : t3 < sh.1) (ht3_j1 : j1 < sh.2.1 t3) (hc1 : C 1 M [am_R (some (9, t3, j1))] (M1, Sum.inl (some (am_I r1)))) (k1 : r1 = 0 → am_ev sh C 22 (57, [some (am_R (some (0, 0, 0))), some (am_I x1), some (am_I x2), some (am_R (some (6, t3, 0))), some (am_I x4)], [], M1, 0) P) (k2 : ¬ r1 = 0 → am_ev sh C 22 (42, [some (am_R (some (0, 0, 0))), some (am_I x1), some (am_I x2), some (am_R (some (6, t3, 0))), some (am_I x4)], [], M1, 0) P) : am_ev sh C 22 (32, [some (am_R (some (0, 0, 0))), some (am_I x1), some (am_I x2), some (am_R (some (6, t3, 0))), some (am_I x4)], [], M, 0) P := by
  refine am_e_aload_n dd_22_32 rfl rfl ?_
  refine am_e_iload dd_22_33 rfl rfl ?_
  refine am_a_rald dd_22_35 (am_ct6 ht3) (Or.inr rfl) hx_j1 ht3_j1 (Nat.lt_of_le_of_lt (hok t3).1 (by decide)) (am_rf6 ht3_j1) rfl ?_
  refine am_e_callV (c := 1) (k := 1) (as := [am_R (some (9, t3, j1))]) (S' := [am_I r1]) (v := some (am_I r1)) (M' := M1) (n' := 0) dd_22_36 (by decide +kernel) ⟨Nat.le_of_ble_eq_true rfl, Nat.le_of_ble_eq_true rfl, by decide +kernel, (Or.inr (am_rcv_of (am_ct9 ht3 ht3_j1)))⟩ rfl rfl (by decide +kernel) hc1 rfl ?_
  exact am_a_if_eq (tgt := 57) (pc' := 42) dd_22_39 rfl rfl k1 k2

theorem sg_22_42 {sh : am_Sh} {C : Nat → am_M → List am_V → am_O → Prop} {P : am_S ⊕ am_O → Prop} {M : am_M} {x1 : Int32} {x2 : Int32} {t3 : Nat} {x4 : Int32} {j1 : Nat} {M1 : am_M} {r1 : Int32} (hok : am_shok sh) (hx_j1 : x4 = nI j1) (ht3_j1 : j1 < (sh.2.1 t3)) (ht3 : t3 < sh.1) (hc1 : C 23 M [am_R (some (0, 0, 0)), am_I x2, am_R (some (9, t3, j1))] (M1, Sum.inl (some (am_I r1)))) (k1 : r1 = 0 → am_ev sh C 22 (57, [some (am_R (some (0, 0, 0))), some (am_I x1), some (am_I x2), some (am_R (some (6, t3, 0))), some (am_I x4)], [], M1, 0) P) (k2 : ¬ r1 = 0 → am_ev sh C 22 (54, [some (am_R (some (0, 0, 0))), some (am_I x1), some (am_I x2), some (am_R (some (6, t3, 0))), some (am_I x4)], [], M1, 0) P) : am_ev sh C 22 (42, [some (am_R (some (0, 0, 0))), some (am_I x1), some (am_I x2), some (am_R (some (6, t3, 0))), some (am_I x4)], [], M, 0) P := by
  refine am_e_aload_n dd_22_42 rfl rfl ?_
  refine am_e_iload_n dd_22_43 rfl rfl ?_
  refine am_e_aload_n dd_22_44 rfl rfl ?_
  refine am_e_iload dd_22_45 rfl rfl ?_
  refine am_a_rald dd_22_47 (am_ct6 ht3) (Or.inr rfl) hx_j1 ht3_j1 (Nat.lt_of_le_of_lt (hok t3).1 (by decide)) (am_rf6 ht3_j1) rfl ?_
  refine am_e_callV (c := 23) (k := 3) (as := [am_R (some (0, 0, 0)), am_I x2, am_R (some (9, t3, j1))]) (S' := [am_I r1]) (v := some (am_I r1)) (M' := M1) (n' := 0) dd_22_48 (by decide +kernel) ⟨Nat.le_of_ble_eq_true rfl, Nat.le_of_ble_eq_true rfl, by decide +kernel, (Or.inr (am_rcv_of rfl))⟩ rfl rfl (by decide +kernel) hc1 rfl ?_
  exact am_a_if_eq (tgt := 57) (pc' := 54) dd_22_51 rfl rfl k1 k2

theorem sg_22_54 {sh : am_Sh} {C : Nat → am_M → List am_V → am_O → Prop} {P : am_S ⊕ am_O → Prop} {M : am_M} {x1 : Int32} {x2 : Int32} {t3 : Nat} {x4 : Int32}  (k : am_ev sh C 22 (57, [some (am_R (some (0, 0, 0))), some (am_I (x1 + 1)), some (am_I x2), some (am_R (some (6, t3, 0))), some (am_I x4)], [], M, 0) P) : am_ev sh C 22 (54, [some (am_R (some (0, 0, 0))), some (am_I x1), some (am_I x2), some (am_R (some (6, t3, 0))), some (am_I x4)], [], M, 0) P := by
  refine am_e_iinc (v := x1 + 1) dd_22_54 rfl rfl rfl rfl ?_
  exact k

theorem sg_22_57 {sh : am_Sh} {C : Nat → am_M → List am_V → am_O → Prop} {P : am_S ⊕ am_O → Prop} {M : am_M} {x1 : Int32} {x2 : Int32} {t3 : Nat} {x4 : Int32}  (k : am_ev sh C 22 (25, [some (am_R (some (0, 0, 0))), some (am_I x1), some (am_I x2), some (am_R (some (6, t3, 0))), some (am_I (x4 + 1))], [], M, 0) P) : am_ev sh C 22 (57, [some (am_R (some (0, 0, 0))), some (am_I x1), some (am_I x2), some (am_R (some (6, t3, 0))), some (am_I x4)], [], M, 0) P := by
  refine am_e_iinc (v := x4 + 1) dd_22_57 rfl rfl rfl rfl ?_
  refine am_e_goto (pc' := 25) dd_22_60 rfl ?_
  exact k

theorem sg_22_63 {sh : am_Sh} {C : Nat → am_M → List am_V → am_O → Prop} {P : am_S ⊕ am_O → Prop} {M : am_M} {x1 : Int32} {x2 : Int32} {t3 : Nat} {x4 : Int32}  (k : am_ev sh C 22 (4, [some (am_R (some (0, 0, 0))), some (am_I x1), some (am_I (x2 + 1)), some (am_R (some (6, t3, 0))), some (am_I x4)], [], M, 0) P) : am_ev sh C 22 (63, [some (am_R (some (0, 0, 0))), some (am_I x1), some (am_I x2), some (am_R (some (6, t3, 0))), some (am_I x4)], [], M, 0) P := by
  refine am_e_iinc (v := x2 + 1) dd_22_63 rfl rfl rfl rfl ?_
  refine am_e_goto (pc' := 4) dd_22_66 rfl ?_
  exact k

theorem sg_22_69 {sh : am_Sh} {C : Nat → am_M → List am_V → am_O → Prop} {P : am_S ⊕ am_O → Prop} {M : am_M} {x1 : Int32} {x2 : Int32} {u3 : Option am_V} {u4 : Option am_V}  (k : P (Sum.inr (M, Sum.inl (some (am_I x1))))) : am_ev sh C 22 (69, [some (am_R (some (0, 0, 0))), some (am_I x1), some (am_I x2), u3, u4], [], M, 0) P := by
  refine am_e_iload_n dd_22_69 rfl rfl ?_
  exact am_e_iret dd_22_70 (by decide +kernel) (Or.inl rfl) k

-- 23: CacheLadder.standsWrong(ILCacheLadder$Line;)Z
theorem dd_23_0 : decode (am_b 23) 0 = .ok (.aload_n 0, 1) := by decide +kernel
theorem dd_23_1 : decode (am_b 23) 1 = .ok (.getfield 15, 3) := by decide +kernel
theorem dd_23_4 : decode (am_b 23) 4 = .ok (.iload_n 1, 1) := by decide +kernel
theorem dd_23_5 : decode (am_b 23) 5 = .ok (.aaload, 1) := by decide +kernel
theorem dd_23_6 : decode (am_b 23) 6 = .ok (.aload_n 2, 1) := by decide +kernel
theorem dd_23_7 : decode (am_b 23) 7 = .ok (.getfield 148, 3) := by decide +kernel
theorem dd_23_10 : decode (am_b 23) 10 = .ok (.invokevirtual 157, 3) := by decide +kernel
theorem dd_23_13 : decode (am_b 23) 13 = .ok (.aload_n 2, 1) := by decide +kernel
theorem dd_23_14 : decode (am_b 23) 14 = .ok (.if_acmp .ne 15, 3) := by decide +kernel
theorem dd_23_17 : decode (am_b 23) 17 = .ok (.aload_n 0, 1) := by decide +kernel
theorem dd_23_18 : decode (am_b 23) 18 = .ok (.iload_n 1, 1) := by decide +kernel
theorem dd_23_19 : decode (am_b 23) 19 = .ok (.aload_n 2, 1) := by decide +kernel
theorem dd_23_20 : decode (am_b 23) 20 = .ok (.getfield 148, 3) := by decide +kernel
theorem dd_23_23 : decode (am_b 23) 23 = .ok (.invokevirtual 248, 3) := by decide +kernel
theorem dd_23_26 : decode (am_b 23) 26 = .ok (.ifCond .eq 7, 3) := by decide +kernel
theorem dd_23_29 : decode (am_b 23) 29 = .ok (.iconst 1, 1) := by decide +kernel
theorem dd_23_30 : decode (am_b 23) 30 = .ok (.goto 4, 3) := by decide +kernel
theorem dd_23_33 : decode (am_b 23) 33 = .ok (.iconst 0, 1) := by decide +kernel
theorem dd_23_34 : decode (am_b 23) 34 = .ok (.ireturn, 1) := by decide +kernel
theorem sg_23_0 {sh : am_Sh} {C : Nat → am_M → List am_V → am_O → Prop} {P : am_S ⊕ am_O → Prop} {M : am_M} {x1 : Int32} {t2 : Nat} {i2 : Nat} {t91 : Nat} {M1 : am_M} {oq1 : Option am_K} (hx_t91 : x1 = nI t91) (ht91 : t91 < sh.1) (hh4 : sh.1 ≤ 4) (ht2 : t2 < sh.1) (ht2_i2 : i2 < sh.2.1 t2) (hc1 : C 2 M [am_R (some (5, t91, 0)), am_I (M (9, t2, i2) 1)] (M1, Sum.inl (some (am_R oq1)))) (ha1 : am_has sh oq1 = true) (k1 : ¬ oq1 = (some (9, t2, i2)) → am_ev sh C 23 (29, [some (am_R (some (0, 0, 0))), some (am_I x1), some (am_R (some (9, t2, i2)))], [], M1, 0) P) (k2 : oq1 = (some (9, t2, i2)) → am_ev sh C 23 (17, [some (am_R (some (0, 0, 0))), some (am_I x1), some (am_R (some (9, t2, i2)))], [], M1, 0) P) : am_ev sh C 23 (0, [some (am_R (some (0, 0, 0))), some (am_I x1), some (am_R (some (9, t2, i2)))], [], M, 0) P := by
  refine am_e_aload_n dd_23_0 rfl rfl ?_
  refine am_e_gf (ci := 2) (j := 1) (v := am_R (some (2, 0, 0))) dd_23_1 (by decide +kernel) rfl rfl rfl ?_
  refine am_e_iload_n dd_23_4 rfl rfl ?_
  refine am_a_rald dd_23_5 rfl (Or.inl rfl) hx_t91 (Nat.lt_of_lt_of_le ht91 hh4) (by decide) (am_rf2 ht91) rfl ?_
  refine am_e_aload_n dd_23_6 rfl rfl ?_
  refine am_e_gf (ci := 0) (j := 1) (v := am_I (M (9, t2, i2) 1)) dd_23_7 (by decide +kernel) (am_ct9 ht2 ht2_i2) rfl rfl ?_
  refine am_e_callV (c := 2) (k := 2) (as := [am_R (some (5, t91, 0)), am_I (M (9, t2, i2) 1)]) (S' := [am_R oq1]) (v := some (am_R oq1)) (M' := M1) (n' := 0) dd_23_10 (by decide +kernel) ⟨Nat.le_of_ble_eq_true rfl, Nat.le_of_ble_eq_true rfl, by decide +kernel, (Or.inr (am_rcv_of (am_ct5 ht91)))⟩ rfl rfl (by decide +kernel) hc1 rfl ?_
  refine am_e_aload_n dd_23_13 rfl rfl ?_
  exact am_a_acmp_ne (tgt := 29) (pc' := 17) dd_23_14 ha1 (show am_has sh (some (9, t2, i2)) = true from congrArg Option.isSome (am_ct9 ht2 ht2_i2)) rfl rfl k1 k2

theorem sg_23_17 {sh : am_Sh} {C : Nat → am_M → List am_V → am_O → Prop} {P : am_S ⊕ am_O → Prop} {M : am_M} {x1 : Int32} {t2 : Nat} {i2 : Nat} {M1 : am_M} {r1 : Int32} (ht2 : t2 < sh.1) (ht2_i2 : i2 < sh.2.1 t2) (hc1 : C 24 M [am_R (some (0, 0, 0)), am_I x1, am_I (M (9, t2, i2) 1)] (M1, Sum.inl (some (am_I r1)))) (k1 : r1 = 0 → am_ev sh C 23 (33, [some (am_R (some (0, 0, 0))), some (am_I x1), some (am_R (some (9, t2, i2)))], [], M1, 0) P) (k2 : ¬ r1 = 0 → am_ev sh C 23 (29, [some (am_R (some (0, 0, 0))), some (am_I x1), some (am_R (some (9, t2, i2)))], [], M1, 0) P) : am_ev sh C 23 (17, [some (am_R (some (0, 0, 0))), some (am_I x1), some (am_R (some (9, t2, i2)))], [], M, 0) P := by
  refine am_e_aload_n dd_23_17 rfl rfl ?_
  refine am_e_iload_n dd_23_18 rfl rfl ?_
  refine am_e_aload_n dd_23_19 rfl rfl ?_
  refine am_e_gf (ci := 0) (j := 1) (v := am_I (M (9, t2, i2) 1)) dd_23_20 (by decide +kernel) (am_ct9 ht2 ht2_i2) rfl rfl ?_
  refine am_e_callV (c := 24) (k := 3) (as := [am_R (some (0, 0, 0)), am_I x1, am_I (M (9, t2, i2) 1)]) (S' := [am_I r1]) (v := some (am_I r1)) (M' := M1) (n' := 0) dd_23_23 (by decide +kernel) ⟨Nat.le_of_ble_eq_true rfl, Nat.le_of_ble_eq_true rfl, by decide +kernel, (Or.inr (am_rcv_of rfl))⟩ rfl rfl (by decide +kernel) hc1 rfl ?_
  exact am_a_if_eq (tgt := 33) (pc' := 29) dd_23_26 rfl rfl k1 k2

theorem sg_23_29 {sh : am_Sh} {C : Nat → am_M → List am_V → am_O → Prop} {P : am_S ⊕ am_O → Prop} {M : am_M} {x1 : Int32} {o2 : Option am_K}  (k : am_ev sh C 23 (34, [some (am_R (some (0, 0, 0))), some (am_I x1), some (am_R o2)], [am_I 1], M, 0) P) : am_ev sh C 23 (29, [some (am_R (some (0, 0, 0))), some (am_I x1), some (am_R o2)], [], M, 0) P := by
  refine am_e_iconst (v := 1) dd_23_29 rfl rfl ?_
  refine am_e_goto (pc' := 34) dd_23_30 rfl ?_
  exact k

theorem sg_23_33 {sh : am_Sh} {C : Nat → am_M → List am_V → am_O → Prop} {P : am_S ⊕ am_O → Prop} {M : am_M} {x1 : Int32} {o2 : Option am_K}  (k : am_ev sh C 23 (34, [some (am_R (some (0, 0, 0))), some (am_I x1), some (am_R o2)], [am_I 0], M, 0) P) : am_ev sh C 23 (33, [some (am_R (some (0, 0, 0))), some (am_I x1), some (am_R o2)], [], M, 0) P := by
  refine am_e_iconst (v := 0) dd_23_33 rfl rfl ?_
  exact k

theorem sg_23_34 {sh : am_Sh} {C : Nat → am_M → List am_V → am_O → Prop} {P : am_S ⊕ am_O → Prop} {M : am_M} {x1 : Int32} {o2 : Option am_K} {xs0 : Int32} (hb1 : xs0 = 0 ∨ xs0 = 1) (k : P (Sum.inr (M, Sum.inl (some (am_I xs0))))) : am_ev sh C 23 (34, [some (am_R (some (0, 0, 0))), some (am_I x1), some (am_R o2)], [am_I xs0], M, 0) P := by
  exact am_e_iret dd_23_34 (by decide +kernel) (Or.inr ⟨rfl, hb1⟩) k

-- 24: CacheLadder.isMissedBelow(II)Z
theorem dd_24_0 : decode (am_b 24) 0 = .ok (.iload_n 1, 1) := by decide +kernel
theorem dd_24_1 : decode (am_b 24) 1 = .ok (.iconst 1, 1) := by decide +kernel
theorem dd_24_2 : decode (am_b 24) 2 = .ok (.iadd, 1) := by decide +kernel
theorem dd_24_3 : decode (am_b 24) 3 = .ok (.istore_n 3, 1) := by decide +kernel
theorem dd_24_4 : decode (am_b 24) 4 = .ok (.iload_n 3, 1) := by decide +kernel
theorem dd_24_5 : decode (am_b 24) 5 = .ok (.aload_n 0, 1) := by decide +kernel
theorem dd_24_6 : decode (am_b 24) 6 = .ok (.getfield 38, 3) := by decide +kernel
theorem dd_24_9 : decode (am_b 24) 9 = .ok (.if_icmp .ge 37, 3) := by decide +kernel
theorem dd_24_12 : decode (am_b 24) 12 = .ok (.aload_n 0, 1) := by decide +kernel
theorem dd_24_13 : decode (am_b 24) 13 = .ok (.getfield 15, 3) := by decide +kernel
theorem dd_24_16 : decode (am_b 24) 16 = .ok (.iload_n 3, 1) := by decide +kernel
theorem dd_24_17 : decode (am_b 24) 17 = .ok (.aaload, 1) := by decide +kernel
theorem dd_24_18 : decode (am_b 24) 18 = .ok (.getfield 220, 3) := by decide +kernel
theorem dd_24_21 : decode (am_b 24) 21 = .ok (.ifCond .eq 19, 3) := by decide +kernel
theorem dd_24_24 : decode (am_b 24) 24 = .ok (.aload_n 0, 1) := by decide +kernel
theorem dd_24_25 : decode (am_b 24) 25 = .ok (.getfield 15, 3) := by decide +kernel
theorem dd_24_28 : decode (am_b 24) 28 = .ok (.iload_n 3, 1) := by decide +kernel
theorem dd_24_29 : decode (am_b 24) 29 = .ok (.aaload, 1) := by decide +kernel
theorem dd_24_30 : decode (am_b 24) 30 = .ok (.iload_n 2, 1) := by decide +kernel
theorem dd_24_31 : decode (am_b 24) 31 = .ok (.invokevirtual 154, 3) := by decide +kernel
theorem dd_24_34 : decode (am_b 24) 34 = .ok (.iconst (-1), 1) := by decide +kernel
theorem dd_24_35 : decode (am_b 24) 35 = .ok (.if_icmp .ne 5, 3) := by decide +kernel
theorem dd_24_38 : decode (am_b 24) 38 = .ok (.iconst 1, 1) := by decide +kernel
theorem dd_24_39 : decode (am_b 24) 39 = .ok (.ireturn, 1) := by decide +kernel
theorem dd_24_40 : decode (am_b 24) 40 = .ok (.iinc 3 1, 3) := by decide +kernel
theorem dd_24_43 : decode (am_b 24) 43 = .ok (.goto (-39), 3) := by decide +kernel
theorem dd_24_46 : decode (am_b 24) 46 = .ok (.iconst 0, 1) := by decide +kernel
theorem dd_24_47 : decode (am_b 24) 47 = .ok (.ireturn, 1) := by decide +kernel
theorem sg_24_0 {sh : am_Sh} {C : Nat → am_M → List am_V → am_O → Prop} {P : am_S ⊕ am_O → Prop} {M : am_M} {x1 : Int32} {x2 : Int32} {u3 : Option am_V}  (k : am_ev sh C 24 (4, [some (am_R (some (0, 0, 0))), some (am_I x1), some (am_I x2), some (am_I (x1 + 1))], [], M, 0) P) : am_ev sh C 24 (0, [some (am_R (some (0, 0, 0))), some (am_I x1), some (am_I x2), u3], [], M, 0) P := by
  refine am_e_iload_n dd_24_0 rfl rfl ?_
  refine am_e_iconst (v := 1) dd_24_1 rfl rfl ?_
  refine am_e_iadd dd_24_2 rfl ?_
  refine am_e_istore_n dd_24_3 (Nat.le_of_ble_eq_true rfl) rfl rfl ?_
  exact k

theorem sg_24_4 {sh : am_Sh} {C : Nat → am_M → List am_V → am_O → Prop} {P : am_S ⊕ am_O → Prop} {M : am_M} {x1 : Int32} {x2 : Int32} {x3 : Int32}  (k1 : (M (0, 0, 0) 4) ≤ x3 → am_ev sh C 24 (46, [some (am_R (some (0, 0, 0))), some (am_I x1), some (am_I x2), some (am_I x3)], [], M, 0) P) (k2 : ¬ (M (0, 0, 0) 4) ≤ x3 → am_ev sh C 24 (12, [some (am_R (some (0, 0, 0))), some (am_I x1), some (am_I x2), some (am_I x3)], [], M, 0) P) : am_ev sh C 24 (4, [some (am_R (some (0, 0, 0))), some (am_I x1), some (am_I x2), some (am_I x3)], [], M, 0) P := by
  refine am_e_iload_n dd_24_4 rfl rfl ?_
  refine am_e_aload_n dd_24_5 rfl rfl ?_
  refine am_e_gf (ci := 2) (j := 4) (v := am_I (M (0, 0, 0) 4)) dd_24_6 (by decide +kernel) rfl rfl rfl ?_
  exact am_a_icmp_ge (tgt := 46) (pc' := 12) dd_24_9 rfl rfl k1 k2

theorem sg_24_12 {sh : am_Sh} {C : Nat → am_M → List am_V → am_O → Prop} {P : am_S ⊕ am_O → Prop} {M : am_M} {x1 : Int32} {x2 : Int32} {x3 : Int32} {t91 : Nat} (hx_t91 : x3 = nI t91) (ht91 : t91 < sh.1) (hh4 : sh.1 ≤ 4) (k1 : (M (5, t91, 0) 4) = 0 → am_ev sh C 24 (40, [some (am_R (some (0, 0, 0))), some (am_I x1), some (am_I x2), some (am_I x3)], [], M, 0) P) (k2 : ¬ (M (5, t91, 0) 4) = 0 → am_ev sh C 24 (24, [some (am_R (some (0, 0, 0))), some (am_I x1), some (am_I x2), some (am_I x3)], [], M, 0) P) : am_ev sh C 24 (12, [some (am_R (some (0, 0, 0))), some (am_I x1), some (am_I x2), some (am_I x3)], [], M, 0) P := by
  refine am_e_aload_n dd_24_12 rfl rfl ?_
  refine am_e_gf (ci := 2) (j := 1) (v := am_R (some (2, 0, 0))) dd_24_13 (by decide +kernel) rfl rfl rfl ?_
  refine am_e_iload_n dd_24_16 rfl rfl ?_
  refine am_a_rald dd_24_17 rfl (Or.inl rfl) hx_t91 (Nat.lt_of_lt_of_le ht91 hh4) (by decide) (am_rf2 ht91) rfl ?_
  refine am_e_gf (ci := 1) (j := 4) (v := am_I (M (5, t91, 0) 4)) dd_24_18 (by decide +kernel) (am_ct5 ht91) rfl rfl ?_
  exact am_a_if_eq (tgt := 40) (pc' := 24) dd_24_21 rfl rfl k1 k2

theorem sg_24_24 {sh : am_Sh} {C : Nat → am_M → List am_V → am_O → Prop} {P : am_S ⊕ am_O → Prop} {M : am_M} {x1 : Int32} {x2 : Int32} {x3 : Int32} {t91 : Nat} {M1 : am_M} {r1 : Int32} (hx_t91 : x3 = nI t91) (ht91 : t91 < sh.1) (hh4 : sh.1 ≤ 4) (hc1 : C 3 M [am_R (some (5, t91, 0)), am_I x2] (M1, Sum.inl (some (am_I r1)))) (k1 : ¬ r1 = (-1) → am_ev sh C 24 (40, [some (am_R (some (0, 0, 0))), some (am_I x1), some (am_I x2), some (am_I x3)], [], M1, 0) P) (k2 : r1 = (-1) → am_ev sh C 24 (38, [some (am_R (some (0, 0, 0))), some (am_I x1), some (am_I x2), some (am_I x3)], [], M1, 0) P) : am_ev sh C 24 (24, [some (am_R (some (0, 0, 0))), some (am_I x1), some (am_I x2), some (am_I x3)], [], M, 0) P := by
  refine am_e_aload_n dd_24_24 rfl rfl ?_
  refine am_e_gf (ci := 2) (j := 1) (v := am_R (some (2, 0, 0))) dd_24_25 (by decide +kernel) rfl rfl rfl ?_
  refine am_e_iload_n dd_24_28 rfl rfl ?_
  refine am_a_rald dd_24_29 rfl (Or.inl rfl) hx_t91 (Nat.lt_of_lt_of_le ht91 hh4) (by decide) (am_rf2 ht91) rfl ?_
  refine am_e_iload_n dd_24_30 rfl rfl ?_
  refine am_e_callV (c := 3) (k := 2) (as := [am_R (some (5, t91, 0)), am_I x2]) (S' := [am_I r1]) (v := some (am_I r1)) (M' := M1) (n' := 0) dd_24_31 (by decide +kernel) ⟨Nat.le_of_ble_eq_true rfl, Nat.le_of_ble_eq_true rfl, by decide +kernel, (Or.inr (am_rcv_of (am_ct5 ht91)))⟩ rfl rfl (by decide +kernel) hc1 rfl ?_
  refine am_e_iconst (v := (-1)) dd_24_34 rfl rfl ?_
  exact am_a_icmp_ne (tgt := 40) (pc' := 38) dd_24_35 rfl rfl k1 k2

theorem sg_24_38 {sh : am_Sh} {C : Nat → am_M → List am_V → am_O → Prop} {P : am_S ⊕ am_O → Prop} {M : am_M} {x1 : Int32} {x2 : Int32} {x3 : Int32}  (k : P (Sum.inr (M, Sum.inl (some (am_I 1))))) : am_ev sh C 24 (38, [some (am_R (some (0, 0, 0))), some (am_I x1), some (am_I x2), some (am_I x3)], [], M, 0) P := by
  refine am_e_iconst (v := 1) dd_24_38 rfl rfl ?_
  exact am_e_iret dd_24_39 (by decide +kernel) (Or.inr ⟨rfl, Or.inr rfl⟩) k

theorem sg_24_40 {sh : am_Sh} {C : Nat → am_M → List am_V → am_O → Prop} {P : am_S ⊕ am_O → Prop} {M : am_M} {x1 : Int32} {x2 : Int32} {x3 : Int32}  (k : am_ev sh C 24 (4, [some (am_R (some (0, 0, 0))), some (am_I x1), some (am_I x2), some (am_I (x3 + 1))], [], M, 0) P) : am_ev sh C 24 (40, [some (am_R (some (0, 0, 0))), some (am_I x1), some (am_I x2), some (am_I x3)], [], M, 0) P := by
  refine am_e_iinc (v := x3 + 1) dd_24_40 rfl rfl rfl rfl ?_
  refine am_e_goto (pc' := 4) dd_24_43 rfl ?_
  exact k

theorem sg_24_46 {sh : am_Sh} {C : Nat → am_M → List am_V → am_O → Prop} {P : am_S ⊕ am_O → Prop} {M : am_M} {x1 : Int32} {x2 : Int32} {x3 : Int32}  (k : P (Sum.inr (M, Sum.inl (some (am_I 0))))) : am_ev sh C 24 (46, [some (am_R (some (0, 0, 0))), some (am_I x1), some (am_I x2), some (am_I x3)], [], M, 0) P := by
  refine am_e_iconst (v := 0) dd_24_46 rfl rfl ?_
  exact am_e_iret dd_24_47 (by decide +kernel) (Or.inr ⟨rfl, Or.inl rfl⟩) k

