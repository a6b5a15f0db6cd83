-- 0: CacheLadder$Line.go()V
theorem dd_0_0 : decode (am_b 0) 0 = .ok (.aload_n 0, 1) := by decide +kernel
theorem dd_0_1 : decode (am_b 0) 1 = .ok (.iconst (-1), 1) := by decide +kernel
theorem dd_0_2 : decode (am_b 0) 2 = .ok (.putfield 15, 3) := by decide +kernel
theorem dd_0_5 : decode (am_b 0) 5 = .ok (.aload_n 0, 1) := by decide +kernel
theorem dd_0_6 : decode (am_b 0) 6 = .ok (.iconst 0, 1) := by decide +kernel
theorem dd_0_7 : decode (am_b 0) 7 = .ok (.putfield 19, 3) := by decide +kernel
theorem dd_0_10 : decode (am_b 0) 10 = .ok (.return_, 1) := by decide +kernel
theorem sg_0_0 {sh : am_Sh} {C : Nat → am_M → List am_V → am_O → Prop} {P : am_S ⊕ am_O → Prop} {M : am_M} {t0 : Nat} {i0 : Nat} (ht0 : t0 < sh.1) (ht0_i0 : i0 < sh.2.1 t0) (k : P (Sum.inr ((am_up (am_up M (9, t0, i0) 1 (-1)) (9, t0, i0) 2 0), Sum.inl none))) : am_ev sh C 0 (0, [some (am_R (some (9, t0, i0)))], [], M, 0) P := by
  refine am_e_aload_n dd_0_0 rfl rfl ?_
  refine am_e_iconst (v := (-1)) dd_0_1 rfl rfl ?_
  refine am_e_pf (ci := 0) (j := 1) dd_0_2 (by decide +kernel) (am_ct9 ht0 ht0_i0) rfl (Or.inl rfl) rfl ?_
  refine am_e_aload_n dd_0_5 rfl rfl ?_
  refine am_e_iconst (v := 0) dd_0_6 rfl rfl ?_
  refine am_e_pf (ci := 0) (j := 2) dd_0_7 (by decide +kernel) (am_ct9 ht0 ht0_i0) rfl (Or.inl rfl) rfl ?_
  exact am_e_vret dd_0_10 (by decide +kernel) rfl k

-- 1: CacheLadder$Line.isThere()Z
theorem dd_1_0 : decode (am_b 1) 0 = .ok (.aload_n 0, 1) := by decide +kernel
theorem dd_1_1 : decode (am_b 1) 1 = .ok (.getfield 15, 3) := by decide +kernel
theorem dd_1_4 : decode (am_b 1) 4 = .ok (.iconst (-1), 1) := by decide +kernel
theorem dd_1_5 : decode (am_b 1) 5 = .ok (.if_icmp .eq 7, 3) := by decide +kernel
theorem dd_1_8 : decode (am_b 1) 8 = .ok (.iconst 1, 1) := by decide +kernel
theorem dd_1_9 : decode (am_b 1) 9 = .ok (.goto 4, 3) := by decide +kernel
theorem dd_1_12 : decode (am_b 1) 12 = .ok (.iconst 0, 1) := by decide +kernel
theorem dd_1_13 : decode (am_b 1) 13 = .ok (.ireturn, 1) := by decide +kernel
theorem sg_1_0 {sh : am_Sh} {C : Nat → am_M → List am_V → am_O → Prop} {P : am_S ⊕ am_O → Prop} {M : am_M} {t0 : Nat} {i0 : Nat} (ht0 : t0 < sh.1) (ht0_i0 : i0 < sh.2.1 t0) (k1 : (M (9, t0, i0) 1) = (-1) → am_ev sh C 1 (12, [some (am_R (some (9, t0, i0)))], [], M, 0) P) (k2 : ¬ (M (9, t0, i0) 1) = (-1) → am_ev sh C 1 (8, [some (am_R (some (9, t0, i0)))], [], M, 0) P) : am_ev sh C 1 (0, [some (am_R (some (9, t0, i0)))], [], M, 0) P := by
  refine am_e_aload_n dd_1_0 rfl rfl ?_
  refine am_e_gf (ci := 0) (j := 1) (v := am_I (M (9, t0, i0) 1)) dd_1_1 (by decide +kernel) (am_ct9 ht0 ht0_i0) rfl rfl ?_
  refine am_e_iconst (v := (-1)) dd_1_4 rfl rfl ?_
  exact am_a_icmp_eq (tgt := 12) (pc' := 8) dd_1_5 rfl rfl k1 k2

theorem sg_1_8 {sh : am_Sh} {C : Nat → am_M → List am_V → am_O → Prop} {P : am_S ⊕ am_O → Prop} {M : am_M} {t0 : Nat} {i0 : Nat}  (k : am_ev sh C 1 (13, [some (am_R (some (9, t0, i0)))], [am_I 1], M, 0) P) : am_ev sh C 1 (8, [some (am_R (some (9, t0, i0)))], [], M, 0) P := by
  refine am_e_iconst (v := 1) dd_1_8 rfl rfl ?_
  refine am_e_goto (pc' := 13) dd_1_9 rfl ?_
  exact k

theorem sg_1_12 {sh : am_Sh} {C : Nat → am_M → List am_V → am_O → Prop} {P : am_S ⊕ am_O → Prop} {M : am_M} {t0 : Nat} {i0 : Nat}  (k : am_ev sh C 1 (13, [some (am_R (some (9, t0, i0)))], [am_I 0], M, 0) P) : am_ev sh C 1 (12, [some (am_R (some (9, t0, i0)))], [], M, 0) P := by
  refine am_e_iconst (v := 0) dd_1_12 rfl rfl ?_
  exact k

theorem sg_1_13 {sh : am_Sh} {C : Nat → am_M → List am_V → am_O → Prop} {P : am_S ⊕ am_O → Prop} {M : am_M} {t0 : Nat} {i0 : Nat} {xs0 : Int32} (hb1 : xs0 = 0 ∨ xs0 = 1) (k : P (Sum.inr (M, Sum.inl (some (am_I xs0))))) : am_ev sh C 1 (13, [some (am_R (some (9, t0, i0)))], [am_I xs0], M, 0) P := by
  exact am_e_iret dd_1_13 (by decide +kernel) (Or.inr ⟨rfl, hb1⟩) k

-- 2: CacheLadder$Tier.find(I)LCacheLadder$Line;
theorem dd_2_0 : decode (am_b 2) 0 = .ok (.aload_n 0, 1) := by decide +kernel
theorem dd_2_1 : decode (am_b 2) 1 = .ok (.iload_n 1, 1) := by decide +kernel
theorem dd_2_2 : decode (am_b 2) 2 = .ok (.invokevirtual 53, 3) := by decide +kernel
theorem dd_2_5 : decode (am_b 2) 5 = .ok (.istore_n 2, 1) := by decide +kernel
theorem dd_2_6 : decode (am_b 2) 6 = .ok (.iload_n 2, 1) := by decide +kernel
theorem dd_2_7 : decode (am_b 2) 7 = .ok (.iconst (-1), 1) := by decide +kernel
theorem dd_2_8 : decode (am_b 2) 8 = .ok (.if_icmp .ne 7, 3) := by decide +kernel
theorem dd_2_11 : decode (am_b 2) 11 = .ok (.aconst_null, 1) := by decide +kernel
theorem dd_2_12 : decode (am_b 2) 12 = .ok (.goto 13, 3) := by decide +kernel
theorem dd_2_15 : decode (am_b 2) 15 = .ok (.aload_n 0, 1) := by decide +kernel
theorem dd_2_16 : decode (am_b 2) 16 = .ok (.aload_n 0, 1) := by decide +kernel
theorem dd_2_17 : decode (am_b 2) 17 = .ok (.iload_n 1, 1) := by decide +kernel
theorem dd_2_18 : decode (am_b 2) 18 = .ok (.invokevirtual 42, 3) := by decide +kernel
theorem dd_2_21 : decode (am_b 2) 21 = .ok (.iload_n 2, 1) := by decide +kernel
theorem dd_2_22 : decode (am_b 2) 22 = .ok (.invokevirtual 46, 3) := by decide +kernel
theorem dd_2_25 : decode (am_b 2) 25 = .ok (.areturn, 1) := by decide +kernel
theorem sg_2_0 {sh : am_Sh} {C : Nat → am_M → List am_V → am_O → Prop} {P : am_S ⊕ am_O → Prop} {M : am_M} {t0 : Nat} {x1 : Int32} {u2 : Option am_V} {M1 : am_M} {r1 : Int32} (ht0 : t0 < sh.1) (hc1 : C 3 M [am_R (some (5, t0, 0)), am_I x1] (M1, Sum.inl (some (am_I r1)))) (k1 : ¬ r1 = (-1) → am_ev sh C 2 (15, [some (am_R (some (5, t0, 0))), some (am_I x1), some (am_I r1)], [], M1, 0) P) (k2 : r1 = (-1) → am_ev sh C 2 (11, [some (am_R (some (5, t0, 0))), some (am_I x1), some (am_I r1)], [], M1, 0) P) : am_ev sh C 2 (0, [some (am_R (some (5, t0, 0))), some (am_I x1), u2], [], M, 0) P := by
  refine am_e_aload_n dd_2_0 rfl rfl ?_
  refine am_e_iload_n dd_2_1 rfl rfl ?_
  refine am_e_callV (c := 3) (k := 2) (as := [am_R (some (5, t0, 0)), am_I x1]) (S' := [am_I r1]) (v := some (am_I r1)) (M' := M1) (n' := 0) dd_2_2 (by decide +kernel) ⟨Nat.le_of_ble_eq_true rfl, Nat.le_of_ble_eq_true rfl, by decide +kernel, (Or.inr (am_rcv_of (am_ct5 ht0)))⟩ rfl rfl (by decide +kernel) hc1 rfl ?_
  refine am_e_istore_n dd_2_5 (Nat.le_of_ble_eq_true rfl) rfl rfl ?_
  refine am_e_iload_n dd_2_6 rfl rfl ?_
  refine am_e_iconst (v := (-1)) dd_2_7 rfl rfl ?_
  exact am_a_icmp_ne (tgt := 15) (pc' := 11) dd_2_8 rfl rfl k1 k2

theorem sg_2_11 {sh : am_Sh} {C : Nat → am_M → List am_V → am_O → Prop} {P : am_S ⊕ am_O → Prop} {M : am_M} {t0 : Nat} {x1 : Int32} {x2 : Int32}  (k : am_ev sh C 2 (25, [some (am_R (some (5, t0, 0))), some (am_I x1), some (am_I x2)], [am_R none], M, 0) P) : am_ev sh C 2 (11, [some (am_R (some (5, t0, 0))), some (am_I x1), some (am_I x2)], [], M, 0) P := by
  refine am_e_null dd_2_11 rfl ?_
  refine am_e_goto (pc' := 25) dd_2_12 rfl ?_
  exact k

theorem sg_2_15 {sh : am_Sh} {C : Nat → am_M → List am_V → am_O → Prop} {P : am_S ⊕ am_O → Prop} {M : am_M} {t0 : Nat} {x1 : Int32} {x2 : Int32} {M1 : am_M} {r1 : Int32} {M2 : am_M} {oq1 : Option am_K} (ht0 : t0 < sh.1) (hc1 : C 4 M [am_R (some (5, t0, 0)), am_I x1] (M1, Sum.inl (some (am_I r1)))) (hc2 : C 5 M1 [am_R (some (5, t0, 0)), am_I r1, am_I x2] (M2, Sum.inl (some (am_R oq1)))) (k : am_ev sh C 2 (25, [some (am_R (some (5, t0, 0))), some (am_I x1), some (am_I x2)], [am_R oq1], M2, 0) P) : am_ev sh C 2 (15, [some (am_R (some (5, t0, 0))), some (am_I x1), some (am_I x2)], [], M, 0) P := by
  refine am_e_aload_n dd_2_15 rfl rfl ?_
  refine am_e_aload_n dd_2_16 rfl rfl ?_
  refine am_e_iload_n dd_2_17 rfl rfl ?_
  refine am_e_callV (c := 4) (k := 2) (as := [am_R (some (5, t0, 0)), am_I x1]) (S' := [am_I r1, am_R (some (5, t0, 0))]) (v := some (am_I r1)) (M' := M1) (n' := 0) dd_2_18 (by decide +kernel) ⟨Nat.le_of_ble_eq_true rfl, Nat.le_of_ble_eq_true rfl, by decide +kernel, (Or.inr (am_rcv_of (am_ct5 ht0)))⟩ rfl rfl (by decide +kernel) hc1 rfl ?_
  refine am_e_iload_n dd_2_21 rfl rfl ?_
  refine am_e_callV (c := 5) (k := 3) (as := [am_R (some (5, t0, 0)), am_I r1, am_I x2]) (S' := [am_R oq1]) (v := some (am_R oq1)) (M' := M2) (n' := 0) dd_2_22 (by decide +kernel) ⟨Nat.le_of_ble_eq_true rfl, Nat.le_of_ble_eq_true rfl, by decide +kernel, (Or.inr (am_rcv_of (am_ct5 ht0)))⟩ rfl rfl (by decide +kernel) hc2 rfl ?_
  exact k

theorem sg_2_25 {sh : am_Sh} {C : Nat → am_M → List am_V → am_O → Prop} {P : am_S ⊕ am_O → Prop} {M : am_M} {t0 : Nat} {x1 : Int32} {x2 : Int32} {os0 : Option am_K}  (k : P (Sum.inr (M, Sum.inl (some (am_R os0))))) : am_ev sh C 2 (25, [some (am_R (some (5, t0, 0))), some (am_I x1), some (am_I x2)], [am_R os0], M, 0) P := by
  exact am_e_aret dd_2_25 (by decide +kernel) rfl k

-- 3: CacheLadder$Tier.wayOf(I)I
theorem dd_3_0 : decode (am_b 3) 0 = .ok (.aload_n 0, 1) := by decide +kernel
theorem dd_3_1 : decode (am_b 3) 1 = .ok (.iload_n 1, 1) := by decide +kernel
theorem dd_3_2 : decode (am_b 3) 2 = .ok (.invokevirtual 42, 3) := by decide +kernel
theorem dd_3_5 : decode (am_b 3) 5 = .ok (.istore_n 2, 1) := by decide +kernel
theorem dd_3_6 : decode (am_b 3) 6 = .ok (.iconst 0, 1) := by decide +kernel
theorem dd_3_7 : decode (am_b 3) 7 = .ok (.istore_n 3, 1) := by decide +kernel
theorem dd_3_8 : decode (am_b 3) 8 = .ok (.iload_n 3, 1) := by decide +kernel
theorem dd_3_9 : decode (am_b 3) 9 = .ok (.aload_n 0, 1) := by decide +kernel
theorem dd_3_10 : decode (am_b 3) 10 = .ok (.getfield 19, 3) := by decide +kernel
theorem dd_3_13 : decode (am_b 3) 13 = .ok (.if_icmp .ge 24, 3) := by decide +kernel
theorem dd_3_16 : decode (am_b 3) 16 = .ok (.aload_n 0, 1) := by decide +kernel
theorem dd_3_17 : decode (am_b 3) 17 = .ok (.iload_n 2, 1) := by decide +kernel
theorem dd_3_18 : decode (am_b 3) 18 = .ok (.iload_n 3, 1) := by decide +kernel
theorem dd_3_19 : decode (am_b 3) 19 = .ok (.invokevirtual 46, 3) := by decide +kernel
theorem dd_3_22 : decode (am_b 3) 22 = .ok (.getfield 50, 3) := by decide +kernel
theorem dd_3_25 : decode (am_b 3) 25 = .ok (.iload_n 1, 1) := by decide +kernel
theorem dd_3_26 : decode (am_b 3) 26 = .ok (.if_icmp .ne 5, 3) := by decide +kernel
theorem dd_3_29 : decode (am_b 3) 29 = .ok (.iload_n 3, 1) := by decide +kernel
theorem dd_3_30 : decode (am_b 3) 30 = .ok (.ireturn, 1) := by decide +kernel
theorem dd_3_31 : decode (am_b 3) 31 = .ok (.iinc 3 1, 3) := by decide +kernel
theorem dd_3_34 : decode (am_b 3) 34 = .ok (.goto (-26), 3) := by decide +kernel
theorem dd_3_37 : decode (am_b 3) 37 = .ok (.iconst (-1), 1) := by decide +kernel
theorem dd_3_38 : decode (am_b 3) 38 = .ok (.ireturn, 1) := by decide +kernel
theorem sg_3_0 {sh : am_Sh} {C : Nat → am_M → List am_V → am_O → Prop} {P : am_S ⊕ am_O → Prop} {M : am_M} {t0 : Nat} {x1 : Int32} {u2 : Option am_V} {u3 : Option am_V} {M1 : am_M} {r1 : Int32} (ht0 : t0 < sh.1) (hc1 : C 4 M [am_R (some (5, t0, 0)), am_I x1] (M1, Sum.inl (some (am_I r1)))) (k : am_ev sh C 3 (8, [some (am_R (some (5, t0, 0))), some (am_I x1), some (am_I r1), some (am_I 0)], [], M1, 0) P) : am_ev sh C 3 (0, [some (am_R (some (5, t0, 0))), some (am_I x1), u2, u3], [], M, 0) P := by
  refine am_e_aload_n dd_3_0 rfl rfl ?_
  refine am_e_iload_n dd_3_1 rfl rfl ?_
  refine am_e_callV (c := 4) (k := 2) (as := [am_R (some (5, t0, 0)), am_I x1]) (S' := [am_I r1]) (v := some (am_I r1)) (M' := M1) (n' := 0) dd_3_2 (by decide +kernel) ⟨Nat.le_of_ble_eq_true rfl, Nat.le_of_ble_eq_true rfl, by decide +kernel, (Or.inr (am_rcv_of (am_ct5 ht0)))⟩ rfl rfl (by decide +kernel) hc1 rfl ?_
  refine am_e_istore_n dd_3_5 (Nat.le_of_ble_eq_true rfl) rfl rfl ?_
  refine am_e_iconst (v := 0) dd_3_6 rfl rfl ?_
  refine am_e_istore_n dd_3_7 (Nat.le_of_ble_eq_true rfl) rfl rfl ?_
  exact k

theorem sg_3_8 {sh : am_Sh} {C : Nat → am_M → List am_V → am_O → Prop} {P : am_S ⊕ am_O → Prop} {M : am_M} {t0 : Nat} {x1 : Int32} {x2 : Int32} {x3 : Int32} (ht0 : t0 < sh.1) (k1 : (M (5, t0, 0) 1) ≤ x3 → am_ev sh C 3 (37, [some (am_R (some (5, t0, 0))), some (am_I x1), some (am_I x2), some (am_I x3)], [], M, 0) P) (k2 : ¬ (M (5, t0, 0) 1) ≤ x3 → am_ev sh C 3 (16, [some (am_R (some (5, t0, 0))), some (am_I x1), some (am_I x2), some (am_I x3)], [], M, 0) P) : am_ev sh C 3 (8, [some (am_R (some (5, t0, 0))), some (am_I x1), some (am_I x2), some (am_I x3)], [], M, 0) P := by
  refine am_e_iload_n dd_3_8 rfl rfl ?_
  refine am_e_aload_n dd_3_9 rfl rfl ?_
  refine am_e_gf (ci := 1) (j := 1) (v := am_I (M (5, t0, 0) 1)) dd_3_10 (by decide +kernel) (am_ct5 ht0) rfl rfl ?_
  exact am_a_icmp_ge (tgt := 37) (pc' := 16) dd_3_13 rfl rfl k1 k2

theorem sg_3_16 {sh : am_Sh} {C : Nat → am_M → List am_V → am_O → Prop} {P : am_S ⊕ am_O → Prop} {M : am_M} {t0 : Nat} {x1 : Int32} {x2 : Int32} {x3 : Int32} {M1 : am_M} {tq1 : Nat} {iq1 : Nat} (ht0 : t0 < sh.1) (hc1 : C 5 M [am_R (some (5, t0, 0)), am_I x2, am_I x3] (M1, Sum.inl (some (am_R (some (9, tq1, iq1)))))) (ht_tq1 : tq1 < sh.1) (htq1_iq1 : iq1 < sh.2.1 tq1) (k1 : ¬ (M1 (9, tq1, iq1) 1) = x1 → am_ev sh C 3 (31, [some (am_R (some (5, t0, 0))), some (am_I x1), some (am_I x2), some (am_I x3)], [], M1, 0) P) (k2 : (M1 (9, tq1, iq1) 1) = x1 → am_ev sh C 3 (29, [some (am_R (some (5, t0, 0))), some (am_I x1), some (am_I x2), some (am_I x3)], [], M1, 0) P) : am_ev sh C 3 (16, [some (am_R (some (5, t0, 0))), some (am_I x1), some (am_I x2), some (am_I x3)], [], M, 0) P := by
  refine am_e_aload_n dd_3_16 rfl rfl ?_
  refine am_e_iload_n dd_3_17 rfl rfl ?_
  refine am_e_iload_n dd_3_18 rfl rfl ?_
  refine am_e_callV (c := 5) (k := 3) (as := [am_R (some (5, t0, 0)), am_I x2, am_I x3]) (S' := [am_R (some (9, tq1, iq1))]) (v := some (am_R (some (9, tq1, iq1)))) (M' := M1) (n' := 0) dd_3_19 (by decide +kernel) ⟨Nat.le_of_ble_eq_true rfl, Nat.le_of_ble_eq_true rfl, by decide +kernel, (Or.inr (am_rcv_of (am_ct5 ht0)))⟩ rfl rfl (by decide +kernel) hc1 rfl ?_
  refine am_e_gf (ci := 0) (j := 1) (v := am_I (M1 (9, tq1, iq1) 1)) dd_3_22 (by decide +kernel) (am_ct9 ht_tq1 htq1_iq1) rfl rfl ?_
  refine am_e_iload_n dd_3_25 rfl rfl ?_
  exact am_a_icmp_ne (tgt := 31) (pc' := 29) dd_3_26 rfl rfl k1 k2

theorem sg_3_29 {sh : am_Sh} {C : Nat → am_M → List am_V → am_O → Prop} {P : am_S ⊕ am_O → Prop} {M : am_M} {t0 : Nat} {x1 : Int32} {x2 : Int32} {x3 : Int32}  (k : P (Sum.inr (M, Sum.inl (some (am_I x3))))) : am_ev sh C 3 (29, [some (am_R (some (5, t0, 0))), some (am_I x1), some (am_I x2), some (am_I x3)], [], M, 0) P := by
  refine am_e_iload_n dd_3_29 rfl rfl ?_
  exact am_e_iret dd_3_30 (by decide +kernel) (Or.inl rfl) k

theorem sg_3_31 {sh : am_Sh} {C : Nat → am_M → List am_V → am_O → Prop} {P : am_S ⊕ am_O → Prop} {M : am_M} {t0 : Nat} {x1 : Int32} {x2 : Int32} {x3 : Int32}  (k : am_ev sh C 3 (8, [some (am_R (some (5, t0, 0))), some (am_I x1), some (am_I x2), some (am_I (x3 + 1))], [], M, 0) P) : am_ev sh C 3 (31, [some (am_R (some (5, t0, 0))), some (am_I x1), some (am_I x2), some (am_I x3)], [], M, 0) P := by
  refine am_e_iinc (v := x3 + 1) dd_3_31 rfl rfl rfl rfl ?_
  refine am_e_goto (pc' := 8) dd_3_34 rfl ?_
  exact k

theorem sg_3_37 {sh : am_Sh} {C : Nat → am_M → List am_V → am_O → Prop} {P : am_S ⊕ am_O → Prop} {M : am_M} {t0 : Nat} {x1 : Int32} {x2 : Int32} {x3 : Int32}  (k : P (Sum.inr (M, Sum.inl (some (am_I (-1)))))) : am_ev sh C 3 (37, [some (am_R (some (5, t0, 0))), some (am_I x1), some (am_I x2), some (am_I x3)], [], M, 0) P := by
  refine am_e_iconst (v := (-1)) dd_3_37 rfl rfl ?_
  exact am_e_iret dd_3_38 (by decide +kernel) (Or.inl rfl) k

-- 4: CacheLadder$Tier.setOf(I)I
theorem dd_4_0 : decode (am_b 4) 0 = .ok (.iload_n 1, 1) := by decide +kernel
theorem dd_4_1 : decode (am_b 4) 1 = .ok (.aload_n 0, 1) := by decide +kernel
theorem dd_4_2 : decode (am_b 4) 2 = .ok (.getfield 15, 3) := by decide +kernel
theorem dd_4_5 : decode (am_b 4) 5 = .ok (.iconst 1, 1) := by decide +kernel
theorem dd_4_6 : decode (am_b 4) 6 = .ok (.isub, 1) := by decide +kernel
theorem dd_4_7 : decode (am_b 4) 7 = .ok (.iand, 1) := by decide +kernel
theorem dd_4_8 : decode (am_b 4) 8 = .ok (.ireturn, 1) := by decide +kernel
theorem sg_4_0 {sh : am_Sh} {C : Nat → am_M → List am_V → am_O → Prop} {P : am_S ⊕ am_O → Prop} {M : am_M} {t0 : Nat} {x1 : Int32} (ht0 : t0 < sh.1) (k : P (Sum.inr (M, Sum.inl (some (am_I (x1 &&& ((M (5, t0, 0) 0) - 1))))))) : am_ev sh C 4 (0, [some (am_R (some (5, t0, 0))), some (am_I x1)], [], M, 0) P := by
  refine am_e_iload_n dd_4_0 rfl rfl ?_
  refine am_e_aload_n dd_4_1 rfl rfl ?_
  refine am_e_gf (ci := 1) (j := 0) (v := am_I (M (5, t0, 0) 0)) dd_4_2 (by decide +kernel) (am_ct5 ht0) rfl rfl ?_
  refine am_e_iconst (v := 1) dd_4_5 rfl rfl ?_
  refine am_e_isub dd_4_6 rfl ?_
  refine am_e_iand dd_4_7 rfl ?_
  exact am_e_iret dd_4_8 (by decide +kernel) (Or.inl rfl) k

-- 5: CacheLadder$Tier.at(II)LCacheLadder$Line;
theorem dd_5_0 : decode (am_b 5) 0 = .ok (.aload_n 0, 1) := by decide +kernel
theorem dd_5_1 : decode (am_b 5) 1 = .ok (.getfield 34, 3) := by decide +kernel
theorem dd_5_4 : decode (am_b 5) 4 = .ok (.iload_n 1, 1) := by decide +kernel
theorem dd_5_5 : decode (am_b 5) 5 = .ok (.aload_n 0, 1) := by decide +kernel
theorem dd_5_6 : decode (am_b 5) 6 = .ok (.getfield 19, 3) := by decide +kernel
theorem dd_5_9 : decode (am_b 5) 9 = .ok (.imul, 1) := by decide +kernel
theorem dd_5_10 : decode (am_b 5) 10 = .ok (.iload_n 2, 1) := by decide +kernel
theorem dd_5_11 : decode (am_b 5) 11 = .ok (.iadd, 1) := by decide +kernel
theorem dd_5_12 : decode (am_b 5) 12 = .ok (.aaload, 1) := by decide +kernel
theorem dd_5_13 : decode (am_b 5) 13 = .ok (.areturn, 1) := by decide +kernel
theorem sg_5_0 {sh : am_Sh} {C : Nat → am_M → List am_V → am_O → Prop} {P : am_S ⊕ am_O → Prop} {M : am_M} {t0 : Nat} {x1 : Int32} {x2 : Int32} {j1 : Nat} (ht0 : t0 < sh.1) (hok : am_shok sh) (hx_j1 : (x1 * (M (5, t0, 0) 1)) + x2 = nI j1) (ht0_j1 : j1 < (sh.2.1 t0)) (k : P (Sum.inr (M, Sum.inl (some (am_R (some (9, t0, j1))))))) : am_ev sh C 5 (0, [some (am_R (some (5, t0, 0))), some (am_I x1), some (am_I x2)], [], M, 0) P := by
  refine am_e_aload_n dd_5_0 rfl rfl ?_
  refine am_e_gf (ci := 1) (j := 5) (v := am_R (some (6, t0, 0))) dd_5_1 (by decide +kernel) (am_ct5 ht0) rfl rfl ?_
  refine am_e_iload_n dd_5_4 rfl rfl ?_
  refine am_e_aload_n dd_5_5 rfl rfl ?_
  refine am_e_gf (ci := 1) (j := 1) (v := am_I (M (5, t0, 0) 1)) dd_5_6 (by decide +kernel) (am_ct5 ht0) rfl rfl ?_
  refine am_e_imul dd_5_9 rfl ?_
  refine am_e_iload_n dd_5_10 rfl rfl ?_
  refine am_e_iadd dd_5_11 rfl ?_
  refine am_a_rald dd_5_12 (am_ct6 ht0) (Or.inr rfl) hx_j1 ht0_j1 (Nat.lt_of_le_of_lt (hok t0).1 (by decide)) (am_rf6 ht0_j1) rfl ?_
  exact am_e_aret dd_5_13 (by decide +kernel) rfl k

-- 6: CacheLadder$Tier.lose()V
theorem dd_6_0 : decode (am_b 6) 0 = .ok (.iconst 0, 1) := by decide +kernel
theorem dd_6_1 : decode (am_b 6) 1 = .ok (.istore_n 1, 1) := by decide +kernel
theorem dd_6_2 : decode (am_b 6) 2 = .ok (.iload_n 1, 1) := by decide +kernel
theorem dd_6_3 : decode (am_b 6) 3 = .ok (.aload_n 0, 1) := by decide +kernel
theorem dd_6_4 : decode (am_b 6) 4 = .ok (.getfield 34, 3) := by decide +kernel
theorem dd_6_7 : decode (am_b 6) 7 = .ok (.arraylength, 1) := by decide +kernel
theorem dd_6_8 : decode (am_b 6) 8 = .ok (.if_icmp .ge 18, 3) := by decide +kernel
theorem dd_6_11 : decode (am_b 6) 11 = .ok (.aload_n 0, 1) := by decide +kernel
theorem dd_6_12 : decode (am_b 6) 12 = .ok (.getfield 34, 3) := by decide +kernel
theorem dd_6_15 : decode (am_b 6) 15 = .ok (.iload_n 1, 1) := by decide +kernel
theorem dd_6_16 : decode (am_b 6) 16 = .ok (.aaload, 1) := by decide +kernel
theorem dd_6_17 : decode (am_b 6) 17 = .ok (.invokevirtual 99, 3) := by decide +kernel
theorem dd_6_20 : decode (am_b 6) 20 = .ok (.iinc 1 1, 3) := by decide +kernel
theorem dd_6_23 : decode (am_b 6) 23 = .ok (.goto (-21), 3) := by decide +kernel
theorem dd_6_26 : decode (am_b 6) 26 = .ok (.iconst 0, 1) := by decide +kernel
theorem dd_6_27 : decode (am_b 6) 27 = .ok (.istore_n 1, 1) := by decide +kernel
theorem dd_6_28 : decode (am_b 6) 28 = .ok (.iload_n 1, 1) := by decide +kernel
theorem dd_6_29 : decode (am_b 6) 29 = .ok (.aload_n 0, 1) := by decide +kernel
theorem dd_6_30 : decode (am_b 6) 30 = .ok (.getfield 15, 3) := by decide +kernel
theorem dd_6_33 : decode (am_b 6) 33 = .ok (.if_icmp .ge 16, 3) := by decide +kernel
theorem dd_6_36 : decode (am_b 6) 36 = .ok (.aload_n 0, 1) := by decide +kernel
theorem dd_6_37 : decode (am_b 6) 37 = .ok (.getfield 39, 3) := by decide +kernel
theorem dd_6_40 : decode (am_b 6) 40 = .ok (.iload_n 1, 1) := by decide +kernel
theorem dd_6_41 : decode (am_b 6) 41 = .ok (.iconst 0, 1) := by decide +kernel
theorem dd_6_42 : decode (am_b 6) 42 = .ok (.iastore, 1) := by decide +kernel
theorem dd_6_43 : decode (am_b 6) 43 = .ok (.iinc 1 1, 3) := by decide +kernel
theorem dd_6_46 : decode (am_b 6) 46 = .ok (.goto (-18), 3) := by decide +kernel
theorem dd_6_49 : decode (am_b 6) 49 = .ok (.return_, 1) := by decide +kernel
theorem sg_6_0 {sh : am_Sh} {C : Nat → am_M → List am_V → am_O → Prop} {P : am_S ⊕ am_O → Prop} {M : am_M} {t0 : Nat} {u1 : Option am_V}  (k : am_ev sh C 6 (2, [some (am_R (some (5, t0, 0))), some (am_I 0)], [], M, 0) P) : am_ev sh C 6 (0, [some (am_R (some (5, t0, 0))), u1], [], M, 0) P := by
  refine am_e_iconst (v := 0) dd_6_0 rfl rfl ?_
  refine am_e_istore_n dd_6_1 (Nat.le_of_ble_eq_true rfl) rfl rfl ?_
  exact k

theorem sg_6_2 {sh : am_Sh} {C : Nat → am_M → List am_V → am_O → Prop} {P : am_S ⊕ am_O → Prop} {M : am_M} {t0 : Nat} {x1 : Int32} (ht0 : t0 < sh.1) (hok : am_shok sh) (k1 : (nI (sh.2.1 t0)) ≤ x1 → am_ev sh C 6 (26, [some (am_R (some (5, t0, 0))), some (am_I x1)], [], M, 0) P) (k2 : ¬ (nI (sh.2.1 t0)) ≤ x1 → am_ev sh C 6 (11, [some (am_R (some (5, t0, 0))), some (am_I x1)], [], M, 0) P) : am_ev sh C 6 (2, [some (am_R (some (5, t0, 0))), some (am_I x1)], [], M, 0) P := by
  refine am_e_iload_n dd_6_2 rfl rfl ?_
  refine am_e_aload_n dd_6_3 rfl rfl ?_
  refine am_e_gf (ci := 1) (j := 5) (v := am_R (some (6, t0, 0))) dd_6_4 (by decide +kernel) (am_ct5 ht0) rfl rfl ?_
  refine am_e_len dd_6_7 (am_ct6 ht0) rfl ?_
  exact am_a_icmp_ge (tgt := 26) (pc' := 11) dd_6_8 rfl rfl k1 k2

theorem sg_6_11 {sh : am_Sh} {C : Nat → am_M → List am_V → am_O → Prop} {P : am_S ⊕ am_O → Prop} {M : am_M} {t0 : Nat} {x1 : Int32} {j1 : Nat} {M1 : am_M} (ht0 : t0 < sh.1) (hok : am_shok sh) (hx_j1 : x1 = nI j1) (ht0_j1 : j1 < (sh.2.1 t0)) (ht0_j1 : j1 < sh.2.1 t0) (hc1 : C 0 M [am_R (some (9, t0, j1))] (M1, Sum.inl none)) (k : am_ev sh C 6 (2, [some (am_R (some (5, t0, 0))), some (am_I (x1 + 1))], [], M1, 0) P) : am_ev sh C 6 (11, [some (am_R (some (5, t0, 0))), some (am_I x1)], [], M, 0) P := by
  refine am_e_aload_n dd_6_11 rfl rfl ?_
  refine am_e_gf (ci := 1) (j := 5) (v := am_R (some (6, t0, 0))) dd_6_12 (by decide +kernel) (am_ct5 ht0) rfl rfl ?_
  refine am_e_iload_n dd_6_15 rfl rfl ?_
  refine am_a_rald dd_6_16 (am_ct6 ht0) (Or.inr rfl) hx_j1 ht0_j1 (Nat.lt_of_le_of_lt (hok t0).1 (by decide)) (am_rf6 ht0_j1) rfl ?_
  refine am_e_callV (c := 0) (k := 1) (as := [am_R (some (9, t0, j1))]) (S' := []) (v := none) (M' := M1) (n' := 0) dd_6_17 (by decide +kernel) ⟨Nat.le_of_ble_eq_true rfl, Nat.le_of_ble_eq_true rfl, by decide +kernel, (Or.inr (am_rcv_of (am_ct9 ht0 ht0_j1)))⟩ rfl rfl (by decide +kernel) hc1 rfl ?_
  refine am_e_iinc (v := x1 + 1) dd_6_20 rfl rfl rfl rfl ?_
  refine am_e_goto (pc' := 2) dd_6_23 rfl ?_
  exact k

theorem sg_6_26 {sh : am_Sh} {C : Nat → am_M → List am_V → am_O → Prop} {P : am_S ⊕ am_O → Prop} {M : am_M} {t0 : Nat} {x1 : Int32}  (k : am_ev sh C 6 (28, [some (am_R (some (5, t0, 0))), some (am_I 0)], [], M, 0) P) : am_ev sh C 6 (26, [some (am_R (some (5, t0, 0))), some (am_I x1)], [], M, 0) P := by
  refine am_e_iconst (v := 0) dd_6_26 rfl rfl ?_
  refine am_e_istore_n dd_6_27 (Nat.le_of_ble_eq_true rfl) rfl rfl ?_
  exact k

theorem sg_6_28 {sh : am_Sh} {C : Nat → am_M → List am_V → am_O → Prop} {P : am_S ⊕ am_O → Prop} {M : am_M} {t0 : Nat} {x1 : Int32} (ht0 : t0 < sh.1) (k1 : (M (5, t0, 0) 0) ≤ x1 → am_ev sh C 6 (49, [some (am_R (some (5, t0, 0))), some (am_I x1)], [], M, 0) P) (k2 : ¬ (M (5, t0, 0) 0) ≤ x1 → am_ev sh C 6 (36, [some (am_R (some (5, t0, 0))), some (am_I x1)], [], M, 0) P) : am_ev sh C 6 (28, [some (am_R (some (5, t0, 0))), some (am_I x1)], [], M, 0) P := by
  refine am_e_iload_n dd_6_28 rfl rfl ?_
  refine am_e_aload_n dd_6_29 rfl rfl ?_
  refine am_e_gf (ci := 1) (j := 0) (v := am_I (M (5, t0, 0) 0)) dd_6_30 (by decide +kernel) (am_ct5 ht0) rfl rfl ?_
  exact am_a_icmp_ge (tgt := 49) (pc' := 36) dd_6_33 rfl rfl k1 k2

theorem sg_6_36 {sh : am_Sh} {C : Nat → am_M → List am_V → am_O → Prop} {P : am_S ⊕ am_O → Prop} {M : am_M} {t0 : Nat} {x1 : Int32} {j1 : Nat} (ht0 : t0 < sh.1) (hok : am_shok sh) (hx_j1 : x1 = nI j1) (hl_j1 : j1 < (sh.2.2.1 t0)) (k : am_ev sh C 6 (28, [some (am_R (some (5, t0, 0))), some (am_I (x1 + 1))], [], (am_up M (7, t0, 0) j1 0), 0) P) : am_ev sh C 6 (36, [some (am_R (some (5, t0, 0))), some (am_I x1)], [], M, 0) P := by
  refine am_e_aload_n dd_6_36 rfl rfl ?_
  refine am_e_gf (ci := 1) (j := 6) (v := am_R (some (7, t0, 0))) dd_6_37 (by decide +kernel) (am_ct5 ht0) rfl rfl ?_
  refine am_e_iload_n dd_6_40 rfl rfl ?_
  refine am_e_iconst (v := 0) dd_6_41 rfl rfl ?_
  refine am_a_iast dd_6_42 (am_ct7 ht0) hx_j1 hl_j1 (Nat.lt_of_le_of_lt (hok t0).2 (by decide)) rfl ?_
  refine am_e_iinc (v := x1 + 1) dd_6_43 rfl rfl rfl rfl ?_
  refine am_e_goto (pc' := 28) dd_6_46 rfl ?_
  exact k

theorem sg_6_49 {sh : am_Sh} {C : Nat → am_M → List am_V → am_O → Prop} {P : am_S ⊕ am_O → Prop} {M : am_M} {t0 : Nat} {x1 : Int32}  (k : P (Sum.inr (M, Sum.inl none))) : am_ev sh C 6 (49, [some (am_R (some (5, t0, 0))), some (am_I x1)], [], M, 0) P := by
  exact am_e_vret dd_6_49 (by decide +kernel) rfl k

-- 7: CacheLadder$Tier.freeIn(I)LCacheLadder$Line;
theorem dd_7_0 : decode (am_b 7) 0 = .ok (.iconst 0, 1) := by decide +kernel
theorem dd_7_1 : decode (am_b 7) 1 = .ok (.istore_n 2, 1) := by decide +kernel
theorem dd_7_2 : decode (am_b 7) 2 = .ok (.iload_n 2, 1) := by decide +kernel
theorem dd_7_3 : decode (am_b 7) 3 = .ok (.aload_n 0, 1) := by decide +kernel
theorem dd_7_4 : decode (am_b 7) 4 = .ok (.getfield 19, 3) := by decide +kernel
theorem dd_7_7 : decode (am_b 7) 7 = .ok (.if_icmp .ge 28, 3) := by decide +kernel
theorem dd_7_10 : decode (am_b 7) 10 = .ok (.aload_n 0, 1) := by decide +kernel
theorem dd_7_11 : decode (am_b 7) 11 = .ok (.iload_n 1, 1) := by decide +kernel
theorem dd_7_12 : decode (am_b 7) 12 = .ok (.iload_n 2, 1) := by decide +kernel
theorem dd_7_13 : decode (am_b 7) 13 = .ok (.invokevirtual 46, 3) := by decide +kernel
theorem dd_7_16 : decode (am_b 7) 16 = .ok (.invokevirtual 56, 3) := by decide +kernel
theorem dd_7_19 : decode (am_b 7) 19 = .ok (.ifCond .ne 10, 3) := by decide +kernel
theorem dd_7_22 : decode (am_b 7) 22 = .ok (.aload_n 0, 1) := by decide +kernel
theorem dd_7_23 : decode (am_b 7) 23 = .ok (.iload_n 1, 1) := by decide +kernel
theorem dd_7_24 : decode (am_b 7) 24 = .ok (.iload_n 2, 1) := by decide +kernel
theorem dd_7_25 : decode (am_b 7) 25 = .ok (.invokevirtual 46, 3) := by decide +kernel
theorem dd_7_28 : decode (am_b 7) 28 = .ok (.areturn, 1) := by decide +kernel
theorem dd_7_29 : decode (am_b 7) 29 = .ok (.iinc 2 1, 3) := by decide +kernel
theorem dd_7_32 : decode (am_b 7) 32 = .ok (.goto (-30), 3) := by decide +kernel
theorem dd_7_35 : decode (am_b 7) 35 = .ok (.aconst_null, 1) := by decide +kernel
theorem dd_7_36 : decode (am_b 7) 36 = .ok (.areturn, 1) := by decide +kernel
theorem sg_7_0 {sh : am_Sh} {C : Nat → am_M → List am_V → am_O → Prop} {P : am_S ⊕ am_O → Prop} {M : am_M} {t0 : Nat} {x1 : Int32} {u2 : Option am_V}  (k : am_ev sh C 7 (2, [some (am_R (some (5, t0, 0))), some (am_I x1), some (am_I 0)], [], M, 0) P) : am_ev sh C 7 (0, [some (am_R (some (5, t0, 0))), some (am_I x1), u2], [], M, 0) P := by
  refine am_e_iconst (v := 0) dd_7_0 rfl rfl ?_
  refine am_e_istore_n dd_7_1 (Nat.le_of_ble_eq_true rfl) rfl rfl ?_
  exact k

theorem sg_7_2 {sh : am_Sh} {C : Nat → am_M → List am_V → am_O → Prop} {P : am_S ⊕ am_O → Prop} {M : am_M} {t0 : Nat} {x1 : Int32} {x2 : Int32} (ht0 : t0 < sh.1) (k1 : (M (5, t0, 0) 1) ≤ x2 → am_ev sh C 7 (35, [some (am_R (some (5, t0, 0))), some (am_I x1), some (am_I x2)], [], M, 0) P) (k2 : ¬ (M (5, t0, 0) 1) ≤ x2 → am_ev sh C 7 (10, [some (am_R (some (5, t0, 0))), some (am_I x1), some (am_I x2)], [], M, 0) P) : am_ev sh C 7 (2, [some (am_R (some (5, t0, 0))), some (am_I x1), some (am_I x2)], [], M, 0) P := by
  refine am_e_iload_n dd_7_2 rfl rfl ?_
  refine am_e_aload_n dd_7_3 rfl rfl ?_
  refine am_e_gf (ci := 1) (j := 1) (v := am_I (M (5, t0, 0) 1)) dd_7_4 (by decide +kernel) (am_ct5 ht0) rfl rfl ?_
  exact am_a_icmp_ge (tgt := 35) (pc' := 10) dd_7_7 rfl rfl k1 k2

theorem sg_7_10 {sh : am_Sh} {C : Nat → am_M → List am_V → am_O → Prop} {P : am_S ⊕ am_O → Prop} {M : am_M} {t0 : Nat} {x1 : Int32} {x2 : Int32} {M1 : am_M} {tq1 : Nat} {iq1 : Nat} {M2 : am_M} {r1 : Int32} (ht0 : t0 < sh.1) (hc1 : C 5 M [am_R (some (5, t0, 0)), am_I x1, am_I x2] (M1, Sum.inl (some (am_R (some (9, tq1, iq1)))))) (ht_tq1 : tq1 < sh.1) (htq1_iq1 : iq1 < sh.2.1 tq1) (hc2 : C 1 M1 [am_R (some (9, tq1, iq1))] (M2, Sum.inl (some (am_I r1)))) (k1 : ¬ r1 = 0 → am_ev sh C 7 (29, [some (am_R (some (5, t0, 0))), some (am_I x1), some (am_I x2)], [], M2, 0) P) (k2 : r1 = 0 → am_ev sh C 7 (22, [some (am_R (some (5, t0, 0))), some (am_I x1), some (am_I x2)], [], M2, 0) P) : am_ev sh C 7 (10, [some (am_R (some (5, t0, 0))), some (am_I x1), some (am_I x2)], [], M, 0) P := by
  refine am_e_aload_n dd_7_10 rfl rfl ?_
  refine am_e_iload_n dd_7_11 rfl rfl ?_
  refine am_e_iload_n dd_7_12 rfl rfl ?_
  refine am_e_callV (c := 5) (k := 3) (as := [am_R (some (5, t0, 0)), am_I x1, am_I x2]) (S' := [am_R (some (9, tq1, iq1))]) (v := some (am_R (some (9, tq1, iq1)))) (M' := M1) (n' := 0) dd_7_13 (by decide +kernel) ⟨Nat.le_of_ble_eq_true rfl, Nat.le_of_ble_eq_true rfl, by decide +kernel, (Or.inr (am_rcv_of (am_ct5 ht0)))⟩ rfl rfl (by decide +kernel) hc1 rfl ?_
  refine am_e_callV (c := 1) (k := 1) (as := [am_R (some (9, tq1, iq1))]) (S' := [am_I r1]) (v := some (am_I r1)) (M' := M2) (n' := 0) dd_7_16 (by decide +kernel) ⟨Nat.le_of_ble_eq_true rfl, Nat.le_of_ble_eq_true rfl, by decide +kernel, (Or.inr (am_rcv_of (am_ct9 ht_tq1 htq1_iq1)))⟩ rfl rfl (by decide +kernel) hc2 rfl ?_
  exact am_a_if_ne (tgt := 29) (pc' := 22) dd_7_19 rfl rfl k1 k2

theorem sg_7_22 {sh : am_Sh} {C : Nat → am_M → List am_V → am_O → Prop} {P : am_S ⊕ am_O → Prop} {M : am_M} {t0 : Nat} {x1 : Int32} {x2 : Int32} {M1 : am_M} {oq1 : Option am_K} (ht0 : t0 < sh.1) (hc1 : C 5 M [am_R (some (5, t0, 0)), am_I x1, am_I x2] (M1, Sum.inl (some (am_R oq1)))) (k : P (Sum.inr (M1, Sum.inl (some (am_R oq1))))) : am_ev sh C 7 (22, [some (am_R (some (5, t0, 0))), some (am_I x1), some (am_I x2)], [], M, 0) P := by
  refine am_e_aload_n dd_7_22 rfl rfl ?_
  refine am_e_iload_n dd_7_23 rfl rfl ?_
  refine am_e_iload_n dd_7_24 rfl rfl ?_
  refine am_e_callV (c := 5) (k := 3) (as := [am_R (some (5, t0, 0)), am_I x1, am_I x2]) (S' := [am_R oq1]) (v := some (am_R oq1)) (M' := M1) (n' := 0) dd_7_25 (by decide +kernel) ⟨Nat.le_of_ble_eq_true rfl, Nat.le_of_ble_eq_true rfl, by decide +kernel, (Or.inr (am_rcv_of (am_ct5 ht0)))⟩ rfl rfl (by decide +kernel) hc1 rfl ?_
  exact am_e_aret dd_7_28 (by decide +kernel) rfl k

theorem sg_7_29 {sh : am_Sh} {C : Nat → am_M → List am_V → am_O → Prop} {P : am_S ⊕ am_O → Prop} {M : am_M} {t0 : Nat} {x1 : Int32} {x2 : Int32}  (k : am_ev sh C 7 (2, [some (am_R (some (5, t0, 0))), some (am_I x1), some (am_I (x2 + 1))], [], M, 0) P) : am_ev sh C 7 (29, [some (am_R (some (5, t0, 0))), some (am_I x1), some (am_I x2)], [], M, 0) P := by
  refine am_e_iinc (v := x2 + 1) dd_7_29 rfl rfl rfl rfl ?_
  refine am_e_goto (pc' := 2) dd_7_32 rfl ?_
  exact k

theorem sg_7_35 {sh : am_Sh} {C : Nat → am_M → List am_V → am_O → Prop} {P : am_S ⊕ am_O → Prop} {M : am_M} {t0 : Nat} {x1 : Int32} {x2 : Int32}  (k : P (Sum.inr (M, Sum.inl (some (am_R none))))) : am_ev sh C 7 (35, [some (am_R (some (5, t0, 0))), some (am_I x1), some (am_I x2)], [], M, 0) P := by
  refine am_e_null dd_7_35 rfl ?_
  exact am_e_aret dd_7_36 (by decide +kernel) rfl k

-- 8: CacheLadder$Tier.choose(I)LCacheLadder$Line;
theorem dd_8_0 : decode (am_b 8) 0 = .ok (.aload_n 0, 1) := by decide +kernel
theorem dd_8_1 : decode (am_b 8) 1 = .ok (.getfield 22, 3) := by decide +kernel
theorem dd_8_4 : decode (am_b 8) 4 = .ok (.iconst 2, 1) := by decide +kernel
theorem dd_8_5 : decode (am_b 8) 5 = .ok (.if_icmp .ne 11, 3) := by decide +kernel
theorem dd_8_8 : decode (am_b 8) 8 = .ok (.aload_n 0, 1) := by decide +kernel
theorem dd_8_9 : decode (am_b 8) 9 = .ok (.iload_n 1, 1) := by decide +kernel
theorem dd_8_10 : decode (am_b 8) 10 = .ok (.invokevirtual 60, 3) := by decide +kernel
theorem dd_8_13 : decode (am_b 8) 13 = .ok (.goto 8, 3) := by decide +kernel
theorem dd_8_16 : decode (am_b 8) 16 = .ok (.aload_n 0, 1) := by decide +kernel
theorem dd_8_17 : decode (am_b 8) 17 = .ok (.iload_n 1, 1) := by decide +kernel
theorem dd_8_18 : decode (am_b 8) 18 = .ok (.invokevirtual 64, 3) := by decide +kernel
theorem dd_8_21 : decode (am_b 8) 21 = .ok (.areturn, 1) := by decide +kernel
theorem sg_8_0 {sh : am_Sh} {C : Nat → am_M → List am_V → am_O → Prop} {P : am_S ⊕ am_O → Prop} {M : am_M} {t0 : Nat} {x1 : Int32} (ht0 : t0 < sh.1) (k1 : ¬ (M (5, t0, 0) 2) = 2 → am_ev sh C 8 (16, [some (am_R (some (5, t0, 0))), some (am_I x1)], [], M, 0) P) (k2 : (M (5, t0, 0) 2) = 2 → am_ev sh C 8 (8, [some (am_R (some (5, t0, 0))), some (am_I x1)], [], M, 0) P) : am_ev sh C 8 (0, [some (am_R (some (5, t0, 0))), some (am_I x1)], [], M, 0) P := by
  refine am_e_aload_n dd_8_0 rfl rfl ?_
  refine am_e_gf (ci := 1) (j := 2) (v := am_I (M (5, t0, 0) 2)) dd_8_1 (by decide +kernel) (am_ct5 ht0) rfl rfl ?_
  refine am_e_iconst (v := 2) dd_8_4 rfl rfl ?_
  exact am_a_icmp_ne (tgt := 16) (pc' := 8) dd_8_5 rfl rfl k1 k2

theorem sg_8_8 {sh : am_Sh} {C : Nat → am_M → List am_V → am_O → Prop} {P : am_S ⊕ am_O → Prop} {M : am_M} {t0 : Nat} {x1 : Int32} {M1 : am_M} {oq1 : Option am_K} (ht0 : t0 < sh.1) (hc1 : C 9 M [am_R (some (5, t0, 0)), am_I x1] (M1, Sum.inl (some (am_R oq1)))) (k : am_ev sh C 8 (21, [some (am_R (some (5, t0, 0))), some (am_I x1)], [am_R oq1], M1, 0) P) : am_ev sh C 8 (8, [some (am_R (some (5, t0, 0))), some (am_I x1)], [], M, 0) P := by
  refine am_e_aload_n dd_8_8 rfl rfl ?_
  refine am_e_iload_n dd_8_9 rfl rfl ?_
  refine am_e_callV (c := 9) (k := 2) (as := [am_R (some (5, t0, 0)), am_I x1]) (S' := [am_R oq1]) (v := some (am_R oq1)) (M' := M1) (n' := 0) dd_8_10 (by decide +kernel) ⟨Nat.le_of_ble_eq_true rfl, Nat.le_of_ble_eq_true rfl, by decide +kernel, (Or.inr (am_rcv_of (am_ct5 ht0)))⟩ rfl rfl (by decide +kernel) hc1 rfl ?_
  refine am_e_goto (pc' := 21) dd_8_13 rfl ?_
  exact k

theorem sg_8_16 {sh : am_Sh} {C : Nat → am_M → List am_V → am_O → Prop} {P : am_S ⊕ am_O → Prop} {M : am_M} {t0 : Nat} {x1 : Int32} {M1 : am_M} {oq1 : Option am_K} (ht0 : t0 < sh.1) (hc1 : C 11 M [am_R (some (5, t0, 0)), am_I x1] (M1, Sum.inl (some (am_R oq1)))) (k : am_ev sh C 8 (21, [some (am_R (some (5, t0, 0))), some (am_I x1)], [am_R oq1], M1, 0) P) : am_ev sh C 8 (16, [some (am_R (some (5, t0, 0))), some (am_I x1)], [], M, 0) P := by
  refine am_e_aload_n dd_8_16 rfl rfl ?_
  refine am_e_iload_n dd_8_17 rfl rfl ?_
  refine am_e_callV (c := 11) (k := 2) (as := [am_R (some (5, t0, 0)), am_I x1]) (S' := [am_R oq1]) (v := some (am_R oq1)) (M' := M1) (n' := 0) dd_8_18 (by decide +kernel) ⟨Nat.le_of_ble_eq_true rfl, Nat.le_of_ble_eq_true rfl, by decide +kernel, (Or.inr (am_rcv_of (am_ct5 ht0)))⟩ rfl rfl (by decide +kernel) hc1 rfl ?_
  exact k

theorem sg_8_21 {sh : am_Sh} {C : Nat → am_M → List am_V → am_O → Prop} {P : am_S ⊕ am_O → Prop} {M : am_M} {t0 : Nat} {x1 : Int32} {os0 : Option am_K}  (k : P (Sum.inr (M, Sum.inl (some (am_R os0))))) : am_ev sh C 8 (21, [some (am_R (some (5, t0, 0))), some (am_I x1)], [am_R os0], M, 0) P := by
  exact am_e_aret dd_8_21 (by decide +kernel) rfl k

-- 9: CacheLadder$Tier.turnHand(I)LCacheLadder$Line;
theorem dd_9_0 : decode (am_b 9) 0 = .ok (.aload_n 0, 1) := by decide +kernel
theorem dd_9_1 : decode (am_b 9) 1 = .ok (.iload_n 1, 1) := by decide +kernel
theorem dd_9_2 : decode (am_b 9) 2 = .ok (.aload_n 0, 1) := by decide +kernel
theorem dd_9_3 : decode (am_b 9) 3 = .ok (.getfield 39, 3) := by decide +kernel
theorem dd_9_6 : decode (am_b 9) 6 = .ok (.iload_n 1, 1) := by decide +kernel
theorem dd_9_7 : decode (am_b 9) 7 = .ok (.iaload, 1) := by decide +kernel
theorem dd_9_8 : decode (am_b 9) 8 = .ok (.invokevirtual 46, 3) := by decide +kernel
theorem dd_9_11 : decode (am_b 9) 11 = .ok (.astore_n 2, 1) := by decide +kernel
theorem dd_9_12 : decode (am_b 9) 12 = .ok (.iconst 0, 1) := by decide +kernel
theorem dd_9_13 : decode (am_b 9) 13 = .ok (.istore_n 3, 1) := by decide +kernel
theorem dd_9_14 : decode (am_b 9) 14 = .ok (.iload_n 3, 1) := by decide +kernel
theorem dd_9_15 : decode (am_b 9) 15 = .ok (.aload_n 0, 1) := by decide +kernel
theorem dd_9_16 : decode (am_b 9) 16 = .ok (.getfield 19, 3) := by decide +kernel
theorem dd_9_19 : decode (am_b 9) 19 = .ok (.if_icmp .gt 52, 3) := by decide +kernel
theorem dd_9_22 : decode (am_b 9) 22 = .ok (.aload_n 0, 1) := by decide +kernel
theorem dd_9_23 : decode (am_b 9) 23 = .ok (.iload_n 1, 1) := by decide +kernel
theorem dd_9_24 : decode (am_b 9) 24 = .ok (.aload_n 0, 1) := by decide +kernel
theorem dd_9_25 : decode (am_b 9) 25 = .ok (.getfield 39, 3) := by decide +kernel
theorem dd_9_28 : decode (am_b 9) 28 = .ok (.iload_n 1, 1) := by decide +kernel
theorem dd_9_29 : decode (am_b 9) 29 = .ok (.iaload, 1) := by decide +kernel
theorem dd_9_30 : decode (am_b 9) 30 = .ok (.invokevirtual 46, 3) := by decide +kernel
theorem dd_9_33 : decode (am_b 9) 33 = .ok (.astore_n 2, 1) := by decide +kernel
theorem dd_9_34 : decode (am_b 9) 34 = .ok (.aload_n 0, 1) := by decide +kernel
theorem dd_9_35 : decode (am_b 9) 35 = .ok (.getfield 39, 3) := by decide +kernel
theorem dd_9_38 : decode (am_b 9) 38 = .ok (.iload_n 1, 1) := by decide +kernel
theorem dd_9_39 : decode (am_b 9) 39 = .ok (.aload_n 0, 1) := by decide +kernel
theorem dd_9_40 : decode (am_b 9) 40 = .ok (.aload_n 0, 1) := by decide +kernel
theorem dd_9_41 : decode (am_b 9) 41 = .ok (.getfield 39, 3) := by decide +kernel
theorem dd_9_44 : decode (am_b 9) 44 = .ok (.iload_n 1, 1) := by decide +kernel
theorem dd_9_45 : decode (am_b 9) 45 = .ok (.iaload, 1) := by decide +kernel
theorem dd_9_46 : decode (am_b 9) 46 = .ok (.invokevirtual 83, 3) := by decide +kernel
theorem dd_9_49 : decode (am_b 9) 49 = .ok (.iastore, 1) := by decide +kernel
theorem dd_9_50 : decode (am_b 9) 50 = .ok (.aload_n 2, 1) := by decide +kernel
theorem dd_9_51 : decode (am_b 9) 51 = .ok (.getfield 86, 3) := by decide +kernel
theorem dd_9_54 : decode (am_b 9) 54 = .ok (.ifCond .ne 6, 3) := by decide +kernel
theorem dd_9_57 : decode (am_b 9) 57 = .ok (.goto 14, 3) := by decide +kernel
theorem dd_9_60 : decode (am_b 9) 60 = .ok (.aload_n 2, 1) := by decide +kernel
theorem dd_9_61 : decode (am_b 9) 61 = .ok (.iconst 0, 1) := by decide +kernel
theorem dd_9_62 : decode (am_b 9) 62 = .ok (.putfield 86, 3) := by decide +kernel
theorem dd_9_65 : decode (am_b 9) 65 = .ok (.iinc 3 1, 3) := by decide +kernel
theorem dd_9_68 : decode (am_b 9) 68 = .ok (.goto (-54), 3) := by decide +kernel
theorem dd_9_71 : decode (am_b 9) 71 = .ok (.aload_n 2, 1) := by decide +kernel
theorem dd_9_72 : decode (am_b 9) 72 = .ok (.areturn, 1) := by decide +kernel
theorem sg_9_0 {sh : am_Sh} {C : Nat → am_M → List am_V → am_O → Prop} {P : am_S ⊕ am_O → Prop} {M : am_M} {t0 : Nat} {x1 : Int32} {u2 : Option am_V} {u3 : Option am_V} {j1 : Nat} {M1 : am_M} {oq1 : Option am_K} (ht0 : t0 < sh.1) (hok : am_shok sh) (hx_j1 : x1 = nI j1) (hl_j1 : j1 < (sh.2.2.1 t0)) (hc1 : C 5 M [am_R (some (5, t0, 0)), am_I x1, am_I (M (7, t0, 0) j1)] (M1, Sum.inl (some (am_R oq1)))) (k : am_ev sh C 9 (14, [some (am_R (some (5, t0, 0))), some (am_I x1), some (am_R oq1), some (am_I 0)], [], M1, 0) P) : am_ev sh C 9 (0, [some (am_R (some (5, t0, 0))), some (am_I x1), u2, u3], [], M, 0) P := by
  refine am_e_aload_n dd_9_0 rfl rfl ?_
  refine am_e_iload_n dd_9_1 rfl rfl ?_
  refine am_e_aload_n dd_9_2 rfl rfl ?_
  refine am_e_gf (ci := 1) (j := 6) (v := am_R (some (7, t0, 0))) dd_9_3 (by decide +kernel) (am_ct5 ht0) rfl rfl ?_
  refine am_e_iload_n dd_9_6 rfl rfl ?_
  refine am_a_iald dd_9_7 (am_ct7 ht0) hx_j1 hl_j1 (Nat.lt_of_le_of_lt (hok t0).2 (by decide)) rfl ?_
  refine am_e_callV (c := 5) (k := 3) (as := [am_R (some (5, t0, 0)), am_I x1, am_I (M (7, t0, 0) j1)]) (S' := [am_R oq1]) (v := some (am_R oq1)) (M' := M1) (n' := 0) dd_9_8 (by decide +kernel) ⟨Nat.le_of_ble_eq_true rfl, Nat.le_of_ble_eq_true rfl, by decide +kernel, (Or.inr (am_rcv_of (am_ct5 ht0)))⟩ rfl rfl (by decide +kernel) hc1 rfl ?_
  refine am_e_astore_n dd_9_11 (Nat.le_of_ble_eq_true rfl) rfl rfl ?_
  refine am_e_iconst (v := 0) dd_9_12 rfl rfl ?_
  refine am_e_istore_n dd_9_13 (Nat.le_of_ble_eq_true rfl) rfl rfl ?_
  exact k

theorem sg_9_14 {sh : am_Sh} {C : Nat → am_M → List am_V → am_O → Prop} {P : am_S ⊕ am_O → Prop} {M : am_M} {t0 : Nat} {x1 : Int32} {o2 : Option am_K} {x3 : Int32} (ht0 : t0 < sh.1) (k1 : (M (5, t0, 0) 1) < x3 → am_ev sh C 9 (71, [some (am_R (some (5, t0, 0))), some (am_I x1), some (am_R o2), some (am_I x3)], [], M, 0) P) (k2 : ¬ (M (5, t0, 0) 1) < x3 → am_ev sh C 9 (22, [some (am_R (some (5, t0, 0))), some (am_I x1), some (am_R o2), some (am_I x3)], [], M, 0) P) : am_ev sh C 9 (14, [some (am_R (some (5, t0, 0))), some (am_I x1), some (am_R o2), some (am_I x3)], [], M, 0) P := by
  refine am_e_iload_n dd_9_14 rfl rfl ?_
  refine am_e_aload_n dd_9_15 rfl rfl ?_
  refine am_e_gf (ci := 1) (j := 1) (v := am_I (M (5, t0, 0) 1)) dd_9_16 (by decide +kernel) (am_ct5 ht0) rfl rfl ?_
  exact am_a_icmp_gt (tgt := 71) (pc' := 22) dd_9_19 rfl rfl k1 k2

theorem sg_9_22 {sh : am_Sh} {C : Nat → am_M → List am_V → am_O → Prop} {P : am_S ⊕ am_O → Prop} {M : am_M} {t0 : Nat} {x1 : Int32} {o2 : Option am_K} {x3 : Int32} {j1 : Nat} {M1 : am_M} {tq1 : Nat} {iq1 : Nat} {M2 : am_M} {r1 : Int32} (ht0 : t0 < sh.1) (hok : am_shok sh) (hx_j1 : x1 = nI j1) (hl_j1 : j1 < (sh.2.2.1 t0)) (hc1 : C 5 M [am_R (some (5, t0, 0)), am_I x1, am_I (M (7, t0, 0) j1)] (M1, Sum.inl (some (am_R (some (9, tq1, iq1)))))) (hc2 : C 10 M1 [am_R (some (5, t0, 0)), am_I (M1 (7, t0, 0) j1)] (M2, Sum.inl (some (am_I r1)))) (ht_tq1 : tq1 < sh.1) (htq1_iq1 : iq1 < sh.2.1 tq1) (k1 : ¬ ((am_up M2 (7, t0, 0) j1 r1) (9, tq1, iq1) 6) = 0 → am_ev sh C 9 (60, [some (am_R (some (5, t0, 0))), some (am_I x1), some (am_R (some (9, tq1, iq1))), some (am_I x3)], [], (am_up M2 (7, t0, 0) j1 r1), 0) P) (k2 : ((am_up M2 (7, t0, 0) j1 r1) (9, tq1, iq1) 6) = 0 → am_ev sh C 9 (57, [some (am_R (some (5, t0, 0))), some (am_I x1), some (am_R (some (9, tq1, iq1))), some (am_I x3)], [], (am_up M2 (7, t0, 0) j1 r1), 0) P) : am_ev sh C 9 (22, [some (am_R (some (5, t0, 0))), some (am_I x1), some (am_R o2), some (am_I x3)], [], M, 0) P := by
  refine am_e_aload_n dd_9_22 rfl rfl ?_
  refine am_e_iload_n dd_9_23 rfl rfl ?_
  refine am_e_aload_n dd_9_24 rfl rfl ?_
  refine am_e_gf (ci := 1) (j := 6) (v := am_R (some (7, t0, 0))) dd_9_25 (by decide +kernel) (am_ct5 ht0) rfl rfl ?_
  refine am_e_iload_n dd_9_28 rfl rfl ?_
  refine am_a_iald dd_9_29 (am_ct7 ht0) hx_j1 hl_j1 (Nat.lt_of_le_of_lt (hok t0).2 (by decide)) rfl ?_
  refine am_e_callV (c := 5) (k := 3) (as := [am_R (some (5, t0, 0)), am_I x1, am_I (M (7, t0, 0) j1)]) (S' := [am_R (some (9, tq1, iq1))]) (v := some (am_R (some (9, tq1, iq1)))) (M' := M1) (n' := 0) dd_9_30 (by decide +kernel) ⟨Nat.le_of_ble_eq_true rfl, Nat.le_of_ble_eq_true rfl, by decide +kernel, (Or.inr (am_rcv_of (am_ct5 ht0)))⟩ rfl rfl (by decide +kernel) hc1 rfl ?_
  refine am_e_astore_n dd_9_33 (Nat.le_of_ble_eq_true rfl) rfl rfl ?_
  refine am_e_aload_n dd_9_34 rfl rfl ?_
  refine am_e_gf (ci := 1) (j := 6) (v := am_R (some (7, t0, 0))) dd_9_35 (by decide +kernel) (am_ct5 ht0) rfl rfl ?_
  refine am_e_iload_n dd_9_38 rfl rfl ?_
  refine am_e_aload_n dd_9_39 rfl rfl ?_
  refine am_e_aload_n dd_9_40 rfl rfl ?_
  refine am_e_gf (ci := 1) (j := 6) (v := am_R (some (7, t0, 0))) dd_9_41 (by decide +kernel) (am_ct5 ht0) rfl rfl ?_
  refine am_e_iload_n dd_9_44 rfl rfl ?_
  refine am_a_iald dd_9_45 (am_ct7 ht0) hx_j1 hl_j1 (Nat.lt_of_le_of_lt (hok t0).2 (by decide)) rfl ?_
  refine am_e_callV (c := 10) (k := 2) (as := [am_R (some (5, t0, 0)), am_I (M1 (7, t0, 0) j1)]) (S' := [am_I r1, am_I x1, am_R (some (7, t0, 0))]) (v := some (am_I r1)) (M' := M2) (n' := 0) dd_9_46 (by decide +kernel) ⟨Nat.le_of_ble_eq_true rfl, Nat.le_of_ble_eq_true rfl, by decide +kernel, (Or.inr (am_rcv_of (am_ct5 ht0)))⟩ rfl rfl (by decide +kernel) hc2 rfl ?_
  refine am_a_iast dd_9_49 (am_ct7 ht0) hx_j1 hl_j1 (Nat.lt_of_le_of_lt (hok t0).2 (by decide)) rfl ?_
  refine am_e_aload_n dd_9_50 rfl rfl ?_
  refine am_e_gf (ci := 0) (j := 6) (v := am_I ((am_up M2 (7, t0, 0) j1 r1) (9, tq1, iq1) 6)) dd_9_51 (by decide +kernel) (am_ct9 ht_tq1 htq1_iq1) rfl rfl ?_
  exact am_a_if_ne (tgt := 60) (pc' := 57) dd_9_54 rfl rfl k1 k2

theorem sg_9_57 {sh : am_Sh} {C : Nat → am_M → List am_V → am_O → Prop} {P : am_S ⊕ am_O → Prop} {M : am_M} {t0 : Nat} {x1 : Int32} {o2 : Option am_K} {x3 : Int32}  (k : am_ev sh C 9 (71, [some (am_R (some (5, t0, 0))), some (am_I x1), some (am_R o2), some (am_I x3)], [], M, 0) P) : am_ev sh C 9 (57, [some (am_R (some (5, t0, 0))), some (am_I x1), some (am_R o2), some (am_I x3)], [], M, 0) P := by
  refine am_e_goto (pc' := 71) dd_9_57 rfl ?_
  exact k

theorem sg_9_60 {sh : am_Sh} {C : Nat → am_M → List am_V → am_O → Prop} {P : am_S ⊕ am_O → Prop} {M : am_M} {t0 : Nat} {x1 : Int32} {t2 : Nat} {i2 : Nat} {x3 : Int32} (ht2 : t2 < sh.1) (ht2_i2 : i2 < sh.2.1 t2) (k : am_ev sh C 9 (14, [some (am_R (some (5, t0, 0))), some (am_I x1), some (am_R (some (9, t2, i2))), some (am_I (x3 + 1))], [], (am_up M (9, t2, i2) 6 0), 0) P) : am_ev sh C 9 (60, [some (am_R (some (5, t0, 0))), some (am_I x1), some (am_R (some (9, t2, i2))), some (am_I x3)], [], M, 0) P := by
  refine am_e_aload_n dd_9_60 rfl rfl ?_
  refine am_e_iconst (v := 0) dd_9_61 rfl rfl ?_
  refine am_e_pf (ci := 0) (j := 6) dd_9_62 (by decide +kernel) (am_ct9 ht2 ht2_i2) rfl (Or.inr ⟨rfl, Or.inl rfl⟩) rfl ?_
  refine am_e_iinc (v := x3 + 1) dd_9_65 rfl rfl rfl rfl ?_
  refine am_e_goto (pc' := 14) dd_9_68 rfl ?_
  exact k

theorem sg_9_71 {sh : am_Sh} {C : Nat → am_M → List am_V → am_O → Prop} {P : am_S ⊕ am_O → Prop} {M : am_M} {t0 : Nat} {x1 : Int32} {o2 : Option am_K} {x3 : Int32}  (k : P (Sum.inr (M, Sum.inl (some (am_R o2))))) : am_ev sh C 9 (71, [some (am_R (some (5, t0, 0))), some (am_I x1), some (am_R o2), some (am_I x3)], [], M, 0) P := by
  refine am_e_aload_n dd_9_71 rfl rfl ?_
  exact am_e_aret dd_9_72 (by decide +kernel) rfl k

-- 10: CacheLadder$Tier.wayAfter(I)I
theorem dd_10_0 : decode (am_b 10) 0 = .ok (.iload_n 1, 1) := by decide +kernel
theorem dd_10_1 : decode (am_b 10) 1 = .ok (.iconst 1, 1) := by decide +kernel
theorem dd_10_2 : decode (am_b 10) 2 = .ok (.iadd, 1) := by decide +kernel
theorem dd_10_3 : decode (am_b 10) 3 = .ok (.aload_n 0, 1) := by decide +kernel
theorem dd_10_4 : decode (am_b 10) 4 = .ok (.getfield 19, 3) := by decide +kernel
theorem dd_10_7 : decode (am_b 10) 7 = .ok (.if_icmp .ge 9, 3) := by decide +kernel
theorem dd_10_10 : decode (am_b 10) 10 = .ok (.iload_n 1, 1) := by decide +kernel
theorem dd_10_11 : decode (am_b 10) 11 = .ok (.iconst 1, 1) := by decide +kernel
theorem dd_10_12 : decode (am_b 10) 12 = .ok (.iadd, 1) := by decide +kernel
theorem dd_10_13 : decode (am_b 10) 13 = .ok (.goto 4, 3) := by decide +kernel
theorem dd_10_16 : decode (am_b 10) 16 = .ok (.iconst 0, 1) := by decide +kernel
theorem dd_10_17 : decode (am_b 10) 17 = .ok (.ireturn, 1) := by decide +kernel
theorem sg_10_0 {sh : am_Sh} {C : Nat → am_M → List am_V → am_O → Prop} {P : am_S ⊕ am_O → Prop} {M : am_M} {t0 : Nat} {x1 : Int32} (ht0 : t0 < sh.1) (k1 : (M (5, t0, 0) 1) ≤ (x1 + 1) → am_ev sh C 10 (16, [some (am_R (some (5, t0, 0))), some (am_I x1)], [], M, 0) P) (k2 : ¬ (M (5, t0, 0) 1) ≤ (x1 + 1) → am_ev sh C 10 (10, [some (am_R (some (5, t0, 0))), some (am_I x1)], [], M, 0) P) : am_ev sh C 10 (0, [some (am_R (some (5, t0, 0))), some (am_I x1)], [], M, 0) P := by
  refine am_e_iload_n dd_10_0 rfl rfl ?_
  refine am_e_iconst (v := 1) dd_10_1 rfl rfl ?_
  refine am_e_iadd dd_10_2 rfl ?_
  refine am_e_aload_n dd_10_3 rfl rfl ?_
  refine am_e_gf (ci := 1) (j := 1) (v := am_I (M (5, t0, 0) 1)) dd_10_4 (by decide +kernel) (am_ct5 ht0) rfl rfl ?_
  exact am_a_icmp_ge (tgt := 16) (pc' := 10) dd_10_7 rfl rfl k1 k2

theorem sg_10_10 {sh : am_Sh} {C : Nat → am_M → List am_V → am_O → Prop} {P : am_S ⊕ am_O → Prop} {M : am_M} {t0 : Nat} {x1 : Int32}  (k : am_ev sh C 10 (17, [some (am_R (some (5, t0, 0))), some (am_I x1)], [am_I (x1 + 1)], M, 0) P) : am_ev sh C 10 (10, [some (am_R (some (5, t0, 0))), some (am_I x1)], [], M, 0) P := by
  refine am_e_iload_n dd_10_10 rfl rfl ?_
  refine am_e_iconst (v := 1) dd_10_11 rfl rfl ?_
  refine am_e_iadd dd_10_12 rfl ?_
  refine am_e_goto (pc' := 17) dd_10_13 rfl ?_
  exact k

theorem sg_10_16 {sh : am_Sh} {C : Nat → am_M → List am_V → am_O → Prop} {P : am_S ⊕ am_O → Prop} {M : am_M} {t0 : Nat} {x1 : Int32}  (k : am_ev sh C 10 (17, [some (am_R (some (5, t0, 0))), some (am_I x1)], [am_I 0], M, 0) P) : am_ev sh C 10 (16, [some (am_R (some (5, t0, 0))), some (am_I x1)], [], M, 0) P := by
  refine am_e_iconst (v := 0) dd_10_16 rfl rfl ?_
  exact k

theorem sg_10_17 {sh : am_Sh} {C : Nat → am_M → List am_V → am_O → Prop} {P : am_S ⊕ am_O → Prop} {M : am_M} {t0 : Nat} {x1 : Int32} {xs0 : Int32}  (k : P (Sum.inr (M, Sum.inl (some (am_I xs0))))) : am_ev sh C 10 (17, [some (am_R (some (5, t0, 0))), some (am_I x1)], [am_I xs0], M, 0) P := by
  exact am_e_iret dd_10_17 (by decide +kernel) (Or.inl rfl) k

-- 11: CacheLadder$Tier.firstToGo(I)LCacheLadder$Line;
theorem dd_11_0 : decode (am_b 11) 0 = .ok (.aload_n 0, 1) := by decide +kernel
theorem dd_11_1 : decode (am_b 11) 1 = .ok (.iload_n 1, 1) := by decide +kernel
theorem dd_11_2 : decode (am_b 11) 2 = .ok (.iconst 0, 1) := by decide +kernel
theorem dd_11_3 : decode (am_b 11) 3 = .ok (.invokevirtual 46, 3) := by decide +kernel
theorem dd_11_6 : decode (am_b 11) 6 = .ok (.astore_n 2, 1) := by decide +kernel
theorem dd_11_7 : decode (am_b 11) 7 = .ok (.iconst 1, 1) := by decide +kernel
theorem dd_11_8 : decode (am_b 11) 8 = .ok (.istore_n 3, 1) := by decide +kernel
theorem dd_11_9 : decode (am_b 11) 9 = .ok (.iload_n 3, 1) := by decide +kernel
theorem dd_11_10 : decode (am_b 11) 10 = .ok (.aload_n 0, 1) := by decide +kernel
theorem dd_11_11 : decode (am_b 11) 11 = .ok (.getfield 19, 3) := by decide +kernel
theorem dd_11_14 : decode (am_b 11) 14 = .ok (.if_icmp .ge 30, 3) := by decide +kernel
theorem dd_11_17 : decode (am_b 11) 17 = .ok (.aload_n 0, 1) := by decide +kernel
theorem dd_11_18 : decode (am_b 11) 18 = .ok (.aload_n 0, 1) := by decide +kernel
theorem dd_11_19 : decode (am_b 11) 19 = .ok (.iload_n 1, 1) := by decide +kernel
theorem dd_11_20 : decode (am_b 11) 20 = .ok (.iload_n 3, 1) := by decide +kernel
theorem dd_11_21 : decode (am_b 11) 21 = .ok (.invokevirtual 46, 3) := by decide +kernel
theorem dd_11_24 : decode (am_b 11) 24 = .ok (.aload_n 2, 1) := by decide +kernel
theorem dd_11_25 : decode (am_b 11) 25 = .ok (.invokevirtual 70, 3) := by decide +kernel
theorem dd_11_28 : decode (am_b 11) 28 = .ok (.ifCond .eq 10, 3) := by decide +kernel
theorem dd_11_31 : decode (am_b 11) 31 = .ok (.aload_n 0, 1) := by decide +kernel
theorem dd_11_32 : decode (am_b 11) 32 = .ok (.iload_n 1, 1) := by decide +kernel
theorem dd_11_33 : decode (am_b 11) 33 = .ok (.iload_n 3, 1) := by decide +kernel
theorem dd_11_34 : decode (am_b 11) 34 = .ok (.invokevirtual 46, 3) := by decide +kernel
theorem dd_11_37 : decode (am_b 11) 37 = .ok (.astore_n 2, 1) := by decide +kernel
theorem dd_11_38 : decode (am_b 11) 38 = .ok (.iinc 3 1, 3) := by decide +kernel
theorem dd_11_41 : decode (am_b 11) 41 = .ok (.goto (-32), 3) := by decide +kernel
theorem dd_11_44 : decode (am_b 11) 44 = .ok (.aload_n 2, 1) := by decide +kernel
theorem dd_11_45 : decode (am_b 11) 45 = .ok (.areturn, 1) := by decide +kernel
theorem sg_11_0 {sh : am_Sh} {C : Nat → am_M → List am_V → am_O → Prop} {P : am_S ⊕ am_O → Prop} {M : am_M} {t0 : Nat} {x1 : Int32} {u2 : Option am_V} {u3 : Option am_V} {M1 : am_M} {oq1 : Option am_K} (ht0 : t0 < sh.1) (hc1 : C 5 M [am_R (some (5, t0, 0)), am_I x1, am_I 0] (M1, Sum.inl (some (am_R oq1)))) (k : am_ev sh C 11 (9, [some (am_R (some (5, t0, 0))), some (am_I x1), some (am_R oq1), some (am_I 1)], [], M1, 0) P) : am_ev sh C 11 (0, [some (am_R (some (5, t0, 0))), some (am_I x1), u2, u3], [], M, 0) P := by
  refine am_e_aload_n dd_11_0 rfl rfl ?_
  refine am_e_iload_n dd_11_1 rfl rfl ?_
  refine am_e_iconst (v := 0) dd_11_2 rfl rfl ?_
  refine am_e_callV (c := 5) (k := 3) (as := [am_R (some (5, t0, 0)), am_I x1, am_I 0]) (S' := [am_R oq1]) (v := some (am_R oq1)) (M' := M1) (n' := 0) dd_11_3 (by decide +kernel) ⟨Nat.le_of_ble_eq_true rfl, Nat.le_of_ble_eq_true rfl, by decide +kernel, (Or.inr (am_rcv_of (am_ct5 ht0)))⟩ rfl rfl (by decide +kernel) hc1 rfl ?_
  refine am_e_astore_n dd_11_6 (Nat.le_of_ble_eq_true rfl) rfl rfl ?_
  refine am_e_iconst (v := 1) dd_11_7 rfl rfl ?_
  refine am_e_istore_n dd_11_8 (Nat.le_of_ble_eq_true rfl) rfl rfl ?_
  exact k

theorem sg_11_9 {sh : am_Sh} {C : Nat → am_M → List am_V → am_O → Prop} {P : am_S ⊕ am_O → Prop} {M : am_M} {t0 : Nat} {x1 : Int32} {o2 : Option am_K} {x3 : Int32} (ht0 : t0 < sh.1) (k1 : (M (5, t0, 0) 1) ≤ x3 → am_ev sh C 11 (44, [some (am_R (some (5, t0, 0))), some (am_I x1), some (am_R o2), some (am_I x3)], [], M, 0) P) (k2 : ¬ (M (5, t0, 0) 1) ≤ x3 → am_ev sh C 11 (17, [some (am_R (some (5, t0, 0))), some (am_I x1), some (am_R o2), some (am_I x3)], [], M, 0) P) : am_ev sh C 11 (9, [some (am_R (some (5, t0, 0))), some (am_I x1), some (am_R o2), some (am_I x3)], [], M, 0) P := by
  refine am_e_iload_n dd_11_9 rfl rfl ?_
  refine am_e_aload_n dd_11_10 rfl rfl ?_
  refine am_e_gf (ci := 1) (j := 1) (v := am_I (M (5, t0, 0) 1)) dd_11_11 (by decide +kernel) (am_ct5 ht0) rfl rfl ?_
  exact am_a_icmp_ge (tgt := 44) (pc' := 17) dd_11_14 rfl rfl k1 k2

theorem sg_11_17 {sh : am_Sh} {C : Nat → am_M → List am_V → am_O → Prop} {P : am_S ⊕ am_O → Prop} {M : am_M} {t0 : Nat} {x1 : Int32} {o2 : Option am_K} {x3 : Int32} {M1 : am_M} {oq1 : Option am_K} {M2 : am_M} {r1 : Int32} (ht0 : t0 < sh.1) (hc1 : C 5 M [am_R (some (5, t0, 0)), am_I x1, am_I x3] (M1, Sum.inl (some (am_R oq1)))) (hc2 : C 12 M1 [am_R (some (5, t0, 0)), am_R oq1, am_R o2] (M2, Sum.inl (some (am_I r1)))) (k1 : r1 = 0 → am_ev sh C 11 (38, [some (am_R (some (5, t0, 0))), some (am_I x1), some (am_R o2), some (am_I x3)], [], M2, 0) P) (k2 : ¬ r1 = 0 → am_ev sh C 11 (31, [some (am_R (some (5, t0, 0))), some (am_I x1), some (am_R o2), some (am_I x3)], [], M2, 0) P) : am_ev sh C 11 (17, [some (am_R (some (5, t0, 0))), some (am_I x1), some (am_R o2), some (am_I x3)], [], M, 0) P := by
  refine am_e_aload_n dd_11_17 rfl rfl ?_
  refine am_e_aload_n dd_11_18 rfl rfl ?_
  refine am_e_iload_n dd_11_19 rfl rfl ?_
  refine am_e_iload_n dd_11_20 rfl rfl ?_
  refine am_e_callV (c := 5) (k := 3) (as := [am_R (some (5, t0, 0)), am_I x1, am_I x3]) (S' := [am_R oq1, am_R (some (5, t0, 0))]) (v := some (am_R oq1)) (M' := M1) (n' := 0) dd_11_21 (by decide +kernel) ⟨Nat.le_of_ble_eq_true rfl, Nat.le_of_ble_eq_true rfl, by decide +kernel, (Or.inr (am_rcv_of (am_ct5 ht0)))⟩ rfl rfl (by decide +kernel) hc1 rfl ?_
  refine am_e_aload_n dd_11_24 rfl rfl ?_
  refine am_e_callV (c := 12) (k := 3) (as := [am_R (some (5, t0, 0)), am_R oq1, am_R o2]) (S' := [am_I r1]) (v := some (am_I r1)) (M' := M2) (n' := 0) dd_11_25 (by decide +kernel) ⟨Nat.le_of_ble_eq_true rfl, Nat.le_of_ble_eq_true rfl, by decide +kernel, (Or.inr (am_rcv_of (am_ct5 ht0)))⟩ rfl rfl (by decide +kernel) hc2 rfl ?_
  exact am_a_if_eq (tgt := 38) (pc' := 31) dd_11_28 rfl rfl k1 k2

theorem sg_11_31 {sh : am_Sh} {C : Nat → am_M → List am_V → am_O → Prop} {P : am_S ⊕ am_O → Prop} {M : am_M} {t0 : Nat} {x1 : Int32} {o2 : Option am_K} {x3 : Int32} {M1 : am_M} {oq1 : Option am_K} (ht0 : t0 < sh.1) (hc1 : C 5 M [am_R (some (5, t0, 0)), am_I x1, am_I x3] (M1, Sum.inl (some (am_R oq1)))) (k : am_ev sh C 11 (38, [some (am_R (some (5, t0, 0))), some (am_I x1), some (am_R oq1), some (am_I x3)], [], M1, 0) P) : am_ev sh C 11 (31, [some (am_R (some (5, t0, 0))), some (am_I x1), some (am_R o2), some (am_I x3)], [], M, 0) P := by
  refine am_e_aload_n dd_11_31 rfl rfl ?_
  refine am_e_iload_n dd_11_32 rfl rfl ?_
  refine am_e_iload_n dd_11_33 rfl rfl ?_
  refine am_e_callV (c := 5) (k := 3) (as := [am_R (some (5, t0, 0)), am_I x1, am_I x3]) (S' := [am_R oq1]) (v := some (am_R oq1)) (M' := M1) (n' := 0) dd_11_34 (by decide +kernel) ⟨Nat.le_of_ble_eq_true rfl, Nat.le_of_ble_eq_true rfl, by decide +kernel, (Or.inr (am_rcv_of (am_ct5 ht0)))⟩ rfl rfl (by decide +kernel) hc1 rfl ?_
  refine am_e_astore_n dd_11_37 (Nat.le_of_ble_eq_true rfl) rfl rfl ?_
  exact k

theorem sg_11_38 {sh : am_Sh} {C : Nat → am_M → List am_V → am_O → Prop} {P : am_S ⊕ am_O → Prop} {M : am_M} {t0 : Nat} {x1 : Int32} {o2 : Option am_K} {x3 : Int32}  (k : am_ev sh C 11 (9, [some (am_R (some (5, t0, 0))), some (am_I x1), some (am_R o2), some (am_I (x3 + 1))], [], M, 0) P) : am_ev sh C 11 (38, [some (am_R (some (5, t0, 0))), some (am_I x1), some (am_R o2), some (am_I x3)], [], M, 0) P := by
  refine am_e_iinc (v := x3 + 1) dd_11_38 rfl rfl rfl rfl ?_
  refine am_e_goto (pc' := 9) dd_11_41 rfl ?_
  exact k

theorem sg_11_44 {sh : am_Sh} {C : Nat → am_M → List am_V → am_O → Prop} {P : am_S ⊕ am_O → Prop} {M : am_M} {t0 : Nat} {x1 : Int32} {o2 : Option am_K} {x3 : Int32}  (k : P (Sum.inr (M, Sum.inl (some (am_R o2))))) : am_ev sh C 11 (44, [some (am_R (some (5, t0, 0))), some (am_I x1), some (am_R o2), some (am_I x3)], [], M, 0) P := by
  refine am_e_aload_n dd_11_44 rfl rfl ?_
  exact am_e_aret dd_11_45 (by decide +kernel) rfl k

-- 12: CacheLadder$Tier.goesBefore(LCacheLadder$Line;LCacheLadder$Line;)Z
theorem dd_12_0 : decode (am_b 12) 0 = .ok (.aload_n 0, 1) := by decide +kernel
theorem dd_12_1 : decode (am_b 12) 1 = .ok (.getfield 22, 3) := by decide +kernel
theorem dd_12_4 : decode (am_b 12) 4 = .ok (.iconst 1, 1) := by decide +kernel
theorem dd_12_5 : decode (am_b 12) 5 = .ok (.if_icmp .ne 20, 3) := by decide +kernel
theorem dd_12_8 : decode (am_b 12) 8 = .ok (.aload_n 1, 1) := by decide +kernel
theorem dd_12_9 : decode (am_b 12) 9 = .ok (.getfield 74, 3) := by decide +kernel
theorem dd_12_12 : decode (am_b 12) 12 = .ok (.aload_n 2, 1) := by decide +kernel
theorem dd_12_13 : decode (am_b 12) 13 = .ok (.getfield 74, 3) := by decide +kernel
theorem dd_12_16 : decode (am_b 12) 16 = .ok (.if_icmp .ge 7, 3) := by decide +kernel
theorem dd_12_19 : decode (am_b 12) 19 = .ok (.iconst 1, 1) := by decide +kernel
theorem dd_12_20 : decode (am_b 12) 20 = .ok (.goto 4, 3) := by decide +kernel
theorem dd_12_23 : decode (am_b 12) 23 = .ok (.iconst 0, 1) := by decide +kernel
theorem dd_12_24 : decode (am_b 12) 24 = .ok (.ireturn, 1) := by decide +kernel
theorem dd_12_25 : decode (am_b 12) 25 = .ok (.aload_n 0, 1) := by decide +kernel
theorem dd_12_26 : decode (am_b 12) 26 = .ok (.getfield 22, 3) := by decide +kernel
theorem dd_12_29 : decode (am_b 12) 29 = .ok (.iconst 3, 1) := by decide +kernel
theorem dd_12_30 : decode (am_b 12) 30 = .ok (.if_icmp .ne 31, 3) := by decide +kernel
theorem dd_12_33 : decode (am_b 12) 33 = .ok (.aload_n 1, 1) := by decide +kernel
theorem dd_12_34 : decode (am_b 12) 34 = .ok (.getfield 77, 3) := by decide +kernel
theorem dd_12_37 : decode (am_b 12) 37 = .ok (.aload_n 2, 1) := by decide +kernel
theorem dd_12_38 : decode (am_b 12) 38 = .ok (.getfield 77, 3) := by decide +kernel
theorem dd_12_41 : decode (am_b 12) 41 = .ok (.if_icmp .eq 20, 3) := by decide +kernel
theorem dd_12_44 : decode (am_b 12) 44 = .ok (.aload_n 1, 1) := by decide +kernel
theorem dd_12_45 : decode (am_b 12) 45 = .ok (.getfield 77, 3) := by decide +kernel
theorem dd_12_48 : decode (am_b 12) 48 = .ok (.aload_n 2, 1) := by decide +kernel
theorem dd_12_49 : decode (am_b 12) 49 = .ok (.getfield 77, 3) := by decide +kernel
theorem dd_12_52 : decode (am_b 12) 52 = .ok (.if_icmp .ge 7, 3) := by decide +kernel
theorem dd_12_55 : decode (am_b 12) 55 = .ok (.iconst 1, 1) := by decide +kernel
theorem dd_12_56 : decode (am_b 12) 56 = .ok (.goto 4, 3) := by decide +kernel
theorem dd_12_59 : decode (am_b 12) 59 = .ok (.iconst 0, 1) := by decide +kernel
theorem dd_12_60 : decode (am_b 12) 60 = .ok (.ireturn, 1) := by decide +kernel
theorem dd_12_61 : decode (am_b 12) 61 = .ok (.aload_n 1, 1) := by decide +kernel
theorem dd_12_62 : decode (am_b 12) 62 = .ok (.getfield 80, 3) := by decide +kernel
theorem dd_12_65 : decode (am_b 12) 65 = .ok (.aload_n 2, 1) := by decide +kernel
theorem dd_12_66 : decode (am_b 12) 66 = .ok (.getfield 80, 3) := by decide +kernel
theorem dd_12_69 : decode (am_b 12) 69 = .ok (.if_icmp .ge 7, 3) := by decide +kernel
theorem dd_12_72 : decode (am_b 12) 72 = .ok (.iconst 1, 1) := by decide +kernel
theorem dd_12_73 : decode (am_b 12) 73 = .ok (.goto 4, 3) := by decide +kernel
theorem dd_12_76 : decode (am_b 12) 76 = .ok (.iconst 0, 1) := by decide +kernel
theorem dd_12_77 : decode (am_b 12) 77 = .ok (.ireturn, 1) := by decide +kernel
theorem sg_12_0 {sh : am_Sh} {C : Nat → am_M → List am_V → am_O → Prop} {P : am_S ⊕ am_O → Prop} {M : am_M} {t0 : Nat} {o1 : Option am_K} {o2 : Option am_K} (ht0 : t0 < sh.1) (k1 : ¬ (M (5, t0, 0) 2) = 1 → am_ev sh C 12 (25, [some (am_R (some (5, t0, 0))), some (am_R o1), some (am_R o2)], [], M, 0) P) (k2 : (M (5, t0, 0) 2) = 1 → am_ev sh C 12 (8, [some (am_R (some (5, t0, 0))), some (am_R o1), some (am_R o2)], [], M, 0) P) : am_ev sh C 12 (0, [some (am_R (some (5, t0, 0))), some (am_R o1), some (am_R o2)], [], M, 0) P := by
  refine am_e_aload_n dd_12_0 rfl rfl ?_
  refine am_e_gf (ci := 1) (j := 2) (v := am_I (M (5, t0, 0) 2)) dd_12_1 (by decide +kernel) (am_ct5 ht0) rfl rfl ?_
  refine am_e_iconst (v := 1) dd_12_4 rfl rfl ?_
  exact am_a_icmp_ne (tgt := 25) (pc' := 8) dd_12_5 rfl rfl k1 k2

theorem sg_12_8 {sh : am_Sh} {C : Nat → am_M → List am_V → am_O → Prop} {P : am_S ⊕ am_O → Prop} {M : am_M} {t0 : Nat} {t1 : Nat} {i1 : Nat} {t2 : Nat} {i2 : Nat} (ht1 : t1 < sh.1) (ht1_i1 : i1 < sh.2.1 t1) (ht2 : t2 < sh.1) (ht2_i2 : i2 < sh.2.1 t2) (k1 : (M (9, t2, i2) 4) ≤ (M (9, t1, i1) 4) → am_ev sh C 12 (23, [some (am_R (some (5, t0, 0))), some (am_R (some (9, t1, i1))), some (am_R (some (9, t2, i2)))], [], M, 0) P) (k2 : ¬ (M (9, t2, i2) 4) ≤ (M (9, t1, i1) 4) → am_ev sh C 12 (19, [some (am_R (some (5, t0, 0))), some (am_R (some (9, t1, i1))), some (am_R (some (9, t2, i2)))], [], M, 0) P) : am_ev sh C 12 (8, [some (am_R (some (5, t0, 0))), some (am_R (some (9, t1, i1))), some (am_R (some (9, t2, i2)))], [], M, 0) P := by
  refine am_e_aload_n dd_12_8 rfl rfl ?_
  refine am_e_gf (ci := 0) (j := 4) (v := am_I (M (9, t1, i1) 4)) dd_12_9 (by decide +kernel) (am_ct9 ht1 ht1_i1) rfl rfl ?_
  refine am_e_aload_n dd_12_12 rfl rfl ?_
  refine am_e_gf (ci := 0) (j := 4) (v := am_I (M (9, t2, i2) 4)) dd_12_13 (by decide +kernel) (am_ct9 ht2 ht2_i2) rfl rfl ?_
  exact am_a_icmp_ge (tgt := 23) (pc' := 19) dd_12_16 rfl rfl k1 k2

theorem sg_12_19 {sh : am_Sh} {C : Nat → am_M → List am_V → am_O → Prop} {P : am_S ⊕ am_O → Prop} {M : am_M} {t0 : Nat} {o1 : Option am_K} {o2 : Option am_K}  (k : am_ev sh C 12 (24, [some (am_R (some (5, t0, 0))), some (am_R o1), some (am_R o2)], [am_I 1], M, 0) P) : am_ev sh C 12 (19, [some (am_R (some (5, t0, 0))), some (am_R o1), some (am_R o2)], [], M, 0) P := by
  refine am_e_iconst (v := 1) dd_12_19 rfl rfl ?_
  refine am_e_goto (pc' := 24) dd_12_20 rfl ?_
  exact k

theorem sg_12_23 {sh : am_Sh} {C : Nat → am_M → List am_V → am_O → Prop} {P : am_S ⊕ am_O → Prop} {M : am_M} {t0 : Nat} {o1 : Option am_K} {o2 : Option am_K}  (k : am_ev sh C 12 (24, [some (am_R (some (5, t0, 0))), some (am_R o1), some (am_R o2)], [am_I 0], M, 0) P) : am_ev sh C 12 (23, [some (am_R (some (5, t0, 0))), some (am_R o1), some (am_R o2)], [], M, 0) P := by
  refine am_e_iconst (v := 0) dd_12_23 rfl rfl ?_
  exact k

theorem sg_12_24 {sh : am_Sh} {C : Nat → am_M → List am_V → am_O → Prop} {P : am_S ⊕ am_O → Prop} {M : am_M} {t0 : Nat} {o1 : Option am_K} {o2 : Option am_K} {xs0 : Int32} (hb1 : xs0 = 0 ∨ xs0 = 1) (k : P (Sum.inr (M, Sum.inl (some (am_I xs0))))) : am_ev sh C 12 (24, [some (am_R (some (5, t0, 0))), some (am_R o1), some (am_R o2)], [am_I xs0], M, 0) P := by
  exact am_e_iret dd_12_24 (by decide +kernel) (Or.inr ⟨rfl, hb1⟩) k

theorem sg_12_25 {sh : am_Sh} {C : Nat → am_M → List am_V → am_O → Prop} {P : am_S ⊕ am_O → Prop} {M : am_M} {t0 : Nat} {o1 : Option am_K} {o2 : Option am_K} (ht0 : t0 < sh.1) (k1 : ¬ (M (5, t0, 0) 2) = 3 → am_ev sh C 12 (61, [some (am_R (some (5, t0, 0))), some (am_R o1), some (am_R o2)], [], M, 0) P) (k2 : (M (5, t0, 0) 2) = 3 → am_ev sh C 12 (33, [some (am_R (some (5, t0, 0))), some (am_R o1), some (am_R o2)], [], M, 0) P) : am_ev sh C 12 (25, [some (am_R (some (5, t0, 0))), some (am_R o1), some (am_R o2)], [], M, 0) P := by
  refine am_e_aload_n dd_12_25 rfl rfl ?_
  refine am_e_gf (ci := 1) (j := 2) (v := am_I (M (5, t0, 0) 2)) dd_12_26 (by decide +kernel) (am_ct5 ht0) rfl rfl ?_
  refine am_e_iconst (v := 3) dd_12_29 rfl rfl ?_
  exact am_a_icmp_ne (tgt := 61) (pc' := 33) dd_12_30 rfl rfl k1 k2

theorem sg_12_33 {sh : am_Sh} {C : Nat → am_M → List am_V → am_O → Prop} {P : am_S ⊕ am_O → Prop} {M : am_M} {t0 : Nat} {t1 : Nat} {i1 : Nat} {t2 : Nat} {i2 : Nat} (ht1 : t1 < sh.1) (ht1_i1 : i1 < sh.2.1 t1) (ht2 : t2 < sh.1) (ht2_i2 : i2 < sh.2.1 t2) (k1 : (M (9, t1, i1) 5) = (M (9, t2, i2) 5) → am_ev sh C 12 (61, [some (am_R (some (5, t0, 0))), some (am_R (some (9, t1, i1))), some (am_R (some (9, t2, i2)))], [], M, 0) P) (k2 : ¬ (M (9, t1, i1) 5) = (M (9, t2, i2) 5) → am_ev sh C 12 (44, [some (am_R (some (5, t0, 0))), some (am_R (some (9, t1, i1))), some (am_R (some (9, t2, i2)))], [], M, 0) P) : am_ev sh C 12 (33, [some (am_R (some (5, t0, 0))), some (am_R (some (9, t1, i1))), some (am_R (some (9, t2, i2)))], [], M, 0) P := by
  refine am_e_aload_n dd_12_33 rfl rfl ?_
  refine am_e_gf (ci := 0) (j := 5) (v := am_I (M (9, t1, i1) 5)) dd_12_34 (by decide +kernel) (am_ct9 ht1 ht1_i1) rfl rfl ?_
  refine am_e_aload_n dd_12_37 rfl rfl ?_
  refine am_e_gf (ci := 0) (j := 5) (v := am_I (M (9, t2, i2) 5)) dd_12_38 (by decide +kernel) (am_ct9 ht2 ht2_i2) rfl rfl ?_
  exact am_a_icmp_eq (tgt := 61) (pc' := 44) dd_12_41 rfl rfl k1 k2

theorem sg_12_44 {sh : am_Sh} {C : Nat → am_M → List am_V → am_O → Prop} {P : am_S ⊕ am_O → Prop} {M : am_M} {t0 : Nat} {t1 : Nat} {i1 : Nat} {t2 : Nat} {i2 : Nat} (ht1 : t1 < sh.1) (ht1_i1 : i1 < sh.2.1 t1) (ht2 : t2 < sh.1) (ht2_i2 : i2 < sh.2.1 t2) (k1 : (M (9, t2, i2) 5) ≤ (M (9, t1, i1) 5) → am_ev sh C 12 (59, [some (am_R (some (5, t0, 0))), some (am_R (some (9, t1, i1))), some (am_R (some (9, t2, i2)))], [], M, 0) P) (k2 : ¬ (M (9, t2, i2) 5) ≤ (M (9, t1, i1) 5) → am_ev sh C 12 (55, [some (am_R (some (5, t0, 0))), some (am_R (some (9, t1, i1))), some (am_R (some (9, t2, i2)))], [], M, 0) P) : am_ev sh C 12 (44, [some (am_R (some (5, t0, 0))), some (am_R (some (9, t1, i1))), some (am_R (some (9, t2, i2)))], [], M, 0) P := by
  refine am_e_aload_n dd_12_44 rfl rfl ?_
  refine am_e_gf (ci := 0) (j := 5) (v := am_I (M (9, t1, i1) 5)) dd_12_45 (by decide +kernel) (am_ct9 ht1 ht1_i1) rfl rfl ?_
  refine am_e_aload_n dd_12_48 rfl rfl ?_
  refine am_e_gf (ci := 0) (j := 5) (v := am_I (M (9, t2, i2) 5)) dd_12_49 (by decide +kernel) (am_ct9 ht2 ht2_i2) rfl rfl ?_
  exact am_a_icmp_ge (tgt := 59) (pc' := 55) dd_12_52 rfl rfl k1 k2

theorem sg_12_55 {sh : am_Sh} {C : Nat → am_M → List am_V → am_O → Prop} {P : am_S ⊕ am_O → Prop} {M : am_M} {t0 : Nat} {o1 : Option am_K} {o2 : Option am_K}  (k : am_ev sh C 12 (60, [some (am_R (some (5, t0, 0))), some (am_R o1), some (am_R o2)], [am_I 1], M, 0) P) : am_ev sh C 12 (55, [some (am_R (some (5, t0, 0))), some (am_R o1), some (am_R o2)], [], M, 0) P := by
  refine am_e_iconst (v := 1) dd_12_55 rfl rfl ?_
  refine am_e_goto (pc' := 60) dd_12_56 rfl ?_
  exact k

theorem sg_12_59 {sh : am_Sh} {C : Nat → am_M → List am_V → am_O → Prop} {P : am_S ⊕ am_O → Prop} {M : am_M} {t0 : Nat} {o1 : Option am_K} {o2 : Option am_K}  (k : am_ev sh C 12 (60, [some (am_R (some (5, t0, 0))), some (am_R o1), some (am_R o2)], [am_I 0], M, 0) P) : am_ev sh C 12 (59, [some (am_R (some (5, t0, 0))), some (am_R o1), some (am_R o2)], [], M, 0) P := by
  refine am_e_iconst (v := 0) dd_12_59 rfl rfl ?_
  exact k

theorem sg_12_60 {sh : am_Sh} {C : Nat → am_M → List am_V → am_O → Prop} {P : am_S ⊕ am_O → Prop} {M : am_M} {t0 : Nat} {o1 : Option am_K} {o2 : Option am_K} {xs0 : Int32} (hb1 : xs0 = 0 ∨ xs0 = 1) (k : P (Sum.inr (M, Sum.inl (some (am_I xs0))))) : am_ev sh C 12 (60, [some (am_R (some (5, t0, 0))), some (am_R o1), some (am_R o2)], [am_I xs0], M, 0) P := by
  exact am_e_iret dd_12_60 (by decide +kernel) (Or.inr ⟨rfl, hb1⟩) k

theorem sg_12_61 {sh : am_Sh} {C : Nat → am_M → List am_V → am_O → Prop} {P : am_S ⊕ am_O → Prop} {M : am_M} {t0 : Nat} {t1 : Nat} {i1 : Nat} {t2 : Nat} {i2 : Nat} (ht1 : t1 < sh.1) (ht1_i1 : i1 < sh.2.1 t1) (ht2 : t2 < sh.1) (ht2_i2 : i2 < sh.2.1 t2) (k1 : (M (9, t2, i2) 3) ≤ (M (9, t1, i1) 3) → am_ev sh C 12 (76, [some (am_R (some (5, t0, 0))), some (am_R (some (9, t1, i1))), some (am_R (some (9, t2, i2)))], [], M, 0) P) (k2 : ¬ (M (9, t2, i2) 3) ≤ (M (9, t1, i1) 3) → am_ev sh C 12 (72, [some (am_R (some (5, t0, 0))), some (am_R (some (9, t1, i1))), some (am_R (some (9, t2, i2)))], [], M, 0) P) : am_ev sh C 12 (61, [some (am_R (some (5, t0, 0))), some (am_R (some (9, t1, i1))), some (am_R (some (9, t2, i2)))], [], M, 0) P := by
  refine am_e_aload_n dd_12_61 rfl rfl ?_
  refine am_e_gf (ci := 0) (j := 3) (v := am_I (M (9, t1, i1) 3)) dd_12_62 (by decide +kernel) (am_ct9 ht1 ht1_i1) rfl rfl ?_
  refine am_e_aload_n dd_12_65 rfl rfl ?_
  refine am_e_gf (ci := 0) (j := 3) (v := am_I (M (9, t2, i2) 3)) dd_12_66 (by decide +kernel) (am_ct9 ht2 ht2_i2) rfl rfl ?_
  exact am_a_icmp_ge (tgt := 76) (pc' := 72) dd_12_69 rfl rfl k1 k2

theorem sg_12_72 {sh : am_Sh} {C : Nat → am_M → List am_V → am_O → Prop} {P : am_S ⊕ am_O → Prop} {M : am_M} {t0 : Nat} {o1 : Option am_K} {o2 : Option am_K}  (k : am_ev sh C 12 (77, [some (am_R (some (5, t0, 0))), some (am_R o1), some (am_R o2)], [am_I 1], M, 0) P) : am_ev sh C 12 (72, [some (am_R (some (5, t0, 0))), some (am_R o1), some (am_R o2)], [], M, 0) P := by
  refine am_e_iconst (v := 1) dd_12_72 rfl rfl ?_
  refine am_e_goto (pc' := 77) dd_12_73 rfl ?_
  exact k

theorem sg_12_76 {sh : am_Sh} {C : Nat → am_M → List am_V → am_O → Prop} {P : am_S ⊕ am_O → Prop} {M : am_M} {t0 : Nat} {o1 : Option am_K} {o2 : Option am_K}  (k : am_ev sh C 12 (77, [some (am_R (some (5, t0, 0))), some (am_R o1), some (am_R o2)], [am_I 0], M, 0) P) : am_ev sh C 12 (76, [some (am_R (some (5, t0, 0))), some (am_R o1), some (am_R o2)], [], M, 0) P := by
  refine am_e_iconst (v := 0) dd_12_76 rfl rfl ?_
  exact k

theorem sg_12_77 {sh : am_Sh} {C : Nat → am_M → List am_V → am_O → Prop} {P : am_S ⊕ am_O → Prop} {M : am_M} {t0 : Nat} {o1 : Option am_K} {o2 : Option am_K} {xs0 : Int32} (hb1 : xs0 = 0 ∨ xs0 = 1) (k : P (Sum.inr (M, Sum.inl (some (am_I xs0))))) : am_ev sh C 12 (77, [some (am_R (some (5, t0, 0))), some (am_R o1), some (am_R o2)], [am_I xs0], M, 0) P := by
  exact am_e_iret dd_12_77 (by decide +kernel) (Or.inr ⟨rfl, hb1⟩) k

