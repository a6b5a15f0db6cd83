-- 36: CacheLadder.copyWords(I[I[II)V
theorem dd_36_0 : decode (am_b 36) 0 = .ok (.iconst 0, 1) := by decide +kernel
theorem dd_36_1 : decode (am_b 36) 1 = .ok (.istore 4, 2) := by decide +kernel
theorem dd_36_3 : decode (am_b 36) 3 = .ok (.iload 4, 2) := by decide +kernel
theorem dd_36_5 : decode (am_b 36) 5 = .ok (.iconst 4, 1) := by decide +kernel
theorem dd_36_6 : decode (am_b 36) 6 = .ok (.if_icmp .ge 28, 3) := by decide +kernel
theorem dd_36_9 : decode (am_b 36) 9 = .ok (.iload_n 0, 1) := by decide +kernel
theorem dd_36_10 : decode (am_b 36) 10 = .ok (.iconst 1, 1) := by decide +kernel
theorem dd_36_11 : decode (am_b 36) 11 = .ok (.iload 4, 2) := by decide +kernel
theorem dd_36_13 : decode (am_b 36) 13 = .ok (.ishl, 1) := by decide +kernel
theorem dd_36_14 : decode (am_b 36) 14 = .ok (.iand, 1) := by decide +kernel
theorem dd_36_15 : decode (am_b 36) 15 = .ok (.ifCond .eq 13, 3) := by decide +kernel
theorem dd_36_18 : decode (am_b 36) 18 = .ok (.aload_n 2, 1) := by decide +kernel
theorem dd_36_19 : decode (am_b 36) 19 = .ok (.iload_n 3, 1) := by decide +kernel
theorem dd_36_20 : decode (am_b 36) 20 = .ok (.iload 4, 2) := by decide +kernel
theorem dd_36_22 : decode (am_b 36) 22 = .ok (.iadd, 1) := by decide +kernel
theorem dd_36_23 : decode (am_b 36) 23 = .ok (.aload_n 1, 1) := by decide +kernel
theorem dd_36_24 : decode (am_b 36) 24 = .ok (.iload 4, 2) := by decide +kernel
theorem dd_36_26 : decode (am_b 36) 26 = .ok (.iaload, 1) := by decide +kernel
theorem dd_36_27 : decode (am_b 36) 27 = .ok (.iastore, 1) := by decide +kernel
theorem dd_36_28 : decode (am_b 36) 28 = .ok (.iinc 4 1, 3) := by decide +kernel
theorem dd_36_31 : decode (am_b 36) 31 = .ok (.goto (-28), 3) := by decide +kernel
theorem dd_36_34 : decode (am_b 36) 34 = .ok (.return_, 1) := by decide +kernel
theorem sg_36_0 {sh : am_Sh} {C : Nat → am_M → List am_V → am_O → Prop} {P : am_S ⊕ am_O → Prop} {M : am_M} {x0 : Int32} {o1 : Option am_K} {o2 : Option am_K} {x3 : Int32} {u4 : Option am_V}  (k : am_ev sh C 36 (3, [some (am_I x0), some (am_R o1), some (am_R o2), some (am_I x3), some (am_I 0)], [], M, 0) P) : am_ev sh C 36 (0, [some (am_I x0), some (am_R o1), some (am_R o2), some (am_I x3), u4], [], M, 0) P := by
  refine am_e_iconst (v := 0) dd_36_0 rfl rfl ?_
  refine am_e_istore dd_36_1 (Nat.le_of_ble_eq_true rfl) rfl rfl ?_
  exact k

theorem sg_36_3 {sh : am_Sh} {C : Nat → am_M → List am_V → am_O → Prop} {P : am_S ⊕ am_O → Prop} {M : am_M} {x0 : Int32} {o1 : Option am_K} {o2 : Option am_K} {x3 : Int32} {x4 : Int32}  (k1 : 4 ≤ x4 → am_ev sh C 36 (34, [some (am_I x0), some (am_R o1), some (am_R o2), some (am_I x3), some (am_I x4)], [], M, 0) P) (k2 : ¬ 4 ≤ x4 → am_ev sh C 36 (9, [some (am_I x0), some (am_R o1), some (am_R o2), some (am_I x3), some (am_I x4)], [], M, 0) P) : am_ev sh C 36 (3, [some (am_I x0), some (am_R o1), some (am_R o2), some (am_I x3), some (am_I x4)], [], M, 0) P := by
  refine am_e_iload dd_36_3 rfl rfl ?_
  refine am_e_iconst (v := 4) dd_36_5 rfl rfl ?_
  exact am_a_icmp_ge (tgt := 34) (pc' := 9) dd_36_6 rfl rfl k1 k2

theorem sg_36_9 {sh : am_Sh} {C : Nat → am_M → List am_V → am_O → Prop} {P : am_S ⊕ am_O → Prop} {M : am_M} {x0 : Int32} {o1 : Option am_K} {o2 : Option am_K} {x3 : Int32} {x4 : Int32}  (k1 : (x0 &&& ((1 : Int32) <<< (x4 &&& 31))) = 0 → am_ev sh C 36 (28, [some (am_I x0), some (am_R o1), some (am_R o2), some (am_I x3), some (am_I x4)], [], M, 0) P) (k2 : ¬ (x0 &&& ((1 : Int32) <<< (x4 &&& 31))) = 0 → am_ev sh C 36 (18, [some (am_I x0), some (am_R o1), some (am_R o2), some (am_I x3), some (am_I x4)], [], M, 0) P) : am_ev sh C 36 (9, [some (am_I x0), some (am_R o1), some (am_R o2), some (am_I x3), some (am_I x4)], [], M, 0) P := by
  refine am_e_iload_n dd_36_9 rfl rfl ?_
  refine am_e_iconst (v := 1) dd_36_10 rfl rfl ?_
  refine am_e_iload dd_36_11 rfl rfl ?_
  refine am_e_ishl dd_36_13 rfl ?_
  refine am_e_iand dd_36_14 rfl ?_
  exact am_a_if_eq (tgt := 28) (pc' := 18) dd_36_15 rfl rfl k1 k2

theorem sg_36_18 {sh : am_Sh} {C : Nat → am_M → List am_V → am_O → Prop} {P : am_S ⊕ am_O → Prop} {M : am_M} {x0 : Int32} {k1 : am_K} {N1 : Nat} {k2 : am_K} {N2 : Nat} {x3 : Int32} {x4 : Int32} {j1 : Nat} {j2 : Nat} (hz_k1 : N1 < 2147483648) (hx_j1 : x4 = nI j1) (hl_j1 : j1 < N1) (hk_k1 : am_ct sh k1 = some (Sum.inr (0, N1))) (hz_k2 : N2 < 2147483648) (hx_j2 : x3 + x4 = nI j2) (hl_j2 : j2 < N2) (hk_k2 : am_ct sh k2 = some (Sum.inr (0, N2))) (k : am_ev sh C 36 (28, [some (am_I x0), some (am_R (some k1)), some (am_R (some k2)), some (am_I x3), some (am_I x4)], [], (am_up M k2 j2 (M k1 j1)), 0) P) : am_ev sh C 36 (18, [some (am_I x0), some (am_R (some k1)), some (am_R (some k2)), some (am_I x3), some (am_I x4)], [], M, 0) P := by
  refine am_e_aload_n dd_36_18 rfl rfl ?_
  refine am_e_iload_n dd_36_19 rfl rfl ?_
  refine am_e_iload dd_36_20 rfl rfl ?_
  refine am_e_iadd dd_36_22 rfl ?_
  refine am_e_aload_n dd_36_23 rfl rfl ?_
  refine am_e_iload dd_36_24 rfl rfl ?_
  refine am_a_iald dd_36_26 hk_k1 hx_j1 hl_j1 hz_k1 rfl ?_
  refine am_a_iast dd_36_27 hk_k2 hx_j2 hl_j2 hz_k2 rfl ?_
  exact k

theorem sg_36_28 {sh : am_Sh} {C : Nat → am_M → List am_V → am_O → Prop} {P : am_S ⊕ am_O → Prop} {M : am_M} {x0 : Int32} {o1 : Option am_K} {o2 : Option am_K} {x3 : Int32} {x4 : Int32}  (k : am_ev sh C 36 (3, [some (am_I x0), some (am_R o1), some (am_R o2), some (am_I x3), some (am_I (x4 + 1))], [], M, 0) P) : am_ev sh C 36 (28, [some (am_I x0), some (am_R o1), some (am_R o2), some (am_I x3), some (am_I x4)], [], M, 0) P := by
  refine am_e_iinc (v := x4 + 1) dd_36_28 rfl rfl rfl rfl ?_
  refine am_e_goto (pc' := 3) dd_36_31 rfl ?_
  exact k

theorem sg_36_34 {sh : am_Sh} {C : Nat → am_M → List am_V → am_O → Prop} {P : am_S ⊕ am_O → Prop} {M : am_M} {x0 : Int32} {o1 : Option am_K} {o2 : Option am_K} {x3 : Int32} {x4 : Int32}  (k : P (Sum.inr (M, Sum.inl none))) : am_ev sh C 36 (34, [some (am_I x0), some (am_R o1), some (am_R o2), some (am_I x3), some (am_I x4)], [], M, 0) P := by
  exact am_e_vret dd_36_34 (by decide +kernel) rfl k

-- 37: CacheLadder.writeDirty(ILCacheLadder$Line;)I
theorem dd_37_0 : decode (am_b 37) 0 = .ok (.aload_n 2, 1) := by decide +kernel
theorem dd_37_1 : decode (am_b 37) 1 = .ok (.getfield 160, 3) := by decide +kernel
theorem dd_37_4 : decode (am_b 37) 4 = .ok (.istore_n 3, 1) := by decide +kernel
theorem dd_37_5 : decode (am_b 37) 5 = .ok (.iload_n 3, 1) := by decide +kernel
theorem dd_37_6 : decode (am_b 37) 6 = .ok (.ifCond .eq 22, 3) := by decide +kernel
theorem dd_37_9 : decode (am_b 37) 9 = .ok (.aload_n 2, 1) := by decide +kernel
theorem dd_37_10 : decode (am_b 37) 10 = .ok (.iconst 0, 1) := by decide +kernel
theorem dd_37_11 : decode (am_b 37) 11 = .ok (.putfield 160, 3) := by decide +kernel
theorem dd_37_14 : decode (am_b 37) 14 = .ok (.aload_n 0, 1) := by decide +kernel
theorem dd_37_15 : decode (am_b 37) 15 = .ok (.iload_n 1, 1) := by decide +kernel
theorem dd_37_16 : decode (am_b 37) 16 = .ok (.aload_n 2, 1) := by decide +kernel
theorem dd_37_17 : decode (am_b 37) 17 = .ok (.getfield 148, 3) := by decide +kernel
theorem dd_37_20 : decode (am_b 37) 20 = .ok (.iload_n 3, 1) := by decide +kernel
theorem dd_37_21 : decode (am_b 37) 21 = .ok (.aload_n 2, 1) := by decide +kernel
theorem dd_37_22 : decode (am_b 37) 22 = .ok (.getfield 94, 3) := by decide +kernel
theorem dd_37_25 : decode (am_b 37) 25 = .ok (.invokevirtual 233, 3) := by decide +kernel
theorem dd_37_28 : decode (am_b 37) 28 = .ok (.iload_n 3, 1) := by decide +kernel
theorem dd_37_29 : decode (am_b 37) 29 = .ok (.invokestatic 173, 3) := by decide +kernel
theorem dd_37_32 : decode (am_b 37) 32 = .ok (.ireturn, 1) := by decide +kernel
theorem sg_37_0 {sh : am_Sh} {C : Nat → am_M → List am_V → am_O → Prop} {P : am_S ⊕ am_O → Prop} {M : am_M} {x1 : Int32} {t2 : Nat} {i2 : Nat} {u3 : Option am_V} (ht2 : t2 < sh.1) (ht2_i2 : i2 < sh.2.1 t2) (k1 : (M (9, t2, i2) 2) = 0 → am_ev sh C 37 (28, [some (am_R (some (0, 0, 0))), some (am_I x1), some (am_R (some (9, t2, i2))), some (am_I (M (9, t2, i2) 2))], [], M, 0) P) (k2 : ¬ (M (9, t2, i2) 2) = 0 → am_ev sh C 37 (9, [some (am_R (some (0, 0, 0))), some (am_I x1), some (am_R (some (9, t2, i2))), some (am_I (M (9, t2, i2) 2))], [], M, 0) P) : am_ev sh C 37 (0, [some (am_R (some (0, 0, 0))), some (am_I x1), some (am_R (some (9, t2, i2))), u3], [], M, 0) P := by
  refine am_e_aload_n dd_37_0 rfl rfl ?_
  refine am_e_gf (ci := 0) (j := 2) (v := am_I (M (9, t2, i2) 2)) dd_37_1 (by decide +kernel) (am_ct9 ht2 ht2_i2) rfl rfl ?_
  refine am_e_istore_n dd_37_4 (Nat.le_of_ble_eq_true rfl) rfl rfl ?_
  refine am_e_iload_n dd_37_5 rfl rfl ?_
  exact am_a_if_eq (tgt := 28) (pc' := 9) dd_37_6 rfl rfl k1 k2

theorem sg_37_9 {sh : am_Sh} {C : Nat → am_M → List am_V → am_O → Prop} {P : am_S ⊕ am_O → Prop} {M : am_M} {x1 : Int32} {t2 : Nat} {i2 : Nat} {x3 : Int32} {M1 : am_M} (ht2 : t2 < sh.1) (ht2_i2 : i2 < sh.2.1 t2) (hc1 : C 38 (am_up M (9, t2, i2) 2 0) [am_R (some (0, 0, 0)), am_I x1, am_I ((am_up M (9, t2, i2) 2 0) (9, t2, i2) 1), am_I x3, am_R (some (10, t2, i2))] (M1, Sum.inl none)) (k : am_ev sh C 37 (28, [some (am_R (some (0, 0, 0))), some (am_I x1), some (am_R (some (9, t2, i2))), some (am_I x3)], [], M1, 0) P) : am_ev sh C 37 (9, [some (am_R (some (0, 0, 0))), some (am_I x1), some (am_R (some (9, t2, i2))), some (am_I x3)], [], M, 0) P := by
  refine am_e_aload_n dd_37_9 rfl rfl ?_
  refine am_e_iconst (v := 0) dd_37_10 rfl rfl ?_
  refine am_e_pf (ci := 0) (j := 2) dd_37_11 (by decide +kernel) (am_ct9 ht2 ht2_i2) rfl (Or.inl rfl) rfl ?_
  refine am_e_aload_n dd_37_14 rfl rfl ?_
  refine am_e_iload_n dd_37_15 rfl rfl ?_
  refine am_e_aload_n dd_37_16 rfl rfl ?_
  refine am_e_gf (ci := 0) (j := 1) (v := am_I ((am_up M (9, t2, i2) 2 0) (9, t2, i2) 1)) dd_37_17 (by decide +kernel) (am_ct9 ht2 ht2_i2) rfl rfl ?_
  refine am_e_iload_n dd_37_20 rfl rfl ?_
  refine am_e_aload_n dd_37_21 rfl rfl ?_
  refine am_e_gf (ci := 0) (j := 0) (v := am_R (some (10, t2, i2))) dd_37_22 (by decide +kernel) (am_ct9 ht2 ht2_i2) rfl rfl ?_
  refine am_e_callV (c := 38) (k := 5) (as := [am_R (some (0, 0, 0)), am_I x1, am_I ((am_up M (9, t2, i2) 2 0) (9, t2, i2) 1), am_I x3, am_R (some (10, t2, i2))]) (S' := []) (v := none) (M' := M1) (n' := 0) dd_37_25 (by decide +kernel) ⟨Nat.le_of_ble_eq_true rfl, Nat.le_of_ble_eq_true rfl, by decide +kernel, (Or.inr (am_rcv_of rfl))⟩ rfl rfl (by decide +kernel) hc1 rfl ?_
  exact k

theorem sg_37_28 {sh : am_Sh} {C : Nat → am_M → List am_V → am_O → Prop} {P : am_S ⊕ am_O → Prop} {M : am_M} {x1 : Int32} {o2 : Option am_K} {x3 : Int32} {M1 : am_M} {r1 : Int32} (hc1 : C 59 M [am_I x3] (M1, Sum.inl (some (am_I r1)))) (k : P (Sum.inr (M1, Sum.inl (some (am_I r1))))) : am_ev sh C 37 (28, [some (am_R (some (0, 0, 0))), some (am_I x1), some (am_R o2), some (am_I x3)], [], M, 0) P := by
  refine am_e_iload_n dd_37_28 rfl rfl ?_
  refine am_e_callS (c := 59) (k := 1) (as := [am_I x3]) (S' := [am_I r1]) (v := some (am_I r1)) (M' := M1) (n' := 0) dd_37_29 (by decide +kernel) (by decide +kernel) ⟨Nat.le_of_ble_eq_true rfl, Nat.le_of_ble_eq_true rfl, by decide +kernel, (Or.inl rfl)⟩ rfl rfl (by decide +kernel) hc1 rfl ?_
  exact am_e_iret dd_37_32 (by decide +kernel) (Or.inl rfl) k

-- 38: CacheLadder.writeBelow(III[I)V
theorem dd_38_0 : decode (am_b 38) 0 = .ok (.aload_n 0, 1) := by decide +kernel
theorem dd_38_1 : decode (am_b 38) 1 = .ok (.getfield 15, 3) := by decide +kernel
theorem dd_38_4 : decode (am_b 38) 4 = .ok (.iload_n 1, 1) := by decide +kernel
theorem dd_38_5 : decode (am_b 38) 5 = .ok (.aaload, 1) := by decide +kernel
theorem dd_38_6 : decode (am_b 38) 6 = .ok (.getfield 127, 3) := by decide +kernel
theorem dd_38_9 : decode (am_b 38) 9 = .ok (.iconst 5, 1) := by decide +kernel
theorem dd_38_10 : decode (am_b 38) 10 = .ok (.dup2, 1) := by decide +kernel
theorem dd_38_11 : decode (am_b 38) 11 = .ok (.iaload, 1) := by decide +kernel
theorem dd_38_12 : decode (am_b 38) 12 = .ok (.iload_n 3, 1) := by decide +kernel
theorem dd_38_13 : decode (am_b 38) 13 = .ok (.invokestatic 173, 3) := by decide +kernel
theorem dd_38_16 : decode (am_b 38) 16 = .ok (.iadd, 1) := by decide +kernel
theorem dd_38_17 : decode (am_b 38) 17 = .ok (.iastore, 1) := by decide +kernel
theorem dd_38_18 : decode (am_b 38) 18 = .ok (.aload_n 0, 1) := by decide +kernel
theorem dd_38_19 : decode (am_b 38) 19 = .ok (.iload_n 1, 1) := by decide +kernel
theorem dd_38_20 : decode (am_b 38) 20 = .ok (.iconst 1, 1) := by decide +kernel
theorem dd_38_21 : decode (am_b 38) 21 = .ok (.iadd, 1) := by decide +kernel
theorem dd_38_22 : decode (am_b 38) 22 = .ok (.iload_n 2, 1) := by decide +kernel
theorem dd_38_23 : decode (am_b 38) 23 = .ok (.iload_n 3, 1) := by decide +kernel
theorem dd_38_24 : decode (am_b 38) 24 = .ok (.aload 4, 2) := by decide +kernel
theorem dd_38_26 : decode (am_b 38) 26 = .ok (.invokevirtual 81, 3) := by decide +kernel
theorem dd_38_29 : decode (am_b 38) 29 = .ok (.return_, 1) := by decide +kernel
theorem sg_38_0 {sh : am_Sh} {C : Nat → am_M → List am_V → am_O → Prop} {P : am_S ⊕ am_O → Prop} {M : am_M} {x1 : Int32} {x2 : Int32} {x3 : Int32} {o4 : Option am_K} {t91 : Nat} {M1 : am_M} {r1 : Int32} {M2 : am_M} (hx_t91 : x1 = nI t91) (ht91 : t91 < sh.1) (hh4 : sh.1 ≤ 4) (hc1 : C 59 M [am_I x3] (M1, Sum.inl (some (am_I r1)))) (hc2 : C 39 (am_up M1 (8, t91, 0) 5 ((M (8, t91, 0) 5) + r1)) [am_R (some (0, 0, 0)), am_I (x1 + 1), am_I x2, am_I x3, am_R o4] (M2, Sum.inl none)) (k : P (Sum.inr (M2, Sum.inl none))) : am_ev sh C 38 (0, [some (am_R (some (0, 0, 0))), some (am_I x1), some (am_I x2), some (am_I x3), some (am_R o4)], [], M, 0) P := by
  refine am_e_aload_n dd_38_0 rfl rfl ?_
  refine am_e_gf (ci := 2) (j := 1) (v := am_R (some (2, 0, 0))) dd_38_1 (by decide +kernel) rfl rfl rfl ?_
  refine am_e_iload_n dd_38_4 rfl rfl ?_
  refine am_a_rald dd_38_5 rfl (Or.inl rfl) hx_t91 (Nat.lt_of_lt_of_le ht91 hh4) (by decide) (am_rf2 ht91) rfl ?_
  refine am_e_gf (ci := 1) (j := 7) (v := am_R (some (8, t91, 0))) dd_38_6 (by decide +kernel) (am_ct5 ht91) rfl rfl ?_
  refine am_e_iconst (v := 5) dd_38_9 rfl rfl ?_
  refine am_e_dup2 dd_38_10 rfl rfl rfl ?_
  refine am_a_iald dd_38_11 (am_ct8 ht91) rfl (by decide) (by decide) rfl ?_
  refine am_e_iload_n dd_38_12 rfl rfl ?_
  refine am_e_callS (c := 59) (k := 1) (as := [am_I x3]) (S' := [am_I r1, am_I (M (8, t91, 0) 5), am_I 5, am_R (some (8, t91, 0))]) (v := some (am_I r1)) (M' := M1) (n' := 0) dd_38_13 (by decide +kernel) (by decide +kernel) ⟨Nat.le_of_ble_eq_true rfl, Nat.le_of_ble_eq_true rfl, by decide +kernel, (Or.inl rfl)⟩ rfl rfl (by decide +kernel) hc1 rfl ?_
  refine am_e_iadd dd_38_16 rfl ?_
  refine am_a_iast dd_38_17 (am_ct8 ht91) rfl (by decide) (by decide) rfl ?_
  refine am_e_aload_n dd_38_18 rfl rfl ?_
  refine am_e_iload_n dd_38_19 rfl rfl ?_
  refine am_e_iconst (v := 1) dd_38_20 rfl rfl ?_
  refine am_e_iadd dd_38_21 rfl ?_
  refine am_e_iload_n dd_38_22 rfl rfl ?_
  refine am_e_iload_n dd_38_23 rfl rfl ?_
  refine am_e_aload dd_38_24 rfl rfl ?_
  refine am_e_callV (c := 39) (k := 5) (as := [am_R (some (0, 0, 0)), am_I (x1 + 1), am_I x2, am_I x3, am_R o4]) (S' := []) (v := none) (M' := M2) (n' := 0) dd_38_26 (by decide +kernel) ⟨Nat.le_of_ble_eq_true rfl, Nat.le_of_ble_eq_true rfl, by decide +kernel, (Or.inr (am_rcv_of rfl))⟩ rfl rfl (by decide +kernel) hc2 rfl ?_
  exact am_e_vret dd_38_29 (by decide +kernel) rfl k

-- 39: CacheLadder.writeAt(III[I)V
theorem dd_39_0 : decode (am_b 39) 0 = .ok (.iload_n 1, 1) := by decide +kernel
theorem dd_39_1 : decode (am_b 39) 1 = .ok (.aload_n 0, 1) := by decide +kernel
theorem dd_39_2 : decode (am_b 39) 2 = .ok (.getfield 38, 3) := by decide +kernel
theorem dd_39_5 : decode (am_b 39) 5 = .ok (.if_icmp .lt 29, 3) := by decide +kernel
theorem dd_39_8 : decode (am_b 39) 8 = .ok (.aload_n 0, 1) := by decide +kernel
theorem dd_39_9 : decode (am_b 39) 9 = .ok (.dup, 1) := by decide +kernel
theorem dd_39_10 : decode (am_b 39) 10 = .ok (.getfield 130, 3) := by decide +kernel
theorem dd_39_13 : decode (am_b 39) 13 = .ok (.iconst 1, 1) := by decide +kernel
theorem dd_39_14 : decode (am_b 39) 14 = .ok (.iadd, 1) := by decide +kernel
theorem dd_39_15 : decode (am_b 39) 15 = .ok (.putfield 130, 3) := by decide +kernel
theorem dd_39_18 : decode (am_b 39) 18 = .ok (.iload_n 3, 1) := by decide +kernel
theorem dd_39_19 : decode (am_b 39) 19 = .ok (.aload 4, 2) := by decide +kernel
theorem dd_39_21 : decode (am_b 39) 21 = .ok (.aload_n 0, 1) := by decide +kernel
theorem dd_39_22 : decode (am_b 39) 22 = .ok (.getfield 9, 3) := by decide +kernel
theorem dd_39_25 : decode (am_b 39) 25 = .ok (.iload_n 2, 1) := by decide +kernel
theorem dd_39_26 : decode (am_b 39) 26 = .ok (.iconst 4, 1) := by decide +kernel
theorem dd_39_27 : decode (am_b 39) 27 = .ok (.imul, 1) := by decide +kernel
theorem dd_39_28 : decode (am_b 39) 28 = .ok (.invokestatic 229, 3) := by decide +kernel
theorem dd_39_31 : decode (am_b 39) 31 = .ok (.goto 37, 3) := by decide +kernel
theorem dd_39_34 : decode (am_b 39) 34 = .ok (.aload_n 0, 1) := by decide +kernel
theorem dd_39_35 : decode (am_b 39) 35 = .ok (.getfield 15, 3) := by decide +kernel
theorem dd_39_38 : decode (am_b 39) 38 = .ok (.iload_n 1, 1) := by decide +kernel
theorem dd_39_39 : decode (am_b 39) 39 = .ok (.aaload, 1) := by decide +kernel
theorem dd_39_40 : decode (am_b 39) 40 = .ok (.getfield 236, 3) := by decide +kernel
theorem dd_39_43 : decode (am_b 39) 43 = .ok (.iconst 2, 1) := by decide +kernel
theorem dd_39_44 : decode (am_b 39) 44 = .ok (.if_icmp .ne 15, 3) := by decide +kernel
theorem dd_39_47 : decode (am_b 39) 47 = .ok (.aload_n 0, 1) := by decide +kernel
theorem dd_39_48 : decode (am_b 39) 48 = .ok (.iload_n 1, 1) := by decide +kernel
theorem dd_39_49 : decode (am_b 39) 49 = .ok (.iload_n 2, 1) := by decide +kernel
theorem dd_39_50 : decode (am_b 39) 50 = .ok (.iload_n 3, 1) := by decide +kernel
theorem dd_39_51 : decode (am_b 39) 51 = .ok (.aload 4, 2) := by decide +kernel
theorem dd_39_53 : decode (am_b 39) 53 = .ok (.invokevirtual 239, 3) := by decide +kernel
theorem dd_39_56 : decode (am_b 39) 56 = .ok (.goto 12, 3) := by decide +kernel
theorem dd_39_59 : decode (am_b 39) 59 = .ok (.aload_n 0, 1) := by decide +kernel
theorem dd_39_60 : decode (am_b 39) 60 = .ok (.iload_n 1, 1) := by decide +kernel
theorem dd_39_61 : decode (am_b 39) 61 = .ok (.iload_n 2, 1) := by decide +kernel
theorem dd_39_62 : decode (am_b 39) 62 = .ok (.iload_n 3, 1) := by decide +kernel
theorem dd_39_63 : decode (am_b 39) 63 = .ok (.aload 4, 2) := by decide +kernel
theorem dd_39_65 : decode (am_b 39) 65 = .ok (.invokevirtual 242, 3) := by decide +kernel
theorem dd_39_68 : decode (am_b 39) 68 = .ok (.return_, 1) := by decide +kernel
theorem sg_39_0 {sh : am_Sh} {C : Nat → am_M → List am_V → am_O → Prop} {P : am_S ⊕ am_O → Prop} {M : am_M} {x1 : Int32} {x2 : Int32} {x3 : Int32} {o4 : Option am_K}  (k1 : x1 < (M (0, 0, 0) 4) → am_ev sh C 39 (34, [some (am_R (some (0, 0, 0))), some (am_I x1), some (am_I x2), some (am_I x3), some (am_R o4)], [], M, 0) P) (k2 : ¬ x1 < (M (0, 0, 0) 4) → am_ev sh C 39 (8, [some (am_R (some (0, 0, 0))), some (am_I x1), some (am_I x2), some (am_I x3), some (am_R o4)], [], M, 0) P) : am_ev sh C 39 (0, [some (am_R (some (0, 0, 0))), some (am_I x1), some (am_I x2), some (am_I x3), some (am_R o4)], [], M, 0) P := by
  refine am_e_iload_n dd_39_0 rfl rfl ?_
  refine am_e_aload_n dd_39_1 rfl rfl ?_
  refine am_e_gf (ci := 2) (j := 4) (v := am_I (M (0, 0, 0) 4)) dd_39_2 (by decide +kernel) rfl rfl rfl ?_
  exact am_a_icmp_lt (tgt := 34) (pc' := 8) dd_39_5 rfl rfl k1 k2

theorem sg_39_8 {sh : am_Sh} {C : Nat → am_M → List am_V → am_O → Prop} {P : am_S ⊕ am_O → Prop} {M : am_M} {x1 : Int32} {x2 : Int32} {x3 : Int32} {o4 : Option am_K} {M1 : am_M} (hc1 : C 36 (am_up M (0, 0, 0) 6 ((M (0, 0, 0) 6) + 1)) [am_I x3, am_R o4, am_R (some (1, 0, 0)), am_I (x2 * 4)] (M1, Sum.inl none)) (k : am_ev sh C 39 (68, [some (am_R (some (0, 0, 0))), some (am_I x1), some (am_I x2), some (am_I x3), some (am_R o4)], [], M1, 0) P) : am_ev sh C 39 (8, [some (am_R (some (0, 0, 0))), some (am_I x1), some (am_I x2), some (am_I x3), some (am_R o4)], [], M, 0) P := by
  refine am_e_aload_n dd_39_8 rfl rfl ?_
  refine am_e_dup dd_39_9 rfl rfl ?_
  refine am_e_gf (ci := 2) (j := 6) (v := am_I (M (0, 0, 0) 6)) dd_39_10 (by decide +kernel) rfl rfl rfl ?_
  refine am_e_iconst (v := 1) dd_39_13 rfl rfl ?_
  refine am_e_iadd dd_39_14 rfl ?_
  refine am_e_pf (ci := 2) (j := 6) dd_39_15 (by decide +kernel) rfl rfl (Or.inl rfl) rfl ?_
  refine am_e_iload_n dd_39_18 rfl rfl ?_
  refine am_e_aload dd_39_19 rfl rfl ?_
  refine am_e_aload_n dd_39_21 rfl rfl ?_
  refine am_e_gf (ci := 2) (j := 0) (v := am_R (some (1, 0, 0))) dd_39_22 (by decide +kernel) rfl rfl rfl ?_
  refine am_e_iload_n dd_39_25 rfl rfl ?_
  refine am_e_iconst (v := 4) dd_39_26 rfl rfl ?_
  refine am_e_imul dd_39_27 rfl ?_
  refine am_e_callS (c := 36) (k := 4) (as := [am_I x3, am_R o4, am_R (some (1, 0, 0)), am_I (x2 * 4)]) (S' := []) (v := none) (M' := M1) (n' := 0) dd_39_28 (by decide +kernel) (by decide +kernel) ⟨Nat.le_of_ble_eq_true rfl, Nat.le_of_ble_eq_true rfl, by decide +kernel, (Or.inl rfl)⟩ rfl rfl (by decide +kernel) hc1 rfl ?_
  refine am_e_goto (pc' := 68) dd_39_31 rfl ?_
  exact k

theorem sg_39_34 {sh : am_Sh} {C : Nat → am_M → List am_V → am_O → Prop} {P : am_S ⊕ am_O → Prop} {M : am_M} {x1 : Int32} {x2 : Int32} {x3 : Int32} {o4 : Option am_K} {t91 : Nat} (hx_t91 : x1 = nI t91) (ht91 : t91 < sh.1) (hh4 : sh.1 ≤ 4) (k1 : ¬ (M (5, t91, 0) 3) = 2 → am_ev sh C 39 (59, [some (am_R (some (0, 0, 0))), some (am_I x1), some (am_I x2), some (am_I x3), some (am_R o4)], [], M, 0) P) (k2 : (M (5, t91, 0) 3) = 2 → am_ev sh C 39 (47, [some (am_R (some (0, 0, 0))), some (am_I x1), some (am_I x2), some (am_I x3), some (am_R o4)], [], M, 0) P) : am_ev sh C 39 (34, [some (am_R (some (0, 0, 0))), some (am_I x1), some (am_I x2), some (am_I x3), some (am_R o4)], [], M, 0) P := by
  refine am_e_aload_n dd_39_34 rfl rfl ?_
  refine am_e_gf (ci := 2) (j := 1) (v := am_R (some (2, 0, 0))) dd_39_35 (by decide +kernel) rfl rfl rfl ?_
  refine am_e_iload_n dd_39_38 rfl rfl ?_
  refine am_a_rald dd_39_39 rfl (Or.inl rfl) hx_t91 (Nat.lt_of_lt_of_le ht91 hh4) (by decide) (am_rf2 ht91) rfl ?_
  refine am_e_gf (ci := 1) (j := 3) (v := am_I (M (5, t91, 0) 3)) dd_39_40 (by decide +kernel) (am_ct5 ht91) rfl rfl ?_
  refine am_e_iconst (v := 2) dd_39_43 rfl rfl ?_
  exact am_a_icmp_ne (tgt := 59) (pc' := 47) dd_39_44 rfl rfl k1 k2

theorem sg_39_47 {sh : am_Sh} {C : Nat → am_M → List am_V → am_O → Prop} {P : am_S ⊕ am_O → Prop} {M : am_M} {x1 : Int32} {x2 : Int32} {x3 : Int32} {o4 : Option am_K} {M1 : am_M} (hc1 : C 40 M [am_R (some (0, 0, 0)), am_I x1, am_I x2, am_I x3, am_R o4] (M1, Sum.inl none)) (k : am_ev sh C 39 (68, [some (am_R (some (0, 0, 0))), some (am_I x1), some (am_I x2), some (am_I x3), some (am_R o4)], [], M1, 0) P) : am_ev sh C 39 (47, [some (am_R (some (0, 0, 0))), some (am_I x1), some (am_I x2), some (am_I x3), some (am_R o4)], [], M, 0) P := by
  refine am_e_aload_n dd_39_47 rfl rfl ?_
  refine am_e_iload_n dd_39_48 rfl rfl ?_
  refine am_e_iload_n dd_39_49 rfl rfl ?_
  refine am_e_iload_n dd_39_50 rfl rfl ?_
  refine am_e_aload dd_39_51 rfl rfl ?_
  refine am_e_callV (c := 40) (k := 5) (as := [am_R (some (0, 0, 0)), am_I x1, am_I x2, am_I x3, am_R o4]) (S' := []) (v := none) (M' := M1) (n' := 0) dd_39_53 (by decide +kernel) ⟨Nat.le_of_ble_eq_true rfl, Nat.le_of_ble_eq_true rfl, by decide +kernel, (Or.inr (am_rcv_of rfl))⟩ rfl rfl (by decide +kernel) hc1 rfl ?_
  refine am_e_goto (pc' := 68) dd_39_56 rfl ?_
  exact k

theorem sg_39_59 {sh : am_Sh} {C : Nat → am_M → List am_V → am_O → Prop} {P : am_S ⊕ am_O → Prop} {M : am_M} {x1 : Int32} {x2 : Int32} {x3 : Int32} {o4 : Option am_K} {M1 : am_M} (hc1 : C 41 M [am_R (some (0, 0, 0)), am_I x1, am_I x2, am_I x3, am_R o4] (M1, Sum.inl none)) (k : am_ev sh C 39 (68, [some (am_R (some (0, 0, 0))), some (am_I x1), some (am_I x2), some (am_I x3), some (am_R o4)], [], M1, 0) P) : am_ev sh C 39 (59, [some (am_R (some (0, 0, 0))), some (am_I x1), some (am_I x2), some (am_I x3), some (am_R o4)], [], M, 0) P := by
  refine am_e_aload_n dd_39_59 rfl rfl ?_
  refine am_e_iload_n dd_39_60 rfl rfl ?_
  refine am_e_iload_n dd_39_61 rfl rfl ?_
  refine am_e_iload_n dd_39_62 rfl rfl ?_
  refine am_e_aload dd_39_63 rfl rfl ?_
  refine am_e_callV (c := 41) (k := 5) (as := [am_R (some (0, 0, 0)), am_I x1, am_I x2, am_I x3, am_R o4]) (S' := []) (v := none) (M' := M1) (n' := 0) dd_39_65 (by decide +kernel) ⟨Nat.le_of_ble_eq_true rfl, Nat.le_of_ble_eq_true rfl, by decide +kernel, (Or.inr (am_rcv_of rfl))⟩ rfl rfl (by decide +kernel) hc1 rfl ?_
  exact k

theorem sg_39_68 {sh : am_Sh} {C : Nat → am_M → List am_V → am_O → Prop} {P : am_S ⊕ am_O → Prop} {M : am_M} {x1 : Int32} {x2 : Int32} {x3 : Int32} {o4 : Option am_K}  (k : P (Sum.inr (M, Sum.inl none))) : am_ev sh C 39 (68, [some (am_R (some (0, 0, 0))), some (am_I x1), some (am_I x2), some (am_I x3), some (am_R o4)], [], M, 0) P := by
  exact am_e_vret dd_39_68 (by decide +kernel) rfl k

-- 40: CacheLadder.writeAround(III[I)V
theorem dd_40_0 : decode (am_b 40) 0 = .ok (.aload_n 0, 1) := by decide +kernel
theorem dd_40_1 : decode (am_b 40) 1 = .ok (.getfield 15, 3) := by decide +kernel
theorem dd_40_4 : decode (am_b 40) 4 = .ok (.iload_n 1, 1) := by decide +kernel
theorem dd_40_5 : decode (am_b 40) 5 = .ok (.aaload, 1) := by decide +kernel
theorem dd_40_6 : decode (am_b 40) 6 = .ok (.getfield 127, 3) := by decide +kernel
theorem dd_40_9 : decode (am_b 40) 9 = .ok (.iconst 3, 1) := by decide +kernel
theorem dd_40_10 : decode (am_b 40) 10 = .ok (.dup2, 1) := by decide +kernel
theorem dd_40_11 : decode (am_b 40) 11 = .ok (.iaload, 1) := by decide +kernel
theorem dd_40_12 : decode (am_b 40) 12 = .ok (.iconst 1, 1) := by decide +kernel
theorem dd_40_13 : decode (am_b 40) 13 = .ok (.iadd, 1) := by decide +kernel
theorem dd_40_14 : decode (am_b 40) 14 = .ok (.iastore, 1) := by decide +kernel
theorem dd_40_15 : decode (am_b 40) 15 = .ok (.aload_n 0, 1) := by decide +kernel
theorem dd_40_16 : decode (am_b 40) 16 = .ok (.getfield 15, 3) := by decide +kernel
theorem dd_40_19 : decode (am_b 40) 19 = .ok (.iload_n 1, 1) := by decide +kernel
theorem dd_40_20 : decode (am_b 40) 20 = .ok (.aaload, 1) := by decide +kernel
theorem dd_40_21 : decode (am_b 40) 21 = .ok (.iload_n 2, 1) := by decide +kernel
theorem dd_40_22 : decode (am_b 40) 22 = .ok (.invokevirtual 157, 3) := by decide +kernel
theorem dd_40_25 : decode (am_b 40) 25 = .ok (.astore 5, 2) := by decide +kernel
theorem dd_40_27 : decode (am_b 40) 27 = .ok (.aload 5, 2) := by decide +kernel
theorem dd_40_29 : decode (am_b 40) 29 = .ok (.ifnull 10, 3) := by decide +kernel
theorem dd_40_32 : decode (am_b 40) 32 = .ok (.aload_n 0, 1) := by decide +kernel
theorem dd_40_33 : decode (am_b 40) 33 = .ok (.iload_n 1, 1) := by decide +kernel
theorem dd_40_34 : decode (am_b 40) 34 = .ok (.aload 5, 2) := by decide +kernel
theorem dd_40_36 : decode (am_b 40) 36 = .ok (.invokevirtual 114, 3) := by decide +kernel
theorem dd_40_39 : decode (am_b 40) 39 = .ok (.aload_n 0, 1) := by decide +kernel
theorem dd_40_40 : decode (am_b 40) 40 = .ok (.iload_n 1, 1) := by decide +kernel
theorem dd_40_41 : decode (am_b 40) 41 = .ok (.iload_n 2, 1) := by decide +kernel
theorem dd_40_42 : decode (am_b 40) 42 = .ok (.iload_n 3, 1) := by decide +kernel
theorem dd_40_43 : decode (am_b 40) 43 = .ok (.aload 4, 2) := by decide +kernel
theorem dd_40_45 : decode (am_b 40) 45 = .ok (.invokevirtual 233, 3) := by decide +kernel
theorem dd_40_48 : decode (am_b 40) 48 = .ok (.return_, 1) := by decide +kernel
theorem sg_40_0 {sh : am_Sh} {C : Nat → am_M → List am_V → am_O → Prop} {P : am_S ⊕ am_O → Prop} {M : am_M} {x1 : Int32} {x2 : Int32} {x3 : Int32} {o4 : Option am_K} {u5 : Option am_V} {t91 : Nat} {t92 : Nat} {M1 : am_M} {oq1 : Option am_K} (hx_t91 : x1 = nI t91) (ht91 : t91 < sh.1) (hh4 : sh.1 ≤ 4) (hx_t92 : x1 = nI t92) (ht92 : t92 < sh.1) (hc1 : C 2 (am_up M (8, t91, 0) 3 ((M (8, t91, 0) 3) + 1)) [am_R (some (5, t92, 0)), am_I x2] (M1, Sum.inl (some (am_R oq1)))) (k1 : (oq1 = none → am_ev sh C 40 (39, [some (am_R (some (0, 0, 0))), some (am_I x1), some (am_I x2), some (am_I x3), some (am_R o4), some (am_R oq1)], [], M1, 0) P)) (k2 : ∀ k, oq1 = some k → am_ev sh C 40 (32, [some (am_R (some (0, 0, 0))), some (am_I x1), some (am_I x2), some (am_I x3), some (am_R o4), some (am_R oq1)], [], M1, 0) P) : am_ev sh C 40 (0, [some (am_R (some (0, 0, 0))), some (am_I x1), some (am_I x2), some (am_I x3), some (am_R o4), u5], [], M, 0) P := by
  refine am_e_aload_n dd_40_0 rfl rfl ?_
  refine am_e_gf (ci := 2) (j := 1) (v := am_R (some (2, 0, 0))) dd_40_1 (by decide +kernel) rfl rfl rfl ?_
  refine am_e_iload_n dd_40_4 rfl rfl ?_
  refine am_a_rald dd_40_5 rfl (Or.inl rfl) hx_t91 (Nat.lt_of_lt_of_le ht91 hh4) (by decide) (am_rf2 ht91) rfl ?_
  refine am_e_gf (ci := 1) (j := 7) (v := am_R (some (8, t91, 0))) dd_40_6 (by decide +kernel) (am_ct5 ht91) rfl rfl ?_
  refine am_e_iconst (v := 3) dd_40_9 rfl rfl ?_
  refine am_e_dup2 dd_40_10 rfl rfl rfl ?_
  refine am_a_iald dd_40_11 (am_ct8 ht91) rfl (by decide) (by decide) rfl ?_
  refine am_e_iconst (v := 1) dd_40_12 rfl rfl ?_
  refine am_e_iadd dd_40_13 rfl ?_
  refine am_a_iast dd_40_14 (am_ct8 ht91) rfl (by decide) (by decide) rfl ?_
  refine am_e_aload_n dd_40_15 rfl rfl ?_
  refine am_e_gf (ci := 2) (j := 1) (v := am_R (some (2, 0, 0))) dd_40_16 (by decide +kernel) rfl rfl rfl ?_
  refine am_e_iload_n dd_40_19 rfl rfl ?_
  refine am_a_rald dd_40_20 rfl (Or.inl rfl) hx_t92 (Nat.lt_of_lt_of_le ht92 hh4) (by decide) (am_rf2 ht92) rfl ?_
  refine am_e_iload_n dd_40_21 rfl rfl ?_
  refine am_e_callV (c := 2) (k := 2) (as := [am_R (some (5, t92, 0)), am_I x2]) (S' := [am_R oq1]) (v := some (am_R oq1)) (M' := M1) (n' := 0) dd_40_22 (by decide +kernel) ⟨Nat.le_of_ble_eq_true rfl, Nat.le_of_ble_eq_true rfl, by decide +kernel, (Or.inr (am_rcv_of (am_ct5 ht92)))⟩ rfl rfl (by decide +kernel) hc1 rfl ?_
  refine am_e_astore dd_40_25 (Nat.le_of_ble_eq_true rfl) rfl rfl ?_
  refine am_e_aload dd_40_27 rfl rfl ?_
  exact am_e_ifnull (tgt := 39) (pc' := 32) dd_40_29 rfl rfl k1 k2

theorem sg_40_32 {sh : am_Sh} {C : Nat → am_M → List am_V → am_O → Prop} {P : am_S ⊕ am_O → Prop} {M : am_M} {x1 : Int32} {x2 : Int32} {x3 : Int32} {o4 : Option am_K} {o5 : Option am_K} {M1 : am_M} (hc1 : C 34 M [am_R (some (0, 0, 0)), am_I x1, am_R o5] (M1, Sum.inl none)) (k : am_ev sh C 40 (39, [some (am_R (some (0, 0, 0))), some (am_I x1), some (am_I x2), some (am_I x3), some (am_R o4), some (am_R o5)], [], M1, 0) P) : am_ev sh C 40 (32, [some (am_R (some (0, 0, 0))), some (am_I x1), some (am_I x2), some (am_I x3), some (am_R o4), some (am_R o5)], [], M, 0) P := by
  refine am_e_aload_n dd_40_32 rfl rfl ?_
  refine am_e_iload_n dd_40_33 rfl rfl ?_
  refine am_e_aload dd_40_34 rfl rfl ?_
  refine am_e_callV (c := 34) (k := 3) (as := [am_R (some (0, 0, 0)), am_I x1, am_R o5]) (S' := []) (v := none) (M' := M1) (n' := 0) dd_40_36 (by decide +kernel) ⟨Nat.le_of_ble_eq_true rfl, Nat.le_of_ble_eq_true rfl, by decide +kernel, (Or.inr (am_rcv_of rfl))⟩ rfl rfl (by decide +kernel) hc1 rfl ?_
  exact k

theorem sg_40_39 {sh : am_Sh} {C : Nat → am_M → List am_V → am_O → Prop} {P : am_S ⊕ am_O → Prop} {M : am_M} {x1 : Int32} {x2 : Int32} {x3 : Int32} {o4 : Option am_K} {o5 : Option am_K} {M1 : am_M} (hc1 : C 38 M [am_R (some (0, 0, 0)), am_I x1, am_I x2, am_I x3, am_R o4] (M1, Sum.inl none)) (k : P (Sum.inr (M1, Sum.inl none))) : am_ev sh C 40 (39, [some (am_R (some (0, 0, 0))), some (am_I x1), some (am_I x2), some (am_I x3), some (am_R o4), some (am_R o5)], [], M, 0) P := by
  refine am_e_aload_n dd_40_39 rfl rfl ?_
  refine am_e_iload_n dd_40_40 rfl rfl ?_
  refine am_e_iload_n dd_40_41 rfl rfl ?_
  refine am_e_iload_n dd_40_42 rfl rfl ?_
  refine am_e_aload dd_40_43 rfl rfl ?_
  refine am_e_callV (c := 38) (k := 5) (as := [am_R (some (0, 0, 0)), am_I x1, am_I x2, am_I x3, am_R o4]) (S' := []) (v := none) (M' := M1) (n' := 0) dd_40_45 (by decide +kernel) ⟨Nat.le_of_ble_eq_true rfl, Nat.le_of_ble_eq_true rfl, by decide +kernel, (Or.inr (am_rcv_of rfl))⟩ rfl rfl (by decide +kernel) hc1 rfl ?_
  exact am_e_vret dd_40_48 (by decide +kernel) rfl k

-- 41: CacheLadder.writeInLine(III[I)V
theorem dd_41_0 : decode (am_b 41) 0 = .ok (.aload_n 0, 1) := by decide +kernel
theorem dd_41_1 : decode (am_b 41) 1 = .ok (.getfield 15, 3) := by decide +kernel
theorem dd_41_4 : decode (am_b 41) 4 = .ok (.iload_n 1, 1) := by decide +kernel
theorem dd_41_5 : decode (am_b 41) 5 = .ok (.aaload, 1) := by decide +kernel
theorem dd_41_6 : decode (am_b 41) 6 = .ok (.astore 5, 2) := by decide +kernel
theorem dd_41_8 : decode (am_b 41) 8 = .ok (.aload 5, 2) := by decide +kernel
theorem dd_41_10 : decode (am_b 41) 10 = .ok (.iload_n 2, 1) := by decide +kernel
theorem dd_41_11 : decode (am_b 41) 11 = .ok (.invokevirtual 157, 3) := by decide +kernel
theorem dd_41_14 : decode (am_b 41) 14 = .ok (.astore 6, 2) := by decide +kernel
theorem dd_41_16 : decode (am_b 41) 16 = .ok (.aload 6, 2) := by decide +kernel
theorem dd_41_18 : decode (am_b 41) 18 = .ok (.ifnonnull 44, 3) := by decide +kernel
theorem dd_41_21 : decode (am_b 41) 21 = .ok (.aload 5, 2) := by decide +kernel
theorem dd_41_23 : decode (am_b 41) 23 = .ok (.getfield 127, 3) := by decide +kernel
theorem dd_41_26 : decode (am_b 41) 26 = .ok (.iconst 3, 1) := by decide +kernel
theorem dd_41_27 : decode (am_b 41) 27 = .ok (.dup2, 1) := by decide +kernel
theorem dd_41_28 : decode (am_b 41) 28 = .ok (.iaload, 1) := by decide +kernel
theorem dd_41_29 : decode (am_b 41) 29 = .ok (.iconst 1, 1) := by decide +kernel
theorem dd_41_30 : decode (am_b 41) 30 = .ok (.iadd, 1) := by decide +kernel
theorem dd_41_31 : decode (am_b 41) 31 = .ok (.iastore, 1) := by decide +kernel
theorem dd_41_32 : decode (am_b 41) 32 = .ok (.aload_n 0, 1) := by decide +kernel
theorem dd_41_33 : decode (am_b 41) 33 = .ok (.iload_n 1, 1) := by decide +kernel
theorem dd_41_34 : decode (am_b 41) 34 = .ok (.iload_n 2, 1) := by decide +kernel
theorem dd_41_35 : decode (am_b 41) 35 = .ok (.iload_n 3, 1) := by decide +kernel
theorem dd_41_36 : decode (am_b 41) 36 = .ok (.bipush 15, 2) := by decide +kernel
theorem dd_41_38 : decode (am_b 41) 38 = .ok (.if_icmp .ne 11, 3) := by decide +kernel
theorem dd_41_41 : decode (am_b 41) 41 = .ok (.aload_n 0, 1) := by decide +kernel
theorem dd_41_42 : decode (am_b 41) 42 = .ok (.iload_n 1, 1) := by decide +kernel
theorem dd_41_43 : decode (am_b 41) 43 = .ok (.invokevirtual 245, 3) := by decide +kernel
theorem dd_41_46 : decode (am_b 41) 46 = .ok (.ifCond .eq 7, 3) := by decide +kernel
theorem dd_41_49 : decode (am_b 41) 49 = .ok (.iconst 1, 1) := by decide +kernel
theorem dd_41_50 : decode (am_b 41) 50 = .ok (.goto 4, 3) := by decide +kernel
theorem dd_41_53 : decode (am_b 41) 53 = .ok (.iconst 0, 1) := by decide +kernel
theorem dd_41_54 : decode (am_b 41) 54 = .ok (.invokevirtual 199, 3) := by decide +kernel
theorem dd_41_57 : decode (am_b 41) 57 = .ok (.astore 6, 2) := by decide +kernel
theorem dd_41_59 : decode (am_b 41) 59 = .ok (.goto 21, 3) := by decide +kernel
theorem dd_41_62 : decode (am_b 41) 62 = .ok (.aload 5, 2) := by decide +kernel
theorem dd_41_64 : decode (am_b 41) 64 = .ok (.getfield 127, 3) := by decide +kernel
theorem dd_41_67 : decode (am_b 41) 67 = .ok (.iconst 2, 1) := by decide +kernel
theorem dd_41_68 : decode (am_b 41) 68 = .ok (.dup2, 1) := by decide +kernel
theorem dd_41_69 : decode (am_b 41) 69 = .ok (.iaload, 1) := by decide +kernel
theorem dd_41_70 : decode (am_b 41) 70 = .ok (.iconst 1, 1) := by decide +kernel
theorem dd_41_71 : decode (am_b 41) 71 = .ok (.iadd, 1) := by decide +kernel
theorem dd_41_72 : decode (am_b 41) 72 = .ok (.iastore, 1) := by decide +kernel
theorem dd_41_73 : decode (am_b 41) 73 = .ok (.aload 5, 2) := by decide +kernel
theorem dd_41_75 : decode (am_b 41) 75 = .ok (.aload 6, 2) := by decide +kernel
theorem dd_41_77 : decode (am_b 41) 77 = .ok (.invokevirtual 203, 3) := by decide +kernel
theorem dd_41_80 : decode (am_b 41) 80 = .ok (.iload_n 3, 1) := by decide +kernel
theorem dd_41_81 : decode (am_b 41) 81 = .ok (.aload 4, 2) := by decide +kernel
theorem dd_41_83 : decode (am_b 41) 83 = .ok (.aload 6, 2) := by decide +kernel
theorem dd_41_85 : decode (am_b 41) 85 = .ok (.getfield 94, 3) := by decide +kernel
theorem dd_41_88 : decode (am_b 41) 88 = .ok (.iconst 0, 1) := by decide +kernel
theorem dd_41_89 : decode (am_b 41) 89 = .ok (.invokestatic 229, 3) := by decide +kernel
theorem dd_41_92 : decode (am_b 41) 92 = .ok (.aload 5, 2) := by decide +kernel
theorem dd_41_94 : decode (am_b 41) 94 = .ok (.getfield 236, 3) := by decide +kernel
theorem dd_41_97 : decode (am_b 41) 97 = .ok (.iconst 1, 1) := by decide +kernel
theorem dd_41_98 : decode (am_b 41) 98 = .ok (.if_icmp .ne 17, 3) := by decide +kernel
theorem dd_41_101 : decode (am_b 41) 101 = .ok (.aload 6, 2) := by decide +kernel
theorem dd_41_103 : decode (am_b 41) 103 = .ok (.dup, 1) := by decide +kernel
theorem dd_41_104 : decode (am_b 41) 104 = .ok (.getfield 160, 3) := by decide +kernel
theorem dd_41_107 : decode (am_b 41) 107 = .ok (.iload_n 3, 1) := by decide +kernel
theorem dd_41_108 : decode (am_b 41) 108 = .ok (.ior, 1) := by decide +kernel
theorem dd_41_109 : decode (am_b 41) 109 = .ok (.putfield 160, 3) := by decide +kernel
theorem dd_41_112 : decode (am_b 41) 112 = .ok (.goto 25, 3) := by decide +kernel
theorem dd_41_115 : decode (am_b 41) 115 = .ok (.aload 6, 2) := by decide +kernel
theorem dd_41_117 : decode (am_b 41) 117 = .ok (.dup, 1) := by decide +kernel
theorem dd_41_118 : decode (am_b 41) 118 = .ok (.getfield 160, 3) := by decide +kernel
theorem dd_41_121 : decode (am_b 41) 121 = .ok (.iload_n 3, 1) := by decide +kernel
theorem dd_41_122 : decode (am_b 41) 122 = .ok (.iconst (-1), 1) := by decide +kernel
theorem dd_41_123 : decode (am_b 41) 123 = .ok (.ixor, 1) := by decide +kernel
theorem dd_41_124 : decode (am_b 41) 124 = .ok (.iand, 1) := by decide +kernel
theorem dd_41_125 : decode (am_b 41) 125 = .ok (.putfield 160, 3) := by decide +kernel
theorem dd_41_128 : decode (am_b 41) 128 = .ok (.aload_n 0, 1) := by decide +kernel
theorem dd_41_129 : decode (am_b 41) 129 = .ok (.iload_n 1, 1) := by decide +kernel
theorem dd_41_130 : decode (am_b 41) 130 = .ok (.iload_n 2, 1) := by decide +kernel
theorem dd_41_131 : decode (am_b 41) 131 = .ok (.iload_n 3, 1) := by decide +kernel
theorem dd_41_132 : decode (am_b 41) 132 = .ok (.aload 4, 2) := by decide +kernel
theorem dd_41_134 : decode (am_b 41) 134 = .ok (.invokevirtual 233, 3) := by decide +kernel
theorem dd_41_137 : decode (am_b 41) 137 = .ok (.return_, 1) := by decide +kernel
theorem sg_41_0 {sh : am_Sh} {C : Nat → am_M → List am_V → am_O → Prop} {P : am_S ⊕ am_O → Prop} {M : am_M} {x1 : Int32} {x2 : Int32} {x3 : Int32} {o4 : Option am_K} {u5 : Option am_V} {u6 : Option am_V} {t91 : Nat} {M1 : am_M} {oq1 : Option am_K} (hx_t91 : x1 = nI t91) (ht91 : t91 < sh.1) (hh4 : sh.1 ≤ 4) (hc1 : C 2 M [am_R (some (5, t91, 0)), am_I x2] (M1, Sum.inl (some (am_R oq1)))) (k1 : ∀ k, oq1 = some k → am_ev sh C 41 (62, [some (am_R (some (0, 0, 0))), some (am_I x1), some (am_I x2), some (am_I x3), some (am_R o4), some (am_R (some (5, t91, 0))), some (am_R oq1)], [], M1, 0) P) (k2 : oq1 = none → am_ev sh C 41 (21, [some (am_R (some (0, 0, 0))), some (am_I x1), some (am_I x2), some (am_I x3), some (am_R o4), some (am_R (some (5, t91, 0))), some (am_R oq1)], [], M1, 0) P) : am_ev sh C 41 (0, [some (am_R (some (0, 0, 0))), some (am_I x1), some (am_I x2), some (am_I x3), some (am_R o4), u5, u6], [], M, 0) P := by
  refine am_e_aload_n dd_41_0 rfl rfl ?_
  refine am_e_gf (ci := 2) (j := 1) (v := am_R (some (2, 0, 0))) dd_41_1 (by decide +kernel) rfl rfl rfl ?_
  refine am_e_iload_n dd_41_4 rfl rfl ?_
  refine am_a_rald dd_41_5 rfl (Or.inl rfl) hx_t91 (Nat.lt_of_lt_of_le ht91 hh4) (by decide) (am_rf2 ht91) rfl ?_
  refine am_e_astore dd_41_6 (Nat.le_of_ble_eq_true rfl) rfl rfl ?_
  refine am_e_aload dd_41_8 rfl rfl ?_
  refine am_e_iload_n dd_41_10 rfl rfl ?_
  refine am_e_callV (c := 2) (k := 2) (as := [am_R (some (5, t91, 0)), am_I x2]) (S' := [am_R oq1]) (v := some (am_R oq1)) (M' := M1) (n' := 0) dd_41_11 (by decide +kernel) ⟨Nat.le_of_ble_eq_true rfl, Nat.le_of_ble_eq_true rfl, by decide +kernel, (Or.inr (am_rcv_of (am_ct5 ht91)))⟩ rfl rfl (by decide +kernel) hc1 rfl ?_
  refine am_e_astore dd_41_14 (Nat.le_of_ble_eq_true rfl) rfl rfl ?_
  refine am_e_aload dd_41_16 rfl rfl ?_
  exact am_e_ifnonnull (tgt := 62) (pc' := 21) dd_41_18 rfl rfl k1 k2

theorem sg_41_21 {sh : am_Sh} {C : Nat → am_M → List am_V → am_O → Prop} {P : am_S ⊕ am_O → Prop} {M : am_M} {x1 : Int32} {x2 : Int32} {x3 : Int32} {o4 : Option am_K} {t5 : Nat} {o6 : Option am_K} (ht5 : t5 < sh.1) (k1 : ¬ x3 = 15 → am_ev sh C 41 (49, [some (am_R (some (0, 0, 0))), some (am_I x1), some (am_I x2), some (am_I x3), some (am_R o4), some (am_R (some (5, t5, 0))), some (am_R o6)], [am_I x2, am_I x1, am_R (some (0, 0, 0))], (am_up M (8, t5, 0) 3 ((M (8, t5, 0) 3) + 1)), 0) P) (k2 : x3 = 15 → am_ev sh C 41 (41, [some (am_R (some (0, 0, 0))), some (am_I x1), some (am_I x2), some (am_I x3), some (am_R o4), some (am_R (some (5, t5, 0))), some (am_R o6)], [am_I x2, am_I x1, am_R (some (0, 0, 0))], (am_up M (8, t5, 0) 3 ((M (8, t5, 0) 3) + 1)), 0) P) : am_ev sh C 41 (21, [some (am_R (some (0, 0, 0))), some (am_I x1), some (am_I x2), some (am_I x3), some (am_R o4), some (am_R (some (5, t5, 0))), some (am_R o6)], [], M, 0) P := by
  refine am_e_aload dd_41_21 rfl rfl ?_
  refine am_e_gf (ci := 1) (j := 7) (v := am_R (some (8, t5, 0))) dd_41_23 (by decide +kernel) (am_ct5 ht5) rfl rfl ?_
  refine am_e_iconst (v := 3) dd_41_26 rfl rfl ?_
  refine am_e_dup2 dd_41_27 rfl rfl rfl ?_
  refine am_a_iald dd_41_28 (am_ct8 ht5) rfl (by decide) (by decide) rfl ?_
  refine am_e_iconst (v := 1) dd_41_29 rfl rfl ?_
  refine am_e_iadd dd_41_30 rfl ?_
  refine am_a_iast dd_41_31 (am_ct8 ht5) rfl (by decide) (by decide) rfl ?_
  refine am_e_aload_n dd_41_32 rfl rfl ?_
  refine am_e_iload_n dd_41_33 rfl rfl ?_
  refine am_e_iload_n dd_41_34 rfl rfl ?_
  refine am_e_iload_n dd_41_35 rfl rfl ?_
  refine am_e_bipush (v := 15) dd_41_36 (by decide) rfl ?_
  exact am_a_icmp_ne (tgt := 49) (pc' := 41) dd_41_38 rfl rfl k1 k2

theorem sg_41_41 {sh : am_Sh} {C : Nat → am_M → List am_V → am_O → Prop} {P : am_S ⊕ am_O → Prop} {M : am_M} {x1 : Int32} {x2 : Int32} {x3 : Int32} {o4 : Option am_K} {t5 : Nat} {o6 : Option am_K} {xs1 : Int32} {xs2 : Int32} {M1 : am_M} {r1 : Int32} (hc1 : C 42 M [am_R (some (0, 0, 0)), am_I x1] (M1, Sum.inl (some (am_I r1)))) (k1 : r1 = 0 → am_ev sh C 41 (53, [some (am_R (some (0, 0, 0))), some (am_I x1), some (am_I x2), some (am_I x3), some (am_R o4), some (am_R (some (5, t5, 0))), some (am_R o6)], [am_I xs2, am_I xs1, am_R (some (0, 0, 0))], M1, 0) P) (k2 : ¬ r1 = 0 → am_ev sh C 41 (49, [some (am_R (some (0, 0, 0))), some (am_I x1), some (am_I x2), some (am_I x3), some (am_R o4), some (am_R (some (5, t5, 0))), some (am_R o6)], [am_I xs2, am_I xs1, am_R (some (0, 0, 0))], M1, 0) P) : am_ev sh C 41 (41, [some (am_R (some (0, 0, 0))), some (am_I x1), some (am_I x2), some (am_I x3), some (am_R o4), some (am_R (some (5, t5, 0))), some (am_R o6)], [am_I xs2, am_I xs1, am_R (some (0, 0, 0))], M, 0) P := by
  refine am_e_aload_n dd_41_41 rfl rfl ?_
  refine am_e_iload_n dd_41_42 rfl rfl ?_
  refine am_e_callV (c := 42) (k := 2) (as := [am_R (some (0, 0, 0)), am_I x1]) (S' := [am_I r1, am_I xs2, am_I xs1, am_R (some (0, 0, 0))]) (v := some (am_I r1)) (M' := M1) (n' := 0) dd_41_43 (by decide +kernel) ⟨Nat.le_of_ble_eq_true rfl, Nat.le_of_ble_eq_true rfl, by decide +kernel, (Or.inr (am_rcv_of rfl))⟩ rfl rfl (by decide +kernel) hc1 rfl ?_
  exact am_a_if_eq (tgt := 53) (pc' := 49) dd_41_46 rfl rfl k1 k2

theorem sg_41_49 {sh : am_Sh} {C : Nat → am_M → List am_V → am_O → Prop} {P : am_S ⊕ am_O → Prop} {M : am_M} {x1 : Int32} {x2 : Int32} {x3 : Int32} {o4 : Option am_K} {t5 : Nat} {o6 : Option am_K} {xs1 : Int32} {xs2 : Int32}  (k : am_ev sh C 41 (54, [some (am_R (some (0, 0, 0))), some (am_I x1), some (am_I x2), some (am_I x3), some (am_R o4), some (am_R (some (5, t5, 0))), some (am_R o6)], [am_I 1, am_I xs2, am_I xs1, am_R (some (0, 0, 0))], M, 0) P) : am_ev sh C 41 (49, [some (am_R (some (0, 0, 0))), some (am_I x1), some (am_I x2), some (am_I x3), some (am_R o4), some (am_R (some (5, t5, 0))), some (am_R o6)], [am_I xs2, am_I xs1, am_R (some (0, 0, 0))], M, 0) P := by
  refine am_e_iconst (v := 1) dd_41_49 rfl rfl ?_
  refine am_e_goto (pc' := 54) dd_41_50 rfl ?_
  exact k

theorem sg_41_53 {sh : am_Sh} {C : Nat → am_M → List am_V → am_O → Prop} {P : am_S ⊕ am_O → Prop} {M : am_M} {x1 : Int32} {x2 : Int32} {x3 : Int32} {o4 : Option am_K} {t5 : Nat} {o6 : Option am_K} {xs1 : Int32} {xs2 : Int32}  (k : am_ev sh C 41 (54, [some (am_R (some (0, 0, 0))), some (am_I x1), some (am_I x2), some (am_I x3), some (am_R o4), some (am_R (some (5, t5, 0))), some (am_R o6)], [am_I 0, am_I xs2, am_I xs1, am_R (some (0, 0, 0))], M, 0) P) : am_ev sh C 41 (53, [some (am_R (some (0, 0, 0))), some (am_I x1), some (am_I x2), some (am_I x3), some (am_R o4), some (am_R (some (5, t5, 0))), some (am_R o6)], [am_I xs2, am_I xs1, am_R (some (0, 0, 0))], M, 0) P := by
  refine am_e_iconst (v := 0) dd_41_53 rfl rfl ?_
  exact k

theorem sg_41_54 {sh : am_Sh} {C : Nat → am_M → List am_V → am_O → Prop} {P : am_S ⊕ am_O → Prop} {M : am_M} {x1 : Int32} {x2 : Int32} {x3 : Int32} {o4 : Option am_K} {t5 : Nat} {o6 : Option am_K} {xs1 : Int32} {xs2 : Int32} {xs3 : Int32} {M1 : am_M} {oq1 : Option am_K} (hc1 : C 32 M [am_R (some (0, 0, 0)), am_I xs1, am_I xs2, am_I xs3] (M1, Sum.inl (some (am_R oq1)))) (k : am_ev sh C 41 (80, [some (am_R (some (0, 0, 0))), some (am_I x1), some (am_I x2), some (am_I x3), some (am_R o4), some (am_R (some (5, t5, 0))), some (am_R oq1)], [], M1, 0) P) : am_ev sh C 41 (54, [some (am_R (some (0, 0, 0))), some (am_I x1), some (am_I x2), some (am_I x3), some (am_R o4), some (am_R (some (5, t5, 0))), some (am_R o6)], [am_I xs3, am_I xs2, am_I xs1, am_R (some (0, 0, 0))], M, 0) P := by
  refine am_e_callV (c := 32) (k := 4) (as := [am_R (some (0, 0, 0)), am_I xs1, am_I xs2, am_I xs3]) (S' := [am_R oq1]) (v := some (am_R oq1)) (M' := M1) (n' := 0) dd_41_54 (by decide +kernel) ⟨Nat.le_of_ble_eq_true rfl, Nat.le_of_ble_eq_true rfl, by decide +kernel, (Or.inr (am_rcv_of rfl))⟩ rfl rfl (by decide +kernel) hc1 rfl ?_
  refine am_e_astore dd_41_57 (Nat.le_of_ble_eq_true rfl) rfl rfl ?_
  refine am_e_goto (pc' := 80) dd_41_59 rfl ?_
  exact k

theorem sg_41_62 {sh : am_Sh} {C : Nat → am_M → List am_V → am_O → Prop} {P : am_S ⊕ am_O → Prop} {M : am_M} {x1 : Int32} {x2 : Int32} {x3 : Int32} {o4 : Option am_K} {t5 : Nat} {o6 : Option am_K} {M1 : am_M} (ht5 : t5 < sh.1) (hc1 : C 13 (am_up M (8, t5, 0) 2 ((M (8, t5, 0) 2) + 1)) [am_R (some (5, t5, 0)), am_R o6] (M1, Sum.inl none)) (k : am_ev sh C 41 (80, [some (am_R (some (0, 0, 0))), some (am_I x1), some (am_I x2), some (am_I x3), some (am_R o4), some (am_R (some (5, t5, 0))), some (am_R o6)], [], M1, 0) P) : am_ev sh C 41 (62, [some (am_R (some (0, 0, 0))), some (am_I x1), some (am_I x2), some (am_I x3), some (am_R o4), some (am_R (some (5, t5, 0))), some (am_R o6)], [], M, 0) P := by
  refine am_e_aload dd_41_62 rfl rfl ?_
  refine am_e_gf (ci := 1) (j := 7) (v := am_R (some (8, t5, 0))) dd_41_64 (by decide +kernel) (am_ct5 ht5) rfl rfl ?_
  refine am_e_iconst (v := 2) dd_41_67 rfl rfl ?_
  refine am_e_dup2 dd_41_68 rfl rfl rfl ?_
  refine am_a_iald dd_41_69 (am_ct8 ht5) rfl (by decide) (by decide) rfl ?_
  refine am_e_iconst (v := 1) dd_41_70 rfl rfl ?_
  refine am_e_iadd dd_41_71 rfl ?_
  refine am_a_iast dd_41_72 (am_ct8 ht5) rfl (by decide) (by decide) rfl ?_
  refine am_e_aload dd_41_73 rfl rfl ?_
  refine am_e_aload dd_41_75 rfl rfl ?_
  refine am_e_callV (c := 13) (k := 2) (as := [am_R (some (5, t5, 0)), am_R o6]) (S' := []) (v := none) (M' := M1) (n' := 0) dd_41_77 (by decide +kernel) ⟨Nat.le_of_ble_eq_true rfl, Nat.le_of_ble_eq_true rfl, by decide +kernel, (Or.inr (am_rcv_of (am_ct5 ht5)))⟩ rfl rfl (by decide +kernel) hc1 rfl ?_
  exact k

theorem sg_41_80 {sh : am_Sh} {C : Nat → am_M → List am_V → am_O → Prop} {P : am_S ⊕ am_O → Prop} {M : am_M} {x1 : Int32} {x2 : Int32} {x3 : Int32} {o4 : Option am_K} {t5 : Nat} {t6 : Nat} {i6 : Nat} {M1 : am_M} (ht6 : t6 < sh.1) (ht6_i6 : i6 < sh.2.1 t6) (hc1 : C 36 M [am_I x3, am_R o4, am_R (some (10, t6, i6)), am_I 0] (M1, Sum.inl none)) (ht5 : t5 < sh.1) (k1 : ¬ (M1 (5, t5, 0) 3) = 1 → am_ev sh C 41 (115, [some (am_R (some (0, 0, 0))), some (am_I x1), some (am_I x2), some (am_I x3), some (am_R o4), some (am_R (some (5, t5, 0))), some (am_R (some (9, t6, i6)))], [], M1, 0) P) (k2 : (M1 (5, t5, 0) 3) = 1 → am_ev sh C 41 (101, [some (am_R (some (0, 0, 0))), some (am_I x1), some (am_I x2), some (am_I x3), some (am_R o4), some (am_R (some (5, t5, 0))), some (am_R (some (9, t6, i6)))], [], M1, 0) P) : am_ev sh C 41 (80, [some (am_R (some (0, 0, 0))), some (am_I x1), some (am_I x2), some (am_I x3), some (am_R o4), some (am_R (some (5, t5, 0))), some (am_R (some (9, t6, i6)))], [], M, 0) P := by
  refine am_e_iload_n dd_41_80 rfl rfl ?_
  refine am_e_aload dd_41_81 rfl rfl ?_
  refine am_e_aload dd_41_83 rfl rfl ?_
  refine am_e_gf (ci := 0) (j := 0) (v := am_R (some (10, t6, i6))) dd_41_85 (by decide +kernel) (am_ct9 ht6 ht6_i6) rfl rfl ?_
  refine am_e_iconst (v := 0) dd_41_88 rfl rfl ?_
  refine am_e_callS (c := 36) (k := 4) (as := [am_I x3, am_R o4, am_R (some (10, t6, i6)), am_I 0]) (S' := []) (v := none) (M' := M1) (n' := 0) dd_41_89 (by decide +kernel) (by decide +kernel) ⟨Nat.le_of_ble_eq_true rfl, Nat.le_of_ble_eq_true rfl, by decide +kernel, (Or.inl rfl)⟩ rfl rfl (by decide +kernel) hc1 rfl ?_
  refine am_e_aload dd_41_92 rfl rfl ?_
  refine am_e_gf (ci := 1) (j := 3) (v := am_I (M1 (5, t5, 0) 3)) dd_41_94 (by decide +kernel) (am_ct5 ht5) rfl rfl ?_
  refine am_e_iconst (v := 1) dd_41_97 rfl rfl ?_
  exact am_a_icmp_ne (tgt := 115) (pc' := 101) dd_41_98 rfl rfl k1 k2

theorem sg_41_101 {sh : am_Sh} {C : Nat → am_M → List am_V → am_O → Prop} {P : am_S ⊕ am_O → Prop} {M : am_M} {x1 : Int32} {x2 : Int32} {x3 : Int32} {o4 : Option am_K} {t5 : Nat} {t6 : Nat} {i6 : Nat} (ht6 : t6 < sh.1) (ht6_i6 : i6 < sh.2.1 t6) (k : am_ev sh C 41 (137, [some (am_R (some (0, 0, 0))), some (am_I x1), some (am_I x2), some (am_I x3), some (am_R o4), some (am_R (some (5, t5, 0))), some (am_R (some (9, t6, i6)))], [], (am_up M (9, t6, i6) 2 ((M (9, t6, i6) 2) ||| x3)), 0) P) : am_ev sh C 41 (101, [some (am_R (some (0, 0, 0))), some (am_I x1), some (am_I x2), some (am_I x3), some (am_R o4), some (am_R (some (5, t5, 0))), some (am_R (some (9, t6, i6)))], [], M, 0) P := by
  refine am_e_aload dd_41_101 rfl rfl ?_
  refine am_e_dup dd_41_103 rfl rfl ?_
  refine am_e_gf (ci := 0) (j := 2) (v := am_I (M (9, t6, i6) 2)) dd_41_104 (by decide +kernel) (am_ct9 ht6 ht6_i6) rfl rfl ?_
  refine am_e_iload_n dd_41_107 rfl rfl ?_
  refine am_e_ior dd_41_108 rfl ?_
  refine am_e_pf (ci := 0) (j := 2) dd_41_109 (by decide +kernel) (am_ct9 ht6 ht6_i6) rfl (Or.inl rfl) rfl ?_
  refine am_e_goto (pc' := 137) dd_41_112 rfl ?_
  exact k

theorem sg_41_115 {sh : am_Sh} {C : Nat → am_M → List am_V → am_O → Prop} {P : am_S ⊕ am_O → Prop} {M : am_M} {x1 : Int32} {x2 : Int32} {x3 : Int32} {o4 : Option am_K} {t5 : Nat} {t6 : Nat} {i6 : Nat} {M1 : am_M} (ht6 : t6 < sh.1) (ht6_i6 : i6 < sh.2.1 t6) (hc1 : C 38 (am_up M (9, t6, i6) 2 ((M (9, t6, i6) 2) &&& (x3 ^^^ (-1)))) [am_R (some (0, 0, 0)), am_I x1, am_I x2, am_I x3, am_R o4] (M1, Sum.inl none)) (k : am_ev sh C 41 (137, [some (am_R (some (0, 0, 0))), some (am_I x1), some (am_I x2), some (am_I x3), some (am_R o4), some (am_R (some (5, t5, 0))), some (am_R (some (9, t6, i6)))], [], M1, 0) P) : am_ev sh C 41 (115, [some (am_R (some (0, 0, 0))), some (am_I x1), some (am_I x2), some (am_I x3), some (am_R o4), some (am_R (some (5, t5, 0))), some (am_R (some (9, t6, i6)))], [], M, 0) P := by
  refine am_e_aload dd_41_115 rfl rfl ?_
  refine am_e_dup dd_41_117 rfl rfl ?_
  refine am_e_gf (ci := 0) (j := 2) (v := am_I (M (9, t6, i6) 2)) dd_41_118 (by decide +kernel) (am_ct9 ht6 ht6_i6) rfl rfl ?_
  refine am_e_iload_n dd_41_121 rfl rfl ?_
  refine am_e_iconst (v := (-1)) dd_41_122 rfl rfl ?_
  refine am_e_ixor dd_41_123 rfl ?_
  refine am_e_iand dd_41_124 rfl ?_
  refine am_e_pf (ci := 0) (j := 2) dd_41_125 (by decide +kernel) (am_ct9 ht6 ht6_i6) rfl (Or.inl rfl) rfl ?_
  refine am_e_aload_n dd_41_128 rfl rfl ?_
  refine am_e_iload_n dd_41_129 rfl rfl ?_
  refine am_e_iload_n dd_41_130 rfl rfl ?_
  refine am_e_iload_n dd_41_131 rfl rfl ?_
  refine am_e_aload dd_41_132 rfl rfl ?_
  refine am_e_callV (c := 38) (k := 5) (as := [am_R (some (0, 0, 0)), am_I x1, am_I x2, am_I x3, am_R o4]) (S' := []) (v := none) (M' := M1) (n' := 0) dd_41_134 (by decide +kernel) ⟨Nat.le_of_ble_eq_true rfl, Nat.le_of_ble_eq_true rfl, by decide +kernel, (Or.inr (am_rcv_of rfl))⟩ rfl rfl (by decide +kernel) hc1 rfl ?_
  exact k

theorem sg_41_137 {sh : am_Sh} {C : Nat → am_M → List am_V → am_O → Prop} {P : am_S ⊕ am_O → Prop} {M : am_M} {x1 : Int32} {x2 : Int32} {x3 : Int32} {o4 : Option am_K} {t5 : Nat} {o6 : Option am_K}  (k : P (Sum.inr (M, Sum.inl none))) : am_ev sh C 41 (137, [some (am_R (some (0, 0, 0))), some (am_I x1), some (am_I x2), some (am_I x3), some (am_R o4), some (am_R (some (5, t5, 0))), some (am_R o6)], [], M, 0) P := by
  exact am_e_vret dd_41_137 (by decide +kernel) rfl k

-- 42: CacheLadder.closedBelow(I)Z
theorem dd_42_0 : decode (am_b 42) 0 = .ok (.iload_n 1, 1) := by decide +kernel
theorem dd_42_1 : decode (am_b 42) 1 = .ok (.iconst 1, 1) := by decide +kernel
theorem dd_42_2 : decode (am_b 42) 2 = .ok (.iadd, 1) := by decide +kernel
theorem dd_42_3 : decode (am_b 42) 3 = .ok (.istore_n 2, 1) := by decide +kernel
theorem dd_42_4 : decode (am_b 42) 4 = .ok (.iload_n 2, 1) := by decide +kernel
theorem dd_42_5 : decode (am_b 42) 5 = .ok (.aload_n 0, 1) := by decide +kernel
theorem dd_42_6 : decode (am_b 42) 6 = .ok (.getfield 38, 3) := by decide +kernel
theorem dd_42_9 : decode (am_b 42) 9 = .ok (.if_icmp .ge 23, 3) := by decide +kernel
theorem dd_42_12 : decode (am_b 42) 12 = .ok (.aload_n 0, 1) := by decide +kernel
theorem dd_42_13 : decode (am_b 42) 13 = .ok (.getfield 15, 3) := by decide +kernel
theorem dd_42_16 : decode (am_b 42) 16 = .ok (.iload_n 2, 1) := by decide +kernel
theorem dd_42_17 : decode (am_b 42) 17 = .ok (.aaload, 1) := by decide +kernel
theorem dd_42_18 : decode (am_b 42) 18 = .ok (.getfield 220, 3) := by decide +kernel
theorem dd_42_21 : decode (am_b 42) 21 = .ok (.ifCond .eq 5, 3) := by decide +kernel
theorem dd_42_24 : decode (am_b 42) 24 = .ok (.iconst 1, 1) := by decide +kernel
theorem dd_42_25 : decode (am_b 42) 25 = .ok (.ireturn, 1) := by decide +kernel
theorem dd_42_26 : decode (am_b 42) 26 = .ok (.iinc 2 1, 3) := by decide +kernel
theorem dd_42_29 : decode (am_b 42) 29 = .ok (.goto (-25), 3) := by decide +kernel
theorem dd_42_32 : decode (am_b 42) 32 = .ok (.iconst 0, 1) := by decide +kernel
theorem dd_42_33 : decode (am_b 42) 33 = .ok (.ireturn, 1) := by decide +kernel
theorem sg_42_0 {sh : am_Sh} {C : Nat → am_M → List am_V → am_O → Prop} {P : am_S ⊕ am_O → Prop} {M : am_M} {x1 : Int32} {u2 : Option am_V}  (k : am_ev sh C 42 (4, [some (am_R (some (0, 0, 0))), some (am_I x1), some (am_I (x1 + 1))], [], M, 0) P) : am_ev sh C 42 (0, [some (am_R (some (0, 0, 0))), some (am_I x1), u2], [], M, 0) P := by
  refine am_e_iload_n dd_42_0 rfl rfl ?_
  refine am_e_iconst (v := 1) dd_42_1 rfl rfl ?_
  refine am_e_iadd dd_42_2 rfl ?_
  refine am_e_istore_n dd_42_3 (Nat.le_of_ble_eq_true rfl) rfl rfl ?_
  exact k

theorem sg_42_4 {sh : am_Sh} {C : Nat → am_M → List am_V → am_O → Prop} {P : am_S ⊕ am_O → Prop} {M : am_M} {x1 : Int32} {x2 : Int32}  (k1 : (M (0, 0, 0) 4) ≤ x2 → am_ev sh C 42 (32, [some (am_R (some (0, 0, 0))), some (am_I x1), some (am_I x2)], [], M, 0) P) (k2 : ¬ (M (0, 0, 0) 4) ≤ x2 → am_ev sh C 42 (12, [some (am_R (some (0, 0, 0))), some (am_I x1), some (am_I x2)], [], M, 0) P) : am_ev sh C 42 (4, [some (am_R (some (0, 0, 0))), some (am_I x1), some (am_I x2)], [], M, 0) P := by
  refine am_e_iload_n dd_42_4 rfl rfl ?_
  refine am_e_aload_n dd_42_5 rfl rfl ?_
  refine am_e_gf (ci := 2) (j := 4) (v := am_I (M (0, 0, 0) 4)) dd_42_6 (by decide +kernel) rfl rfl rfl ?_
  exact am_a_icmp_ge (tgt := 32) (pc' := 12) dd_42_9 rfl rfl k1 k2

theorem sg_42_12 {sh : am_Sh} {C : Nat → am_M → List am_V → am_O → Prop} {P : am_S ⊕ am_O → Prop} {M : am_M} {x1 : Int32} {x2 : Int32} {t91 : Nat} (hx_t91 : x2 = nI t91) (ht91 : t91 < sh.1) (hh4 : sh.1 ≤ 4) (k1 : (M (5, t91, 0) 4) = 0 → am_ev sh C 42 (26, [some (am_R (some (0, 0, 0))), some (am_I x1), some (am_I x2)], [], M, 0) P) (k2 : ¬ (M (5, t91, 0) 4) = 0 → am_ev sh C 42 (24, [some (am_R (some (0, 0, 0))), some (am_I x1), some (am_I x2)], [], M, 0) P) : am_ev sh C 42 (12, [some (am_R (some (0, 0, 0))), some (am_I x1), some (am_I x2)], [], M, 0) P := by
  refine am_e_aload_n dd_42_12 rfl rfl ?_
  refine am_e_gf (ci := 2) (j := 1) (v := am_R (some (2, 0, 0))) dd_42_13 (by decide +kernel) rfl rfl rfl ?_
  refine am_e_iload_n dd_42_16 rfl rfl ?_
  refine am_a_rald dd_42_17 rfl (Or.inl rfl) hx_t91 (Nat.lt_of_lt_of_le ht91 hh4) (by decide) (am_rf2 ht91) rfl ?_
  refine am_e_gf (ci := 1) (j := 4) (v := am_I (M (5, t91, 0) 4)) dd_42_18 (by decide +kernel) (am_ct5 ht91) rfl rfl ?_
  exact am_a_if_eq (tgt := 26) (pc' := 24) dd_42_21 rfl rfl k1 k2

theorem sg_42_24 {sh : am_Sh} {C : Nat → am_M → List am_V → am_O → Prop} {P : am_S ⊕ am_O → Prop} {M : am_M} {x1 : Int32} {x2 : Int32}  (k : P (Sum.inr (M, Sum.inl (some (am_I 1))))) : am_ev sh C 42 (24, [some (am_R (some (0, 0, 0))), some (am_I x1), some (am_I x2)], [], M, 0) P := by
  refine am_e_iconst (v := 1) dd_42_24 rfl rfl ?_
  exact am_e_iret dd_42_25 (by decide +kernel) (Or.inr ⟨rfl, Or.inr rfl⟩) k

theorem sg_42_26 {sh : am_Sh} {C : Nat → am_M → List am_V → am_O → Prop} {P : am_S ⊕ am_O → Prop} {M : am_M} {x1 : Int32} {x2 : Int32}  (k : am_ev sh C 42 (4, [some (am_R (some (0, 0, 0))), some (am_I x1), some (am_I (x2 + 1))], [], M, 0) P) : am_ev sh C 42 (26, [some (am_R (some (0, 0, 0))), some (am_I x1), some (am_I x2)], [], M, 0) P := by
  refine am_e_iinc (v := x2 + 1) dd_42_26 rfl rfl rfl rfl ?_
  refine am_e_goto (pc' := 4) dd_42_29 rfl ?_
  exact k

theorem sg_42_32 {sh : am_Sh} {C : Nat → am_M → List am_V → am_O → Prop} {P : am_S ⊕ am_O → Prop} {M : am_M} {x1 : Int32} {x2 : Int32}  (k : P (Sum.inr (M, Sum.inl (some (am_I 0))))) : am_ev sh C 42 (32, [some (am_R (some (0, 0, 0))), some (am_I x1), some (am_I x2)], [], M, 0) P := by
  refine am_e_iconst (v := 0) dd_42_32 rfl rfl ?_
  exact am_e_iret dd_42_33 (by decide +kernel) (Or.inr ⟨rfl, Or.inl rfl⟩) k

-- 43: CacheLadder.write(II)V
theorem dd_43_0 : decode (am_b 43) 0 = .ok (.iload_n 1, 1) := by decide +kernel
theorem dd_43_1 : decode (am_b 43) 1 = .ok (.invokestatic 59, 3) := by decide +kernel
theorem dd_43_4 : decode (am_b 43) 4 = .ok (.aload_n 0, 1) := by decide +kernel
theorem dd_43_5 : decode (am_b 43) 5 = .ok (.iload_n 1, 1) := by decide +kernel
theorem dd_43_6 : decode (am_b 43) 6 = .ok (.iload_n 2, 1) := by decide +kernel
theorem dd_43_7 : decode (am_b 43) 7 = .ok (.invokevirtual 67, 3) := by decide +kernel
theorem dd_43_10 : decode (am_b 43) 10 = .ok (.return_, 1) := by decide +kernel
theorem sg_43_0 {sh : am_Sh} {C : Nat → am_M → List am_V → am_O → Prop} {P : am_S ⊕ am_O → Prop} {M : am_M} {x1 : Int32} {x2 : Int32} {M1 : am_M} {M2 : am_M} (hc1 : C 28 M [am_I x1] (M1, Sum.inl none)) (hc2 : C 44 M1 [am_R (some (0, 0, 0)), am_I x1, am_I x2] (M2, Sum.inl none)) (k : P (Sum.inr (M2, Sum.inl none))) : am_ev sh C 43 (0, [some (am_R (some (0, 0, 0))), some (am_I x1), some (am_I x2)], [], M, 0) P := by
  refine am_e_iload_n dd_43_0 rfl rfl ?_
  refine am_e_callS (c := 28) (k := 1) (as := [am_I x1]) (S' := []) (v := none) (M' := M1) (n' := 1) dd_43_1 (by decide +kernel) (by decide +kernel) ⟨Nat.le_of_ble_eq_true rfl, Nat.le_of_ble_eq_true rfl, by decide +kernel, (Or.inl rfl)⟩ rfl rfl (by decide +kernel) hc1 rfl ?_
  refine am_e_aload_n dd_43_4 rfl rfl ?_
  refine am_e_iload_n dd_43_5 rfl rfl ?_
  refine am_e_iload_n dd_43_6 rfl rfl ?_
  refine am_e_callV (c := 44) (k := 3) (as := [am_R (some (0, 0, 0)), am_I x1, am_I x2]) (S' := []) (v := none) (M' := M2) (n' := 1) dd_43_7 (by decide +kernel) ⟨Nat.le_of_ble_eq_true rfl, Nat.le_of_ble_eq_true rfl, by decide +kernel, (Or.inr (am_rcv_of rfl))⟩ rfl rfl (by decide +kernel) hc2 rfl ?_
  exact am_e_vret dd_43_10 (by decide +kernel) rfl k

theorem sgt_43_1 {sh : am_Sh} {C : Nat → am_M → List am_V → am_O → Prop} {P : am_S ⊕ am_O → Prop} {M : am_M} {x1 : Int32} {x2 : Int32} {M1 : am_M} {x_thr : Nat} (hc : C 28 M [am_I x1] (M1, Sum.inr x_thr)) (k : P (Sum.inr (M1, Sum.inr x_thr))) : am_ev sh C 43 (0, [some (am_R (some (0, 0, 0))), some (am_I x1), some (am_I x2)], [], M, 0) P := by
  refine am_e_iload_n dd_43_0 rfl rfl ?_
  exact am_e_thrS (c := 28) (k := 1) dd_43_1 (by decide +kernel) (by decide +kernel) ⟨Nat.le_of_ble_eq_true rfl, Nat.le_of_ble_eq_true rfl, by decide +kernel, (Or.inl rfl)⟩ rfl hc (by rfl) k

