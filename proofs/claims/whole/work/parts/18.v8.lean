-- what is thrown is caught: the law's wrappers
section CT
variable {sh : am_Sh} {C : Nat → am_M → List am_V → am_O → Prop} {m f : Nat} {P : am_S ⊕ am_O → Prop} {L : am_Ls} {S : List am_V} {M : am_M} {n : Nat}
theorem am_wp_step {σ σ' : am_S} (h : am_at sh m σ = some (Sum.inl σ')) (k : am_wp sh C m f σ' P) : am_wp sh C m (f + 1) σ P := by
  unfold am_wp
  rw [h]
  exact k
theorem am_wp_end {σ : am_S} {o : am_O} (h : am_at sh m σ = some (Sum.inr (Sum.inl o))) (k : P (Sum.inr o)) : am_wp sh C m (f + 1) σ P := by
  unfold am_wp
  rw [h]
  exact k
theorem cat3n {hp : Nat} {k : Fin 4} {v : Int} {v' : Int32} (d1 : decode (am_b m) hp = .ok (.astore_n k, 1)) (d2 : decode (am_b m) (hp + 1) = .ok (.iconst v, 1)) (d3 : decode (am_b m) (hp + 1 + 1) = .ok (.ireturn, 1)) (hk : k.val < L.length) (hn : n ≤ am_bud m) (hr : am_rt m = some .int) (hv : Int32.ofInt v = v') (kk : P (Sum.inr (M, Sum.inl (some (am_I v'))))) : ∀ a, am_wp sh C m 3 (hp, L, [am_X a], M, n) P := by
  intro a
  subst hv
  refine am_wp_step (σ' := (hp + 1, L.set k.val (some (am_X a)), [], M, n)) ((am_at_of d1).trans ?_) (am_wp_step (σ' := (hp + 1 + 1, L.set k.val (some (am_X a)), [am_I (Int32.ofInt v)], M, n)) ((am_at_of d2).trans rfl) (am_wp_end ((am_at_of d3).trans ?_) kk))
  · show (am_sta 1 1 k.val hp L [am_X a] M n).map Sum.inl = _
    unfold am_sta
    dsimp only
    rw [if_pos ⟨rfl, hk⟩]
    rfl
  · show am_iret m 1 [am_I (Int32.ofInt v)] M n = _
    unfold am_iret
    dsimp only
    rw [if_pos ⟨rfl, hn, Or.inl hr⟩]
theorem cat3 {hp k : Nat} {v : Int} {v' : Int32} (d1 : decode (am_b m) hp = .ok (.astore k, 2)) (d2 : decode (am_b m) (hp + 2) = .ok (.iconst v, 1)) (d3 : decode (am_b m) (hp + 2 + 1) = .ok (.ireturn, 1)) (hk : k < L.length) (hn : n ≤ am_bud m) (hr : am_rt m = some .int) (hv : Int32.ofInt v = v') (kk : P (Sum.inr (M, Sum.inl (some (am_I v'))))) : ∀ a, am_wp sh C m 3 (hp, L, [am_X a], M, n) P := by
  intro a
  subst hv
  refine am_wp_step (σ' := (hp + 2, L.set k (some (am_X a)), [], M, n)) ((am_at_of d1).trans ?_) (am_wp_step (σ' := (hp + 2 + 1, L.set k (some (am_X a)), [am_I (Int32.ofInt v)], M, n)) ((am_at_of d2).trans rfl) (am_wp_end ((am_at_of d3).trans ?_) kk))
  · show (am_sta 2 2 k hp L [am_X a] M n).map Sum.inl = _
    unfold am_sta
    dsimp only
    rw [if_pos ⟨rfl, hk⟩]
    rfl
  · show am_iret m 1 [am_I (Int32.ofInt v)] M n = _
    unfold am_iret
    dsimp only
    rw [if_pos ⟨rfl, hn, Or.inl hr⟩]
theorem am_e_catV {pc idx c k x hp : Nat} {as : List am_V} {M' : am_M} (hd : decode (am_b m) pc = .ok (.invokevirtual idx, 3)) (hml : am_ml m idx = some (c, k, 1)) (h : k ≤ S.length ∧ S.length ≤ k + 4 ∧ n + am_bud c ≤ am_bud m ∧ (1 = 0 ∨ am_rcv sh c (S.take k).reverse = true)) (has : (S.take k).reverse = as) (hc : C c M as (M', Sum.inr x)) (hh : am_hd m pc x = some (some hp)) (kk : ∀ a, am_wp sh C m 3 (hp, L, [am_X a], M', n + am_bud c) P) : am_ev sh C m (pc, L, S, M, n) P := by
  subst has
  exact am_ev_caught ((am_at_of hd).trans (am_inv_eq hml h)) hc hh kk
end CT

theorem sgc_107_0 {sh : am_Sh} {C : Nat → am_M → List am_V → am_O → Prop} {P : am_S ⊕ am_O → Prop} {M : am_M} {x1 : Int32} {x2 : Int32} {x3 : Int32} {x4 : Int32} {x5 : Int32} {u7 : Option am_V} {M1 : am_M}  (hc : C 25 M [am_R (some (0, 0, 0)), am_I x1, am_I x2, am_I x3, am_I x4, am_I x5] (M1, Sum.inr 0)) (k : P (Sum.inr (M1, Sum.inl (some (am_I 1))))) : am_ev sh C 107 (0, [some (am_R (some (0, 0, 0))), some (am_I x1), some (am_I x2), some (am_I x3), some (am_I x4), some (am_I x5), some (am_R (some (30, 0, 0))), u7], [], M, 0) P := by
  refine am_e_aload dd_107_0 rfl rfl ?_
  refine am_e_iconst (v := 0) dd_107_2 rfl rfl ?_
  refine am_e_aload_n dd_107_3 rfl rfl ?_
  refine am_e_iload_n dd_107_4 rfl rfl ?_
  refine am_e_iload_n dd_107_5 rfl rfl ?_
  refine am_e_iload_n dd_107_6 rfl rfl ?_
  refine am_e_iload dd_107_7 rfl rfl ?_
  refine am_e_iload dd_107_9 rfl rfl ?_
  exact am_e_catV (c := 25) (k := 6) dd_107_11 (by decide +kernel) ⟨Nat.le_of_ble_eq_true rfl, Nat.le_of_ble_eq_true rfl, by decide +kernel, (Or.inr (am_rcv_of rfl))⟩ rfl hc (by decide +kernel) (cat3 dd_107_19 dd_107_21 dd_107_22 (Nat.le_of_ble_eq_true rfl) (by decide +kernel) (by decide +kernel) (by decide) k)

theorem sgc_107_1 {sh : am_Sh} {C : Nat → am_M → List am_V → am_O → Prop} {P : am_S ⊕ am_O → Prop} {M : am_M} {x1 : Int32} {x2 : Int32} {x3 : Int32} {x4 : Int32} {x5 : Int32} {u7 : Option am_V} {M1 : am_M}  (hc : C 25 M [am_R (some (0, 0, 0)), am_I x1, am_I x2, am_I x3, am_I x4, am_I x5] (M1, Sum.inr 1)) (k : P (Sum.inr (M1, Sum.inl (some (am_I 2))))) : am_ev sh C 107 (0, [some (am_R (some (0, 0, 0))), some (am_I x1), some (am_I x2), some (am_I x3), some (am_I x4), some (am_I x5), some (am_R (some (30, 0, 0))), u7], [], M, 0) P := by
  refine am_e_aload dd_107_0 rfl rfl ?_
  refine am_e_iconst (v := 0) dd_107_2 rfl rfl ?_
  refine am_e_aload_n dd_107_3 rfl rfl ?_
  refine am_e_iload_n dd_107_4 rfl rfl ?_
  refine am_e_iload_n dd_107_5 rfl rfl ?_
  refine am_e_iload_n dd_107_6 rfl rfl ?_
  refine am_e_iload dd_107_7 rfl rfl ?_
  refine am_e_iload dd_107_9 rfl rfl ?_
  exact am_e_catV (c := 25) (k := 6) dd_107_11 (by decide +kernel) ⟨Nat.le_of_ble_eq_true rfl, Nat.le_of_ble_eq_true rfl, by decide +kernel, (Or.inr (am_rcv_of rfl))⟩ rfl hc (by decide +kernel) (cat3 dd_107_23 dd_107_25 dd_107_26 (Nat.le_of_ble_eq_true rfl) (by decide +kernel) (by decide +kernel) (by decide) k)

theorem sgc_107_2 {sh : am_Sh} {C : Nat → am_M → List am_V → am_O → Prop} {P : am_S ⊕ am_O → Prop} {M : am_M} {x1 : Int32} {x2 : Int32} {x3 : Int32} {x4 : Int32} {x5 : Int32} {u7 : Option am_V} {M1 : am_M}  (hc : C 25 M [am_R (some (0, 0, 0)), am_I x1, am_I x2, am_I x3, am_I x4, am_I x5] (M1, Sum.inr 2)) (k : P (Sum.inr (M1, Sum.inl (some (am_I 3))))) : am_ev sh C 107 (0, [some (am_R (some (0, 0, 0))), some (am_I x1), some (am_I x2), some (am_I x3), some (am_I x4), some (am_I x5), some (am_R (some (30, 0, 0))), u7], [], M, 0) P := by
  refine am_e_aload dd_107_0 rfl rfl ?_
  refine am_e_iconst (v := 0) dd_107_2 rfl rfl ?_
  refine am_e_aload_n dd_107_3 rfl rfl ?_
  refine am_e_iload_n dd_107_4 rfl rfl ?_
  refine am_e_iload_n dd_107_5 rfl rfl ?_
  refine am_e_iload_n dd_107_6 rfl rfl ?_
  refine am_e_iload dd_107_7 rfl rfl ?_
  refine am_e_iload dd_107_9 rfl rfl ?_
  exact am_e_catV (c := 25) (k := 6) dd_107_11 (by decide +kernel) ⟨Nat.le_of_ble_eq_true rfl, Nat.le_of_ble_eq_true rfl, by decide +kernel, (Or.inr (am_rcv_of rfl))⟩ rfl hc (by decide +kernel) (cat3 dd_107_27 dd_107_29 dd_107_30 (Nat.le_of_ble_eq_true rfl) (by decide +kernel) (by decide +kernel) (by decide) k)

theorem sgc_108_3 {sh : am_Sh} {C : Nat → am_M → List am_V → am_O → Prop} {P : am_S ⊕ am_O → Prop} {M : am_M} {x1 : Int32} {u3 : Option am_V} {M1 : am_M}  (hc : C 27 M [am_R (some (0, 0, 0)), am_I x1] (M1, Sum.inr 3)) (k : P (Sum.inr (M1, Sum.inl (some (am_I 1))))) : am_ev sh C 108 (0, [some (am_R (some (0, 0, 0))), some (am_I x1), some (am_R (some (30, 0, 0))), u3], [], M, 0) P := by
  refine am_e_aload_n dd_108_0 rfl rfl ?_
  refine am_e_iconst (v := 0) dd_108_1 rfl rfl ?_
  refine am_e_aload_n dd_108_2 rfl rfl ?_
  refine am_e_iload_n dd_108_3 rfl rfl ?_
  exact am_e_catV (c := 27) (k := 2) dd_108_4 (by decide +kernel) ⟨Nat.le_of_ble_eq_true rfl, Nat.le_of_ble_eq_true rfl, by decide +kernel, (Or.inr (am_rcv_of rfl))⟩ rfl hc (by decide +kernel) (cat3n dd_108_12 dd_108_13 dd_108_14 (Nat.le_of_ble_eq_true rfl) (by decide +kernel) (by decide +kernel) (by decide) k)

theorem sgc_109_3 {sh : am_Sh} {C : Nat → am_M → List am_V → am_O → Prop} {P : am_S ⊕ am_O → Prop} {M : am_M} {x1 : Int32} {x2 : Int32} {u3 : Option am_V} {M1 : am_M}  (hc : C 43 M [am_R (some (0, 0, 0)), am_I x1, am_I x2] (M1, Sum.inr 3)) (k : P (Sum.inr (M1, Sum.inl (some (am_I 1))))) : am_ev sh C 109 (0, [some (am_R (some (0, 0, 0))), some (am_I x1), some (am_I x2), u3], [], M, 0) P := by
  refine am_e_aload_n dd_109_0 rfl rfl ?_
  refine am_e_iload_n dd_109_1 rfl rfl ?_
  refine am_e_iload_n dd_109_2 rfl rfl ?_
  exact am_e_catV (c := 43) (k := 3) dd_109_3 (by decide +kernel) ⟨Nat.le_of_ble_eq_true rfl, Nat.le_of_ble_eq_true rfl, by decide +kernel, (Or.inr (am_rcv_of rfl))⟩ rfl hc (by decide +kernel) (cat3n dd_109_9 dd_109_10 dd_109_11 (Nat.le_of_ble_eq_true rfl) (by decide +kernel) (by decide +kernel) (by decide) k)

theorem sgc_110_0 {sh : am_Sh} {C : Nat → am_M → List am_V → am_O → Prop} {P : am_S ⊕ am_O → Prop} {M : am_M} {x1 : Int32} {x2 : Int32} {x3 : Int32} {x4 : Int32} {u5 : Option am_V} {M1 : am_M}  (hc : C 45 M [am_R (some (0, 0, 0)), am_I x1, am_I x2, am_I x3, am_I x4] (M1, Sum.inr 0)) (k : P (Sum.inr (M1, Sum.inl (some (am_I 1))))) : am_ev sh C 110 (0, [some (am_R (some (0, 0, 0))), some (am_I x1), some (am_I x2), some (am_I x3), some (am_I x4), u5], [], M, 0) P := by
  refine am_e_aload_n dd_110_0 rfl rfl ?_
  refine am_e_iload_n dd_110_1 rfl rfl ?_
  refine am_e_iload_n dd_110_2 rfl rfl ?_
  refine am_e_iload_n dd_110_3 rfl rfl ?_
  refine am_e_iload dd_110_4 rfl rfl ?_
  exact am_e_catV (c := 45) (k := 5) dd_110_6 (by decide +kernel) ⟨Nat.le_of_ble_eq_true rfl, Nat.le_of_ble_eq_true rfl, by decide +kernel, (Or.inr (am_rcv_of rfl))⟩ rfl hc (by decide +kernel) (cat3 dd_110_12 dd_110_14 dd_110_15 (Nat.le_of_ble_eq_true rfl) (by decide +kernel) (by decide +kernel) (by decide) k)

theorem sgc_110_3 {sh : am_Sh} {C : Nat → am_M → List am_V → am_O → Prop} {P : am_S ⊕ am_O → Prop} {M : am_M} {x1 : Int32} {x2 : Int32} {x3 : Int32} {x4 : Int32} {u5 : Option am_V} {M1 : am_M}  (hc : C 45 M [am_R (some (0, 0, 0)), am_I x1, am_I x2, am_I x3, am_I x4] (M1, Sum.inr 3)) (k : P (Sum.inr (M1, Sum.inl (some (am_I 2))))) : am_ev sh C 110 (0, [some (am_R (some (0, 0, 0))), some (am_I x1), some (am_I x2), some (am_I x3), some (am_I x4), u5], [], M, 0) P := by
  refine am_e_aload_n dd_110_0 rfl rfl ?_
  refine am_e_iload_n dd_110_1 rfl rfl ?_
  refine am_e_iload_n dd_110_2 rfl rfl ?_
  refine am_e_iload_n dd_110_3 rfl rfl ?_
  refine am_e_iload dd_110_4 rfl rfl ?_
  exact am_e_catV (c := 45) (k := 5) dd_110_6 (by decide +kernel) ⟨Nat.le_of_ble_eq_true rfl, Nat.le_of_ble_eq_true rfl, by decide +kernel, (Or.inr (am_rcv_of rfl))⟩ rfl hc (by decide +kernel) (cat3 dd_110_16 dd_110_18 dd_110_19 (Nat.le_of_ble_eq_true rfl) (by decide +kernel) (by decide +kernel) (by decide) k)

theorem sgc_111_0 {sh : am_Sh} {C : Nat → am_M → List am_V → am_O → Prop} {P : am_S ⊕ am_O → Prop} {M : am_M} {x1 : Int32} {x2 : Int32} {x3 : Int32} {u5 : Option am_V} {M1 : am_M}  (hc : C 46 M [am_R (some (0, 0, 0)), am_I x1, am_I x2, am_I x3] (M1, Sum.inr 0)) (k : P (Sum.inr (M1, Sum.inl (some (am_I 1))))) : am_ev sh C 111 (0, [some (am_R (some (0, 0, 0))), some (am_I x1), some (am_I x2), some (am_I x3), some (am_R (some (30, 0, 0))), u5], [], M, 0) P := by
  refine am_e_aload dd_111_0 rfl rfl ?_
  refine am_e_iconst (v := 0) dd_111_2 rfl rfl ?_
  refine am_e_aload_n dd_111_3 rfl rfl ?_
  refine am_e_iload_n dd_111_4 rfl rfl ?_
  refine am_e_iload_n dd_111_5 rfl rfl ?_
  refine am_e_iload_n dd_111_6 rfl rfl ?_
  exact am_e_catV (c := 46) (k := 4) dd_111_7 (by decide +kernel) ⟨Nat.le_of_ble_eq_true rfl, Nat.le_of_ble_eq_true rfl, by decide +kernel, (Or.inr (am_rcv_of rfl))⟩ rfl hc (by decide +kernel) (cat3 dd_111_15 dd_111_17 dd_111_18 (Nat.le_of_ble_eq_true rfl) (by decide +kernel) (by decide +kernel) (by decide) k)

theorem sgc_112_3 {sh : am_Sh} {C : Nat → am_M → List am_V → am_O → Prop} {P : am_S ⊕ am_O → Prop} {M : am_M} {x1 : Int32} {u3 : Option am_V} {M1 : am_M}  (hc : C 47 M [am_R (some (0, 0, 0)), am_I x1] (M1, Sum.inr 3)) (k : P (Sum.inr (M1, Sum.inl (some (am_I 1))))) : am_ev sh C 112 (0, [some (am_R (some (0, 0, 0))), some (am_I x1), some (am_R (some (30, 0, 0))), u3], [], M, 0) P := by
  refine am_e_aload_n dd_112_0 rfl rfl ?_
  refine am_e_iconst (v := 0) dd_112_1 rfl rfl ?_
  refine am_e_aload_n dd_112_2 rfl rfl ?_
  refine am_e_iload_n dd_112_3 rfl rfl ?_
  exact am_e_catV (c := 47) (k := 2) dd_112_4 (by decide +kernel) ⟨Nat.le_of_ble_eq_true rfl, Nat.le_of_ble_eq_true rfl, by decide +kernel, (Or.inr (am_rcv_of rfl))⟩ rfl hc (by decide +kernel) (cat3n dd_112_12 dd_112_13 dd_112_14 (Nat.le_of_ble_eq_true rfl) (by decide +kernel) (by decide +kernel) (by decide) k)

theorem sgc_113_3 {sh : am_Sh} {C : Nat → am_M → List am_V → am_O → Prop} {P : am_S ⊕ am_O → Prop} {M : am_M} {x1 : Int32} {u3 : Option am_V} {M1 : am_M}  (hc : C 48 M [am_R (some (0, 0, 0)), am_I x1] (M1, Sum.inr 3)) (k : P (Sum.inr (M1, Sum.inl (some (am_I 1))))) : am_ev sh C 113 (0, [some (am_R (some (0, 0, 0))), some (am_I x1), some (am_R (some (30, 0, 0))), u3], [], M, 0) P := by
  refine am_e_aload_n dd_113_0 rfl rfl ?_
  refine am_e_iconst (v := 0) dd_113_1 rfl rfl ?_
  refine am_e_aload_n dd_113_2 rfl rfl ?_
  refine am_e_iload_n dd_113_3 rfl rfl ?_
  exact am_e_catV (c := 48) (k := 2) dd_113_4 (by decide +kernel) ⟨Nat.le_of_ble_eq_true rfl, Nat.le_of_ble_eq_true rfl, by decide +kernel, (Or.inr (am_rcv_of rfl))⟩ rfl hc (by decide +kernel) (cat3n dd_113_12 dd_113_13 dd_113_14 (Nat.le_of_ble_eq_true rfl) (by decide +kernel) (by decide +kernel) (by decide) k)

theorem sgc_114_3 {sh : am_Sh} {C : Nat → am_M → List am_V → am_O → Prop} {P : am_S ⊕ am_O → Prop} {M : am_M} {x1 : Int32} {u3 : Option am_V} {M1 : am_M}  (hc : C 49 M [am_R (some (0, 0, 0)), am_I x1] (M1, Sum.inr 3)) (k : P (Sum.inr (M1, Sum.inl (some (am_I 1))))) : am_ev sh C 114 (0, [some (am_R (some (0, 0, 0))), some (am_I x1), some (am_R (some (30, 0, 0))), u3], [], M, 0) P := by
  refine am_e_aload_n dd_114_0 rfl rfl ?_
  refine am_e_iconst (v := 0) dd_114_1 rfl rfl ?_
  refine am_e_aload_n dd_114_2 rfl rfl ?_
  refine am_e_iload_n dd_114_3 rfl rfl ?_
  exact am_e_catV (c := 49) (k := 2) dd_114_4 (by decide +kernel) ⟨Nat.le_of_ble_eq_true rfl, Nat.le_of_ble_eq_true rfl, by decide +kernel, (Or.inr (am_rcv_of rfl))⟩ rfl hc (by decide +kernel) (cat3n dd_114_12 dd_114_13 dd_114_14 (Nat.le_of_ble_eq_true rfl) (by decide +kernel) (by decide +kernel) (by decide) k)

theorem sgc_115_3 {sh : am_Sh} {C : Nat → am_M → List am_V → am_O → Prop} {P : am_S ⊕ am_O → Prop} {M : am_M} {x1 : Int32} {u3 : Option am_V} {M1 : am_M}  (hc : C 51 M [am_R (some (0, 0, 0)), am_I x1] (M1, Sum.inr 3)) (k : P (Sum.inr (M1, Sum.inl (some (am_I 1))))) : am_ev sh C 115 (0, [some (am_R (some (0, 0, 0))), some (am_I x1), some (am_R (some (30, 0, 0))), u3], [], M, 0) P := by
  refine am_e_aload_n dd_115_0 rfl rfl ?_
  refine am_e_iconst (v := 0) dd_115_1 rfl rfl ?_
  refine am_e_aload_n dd_115_2 rfl rfl ?_
  refine am_e_iload_n dd_115_3 rfl rfl ?_
  exact am_e_catV (c := 51) (k := 2) dd_115_4 (by decide +kernel) ⟨Nat.le_of_ble_eq_true rfl, Nat.le_of_ble_eq_true rfl, by decide +kernel, (Or.inr (am_rcv_of rfl))⟩ rfl hc (by decide +kernel) (cat3n dd_115_12 dd_115_13 dd_115_14 (Nat.le_of_ble_eq_true rfl) (by decide +kernel) (by decide +kernel) (by decide) k)

theorem sgc_116_3 {sh : am_Sh} {C : Nat → am_M → List am_V → am_O → Prop} {P : am_S ⊕ am_O → Prop} {M : am_M} {x1 : Int32} {x2 : Int32} {u4 : Option am_V} {M1 : am_M}  (hc : C 52 M [am_R (some (0, 0, 0)), am_I x1, am_I x2] (M1, Sum.inr 3)) (k : P (Sum.inr (M1, Sum.inl (some (am_I 1))))) : am_ev sh C 116 (0, [some (am_R (some (0, 0, 0))), some (am_I x1), some (am_I x2), some (am_R (some (30, 0, 0))), u4], [], M, 0) P := by
  refine am_e_aload_n dd_116_0 rfl rfl ?_
  refine am_e_iconst (v := 0) dd_116_1 rfl rfl ?_
  refine am_e_aload_n dd_116_2 rfl rfl ?_
  refine am_e_iload_n dd_116_3 rfl rfl ?_
  refine am_e_iload_n dd_116_4 rfl rfl ?_
  exact am_e_catV (c := 52) (k := 3) dd_116_5 (by decide +kernel) ⟨Nat.le_of_ble_eq_true rfl, Nat.le_of_ble_eq_true rfl, by decide +kernel, (Or.inr (am_rcv_of rfl))⟩ rfl hc (by decide +kernel) (cat3 dd_116_13 dd_116_15 dd_116_16 (Nat.le_of_ble_eq_true rfl) (by decide +kernel) (by decide +kernel) (by decide) k)

theorem sgc_116_0 {sh : am_Sh} {C : Nat → am_M → List am_V → am_O → Prop} {P : am_S ⊕ am_O → Prop} {M : am_M} {x1 : Int32} {x2 : Int32} {u4 : Option am_V} {M1 : am_M}  (hc : C 52 M [am_R (some (0, 0, 0)), am_I x1, am_I x2] (M1, Sum.inr 0)) (k : P (Sum.inr (M1, Sum.inl (some (am_I 2))))) : am_ev sh C 116 (0, [some (am_R (some (0, 0, 0))), some (am_I x1), some (am_I x2), some (am_R (some (30, 0, 0))), u4], [], M, 0) P := by
  refine am_e_aload_n dd_116_0 rfl rfl ?_
  refine am_e_iconst (v := 0) dd_116_1 rfl rfl ?_
  refine am_e_aload_n dd_116_2 rfl rfl ?_
  refine am_e_iload_n dd_116_3 rfl rfl ?_
  refine am_e_iload_n dd_116_4 rfl rfl ?_
  exact am_e_catV (c := 52) (k := 3) dd_116_5 (by decide +kernel) ⟨Nat.le_of_ble_eq_true rfl, Nat.le_of_ble_eq_true rfl, by decide +kernel, (Or.inr (am_rcv_of rfl))⟩ rfl hc (by decide +kernel) (cat3 dd_116_17 dd_116_19 dd_116_20 (Nat.le_of_ble_eq_true rfl) (by decide +kernel) (by decide +kernel) (by decide) k)

theorem sgc_117_3 {sh : am_Sh} {C : Nat → am_M → List am_V → am_O → Prop} {P : am_S ⊕ am_O → Prop} {M : am_M} {x1 : Int32} {x2 : Int32} {x3 : Int32} {u5 : Option am_V} {M1 : am_M}  (hc : C 53 M [am_R (some (0, 0, 0)), am_I x1, am_I x2, am_I x3] (M1, Sum.inr 3)) (k : P (Sum.inr (M1, Sum.inl (some (am_I 1))))) : am_ev sh C 117 (0, [some (am_R (some (0, 0, 0))), some (am_I x1), some (am_I x2), some (am_I x3), some (am_R (some (30, 0, 0))), u5], [], M, 0) P := by
  refine am_e_aload dd_117_0 rfl rfl ?_
  refine am_e_iconst (v := 0) dd_117_2 rfl rfl ?_
  refine am_e_aload_n dd_117_3 rfl rfl ?_
  refine am_e_iload_n dd_117_4 rfl rfl ?_
  refine am_e_iload_n dd_117_5 rfl rfl ?_
  refine am_e_iload_n dd_117_6 rfl rfl ?_
  exact am_e_catV (c := 53) (k := 4) dd_117_7 (by decide +kernel) ⟨Nat.le_of_ble_eq_true rfl, Nat.le_of_ble_eq_true rfl, by decide +kernel, (Or.inr (am_rcv_of rfl))⟩ rfl hc (by decide +kernel) (cat3 dd_117_15 dd_117_17 dd_117_18 (Nat.le_of_ble_eq_true rfl) (by decide +kernel) (by decide +kernel) (by decide) k)

theorem sgc_118_3 {sh : am_Sh} {C : Nat → am_M → List am_V → am_O → Prop} {P : am_S ⊕ am_O → Prop} {M : am_M} {x1 : Int32} {x2 : Int32} {u4 : Option am_V} {M1 : am_M}  (hc : C 55 M [am_R (some (0, 0, 0)), am_I x1, am_I x2] (M1, Sum.inr 3)) (k : P (Sum.inr (M1, Sum.inl (some (am_I 1))))) : am_ev sh C 118 (0, [some (am_R (some (0, 0, 0))), some (am_I x1), some (am_I x2), some (am_R (some (30, 0, 0))), u4], [], M, 0) P := by
  refine am_e_aload_n dd_118_0 rfl rfl ?_
  refine am_e_iconst (v := 0) dd_118_1 rfl rfl ?_
  refine am_e_aload_n dd_118_2 rfl rfl ?_
  refine am_e_iload_n dd_118_3 rfl rfl ?_
  refine am_e_iload_n dd_118_4 rfl rfl ?_
  exact am_e_catV (c := 55) (k := 3) dd_118_5 (by decide +kernel) ⟨Nat.le_of_ble_eq_true rfl, Nat.le_of_ble_eq_true rfl, by decide +kernel, (Or.inr (am_rcv_of rfl))⟩ rfl hc (by decide +kernel) (cat3 dd_118_13 dd_118_15 dd_118_16 (Nat.le_of_ble_eq_true rfl) (by decide +kernel) (by decide +kernel) (by decide) k)

theorem sgc_119_3 {sh : am_Sh} {C : Nat → am_M → List am_V → am_O → Prop} {P : am_S ⊕ am_O → Prop} {M : am_M} {x1 : Int32} {x2 : Int32} {u4 : Option am_V} {M1 : am_M}  (hc : C 57 M [am_R (some (0, 0, 0)), am_I x1, am_I x2] (M1, Sum.inr 3)) (k : P (Sum.inr (M1, Sum.inl (some (am_I 1))))) : am_ev sh C 119 (0, [some (am_R (some (0, 0, 0))), some (am_I x1), some (am_I x2), some (am_R (some (30, 0, 0))), u4], [], M, 0) P := by
  refine am_e_aload_n dd_119_0 rfl rfl ?_
  refine am_e_iconst (v := 0) dd_119_1 rfl rfl ?_
  refine am_e_aload_n dd_119_2 rfl rfl ?_
  refine am_e_iload_n dd_119_3 rfl rfl ?_
  refine am_e_iload_n dd_119_4 rfl rfl ?_
  exact am_e_catV (c := 57) (k := 3) dd_119_5 (by decide +kernel) ⟨Nat.le_of_ble_eq_true rfl, Nat.le_of_ble_eq_true rfl, by decide +kernel, (Or.inr (am_rcv_of rfl))⟩ rfl hc (by decide +kernel) (cat3 dd_119_13 dd_119_15 dd_119_16 (Nat.le_of_ble_eq_true rfl) (by decide +kernel) (by decide +kernel) (by decide) k)

theorem sgc_120_3 {sh : am_Sh} {C : Nat → am_M → List am_V → am_O → Prop} {P : am_S ⊕ am_O → Prop} {M : am_M} {x1 : Int32} {x2 : Int32} {u4 : Option am_V} {M1 : am_M}  (hc : C 58 M [am_R (some (0, 0, 0)), am_I x1, am_I x2] (M1, Sum.inr 3)) (k : P (Sum.inr (M1, Sum.inl (some (am_I 1))))) : am_ev sh C 120 (0, [some (am_R (some (0, 0, 0))), some (am_I x1), some (am_I x2), some (am_R (some (30, 0, 0))), u4], [], M, 0) P := by
  refine am_e_aload_n dd_120_0 rfl rfl ?_
  refine am_e_iconst (v := 0) dd_120_1 rfl rfl ?_
  refine am_e_aload_n dd_120_2 rfl rfl ?_
  refine am_e_iload_n dd_120_3 rfl rfl ?_
  refine am_e_iload_n dd_120_4 rfl rfl ?_
  exact am_e_catV (c := 58) (k := 3) dd_120_5 (by decide +kernel) ⟨Nat.le_of_ble_eq_true rfl, Nat.le_of_ble_eq_true rfl, by decide +kernel, (Or.inr (am_rcv_of rfl))⟩ rfl hc (by decide +kernel) (cat3 dd_120_13 dd_120_15 dd_120_16 (Nat.le_of_ble_eq_true rfl) (by decide +kernel) (by decide +kernel) (by decide) k)
