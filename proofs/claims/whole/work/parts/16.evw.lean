-- the same, in the words that segments use
def am_shok (sh : am_Sh) : Prop := ∀ t, sh.2.1 t ≤ 64 ∧ sh.2.2.1 t ≤ 16
theorem am_ct5 {sh : am_Sh} {t : Nat} (h : t < sh.1) : am_ct sh (5, t, 0) = some (Sum.inl 1) := if_pos ⟨h, rfl⟩
theorem am_ct6 {sh : am_Sh} {t : Nat} (h : t < sh.1) : am_ct sh (6, t, 0) = some (Sum.inr (4, sh.2.1 t)) := if_pos ⟨h, rfl⟩
theorem am_ct7 {sh : am_Sh} {t : Nat} (h : t < sh.1) : am_ct sh (7, t, 0) = some (Sum.inr (0, sh.2.2.1 t)) := if_pos ⟨h, rfl⟩
theorem am_ct8 {sh : am_Sh} {t : Nat} (h : t < sh.1) : am_ct sh (8, t, 0) = some (Sum.inr (0, 6)) := if_pos ⟨h, rfl⟩
theorem am_ct9 {sh : am_Sh} {t i : Nat} (h : t < sh.1) (hi : i < sh.2.1 t) : am_ct sh (9, t, i) = some (Sum.inl 0) := if_pos ⟨h, hi⟩
theorem am_ct10 {sh : am_Sh} {t i : Nat} (h : t < sh.1) (hi : i < sh.2.1 t) : am_ct sh (10, t, i) = some (Sum.inr (0, 4)) := if_pos ⟨h, hi⟩
theorem am_rf2 {sh : am_Sh} {j : Nat} (h : j < sh.1) : am_rf sh (2, 0, 0) j = some (5, j, 0) := if_pos h
theorem am_rf6 {sh : am_Sh} {t j : Nat} (h : j < sh.2.1 t) : am_rf sh (6, t, 0) j = some (9, t, j) := if_pos h
theorem am_rcv_of {sh : am_Sh} {c : Nat} {k : am_K} {as : List am_V} (h : am_ct sh k = some (Sum.inl (am_rc c))) : am_rcv sh c (am_R (some k) :: as) = true := decide_eq_true h
section EVW
variable {sh : am_Sh} {C : Nat → am_M → List am_V → am_O → Prop} {m pc pc' : Nat} {L : am_Ls} {S : List am_V} {M : am_M} {n : Nat} {P : am_S ⊕ am_O → Prop}
theorem am_a_ix {i : Int32} {j N : Nat} (hx : i = nI j) (hj : j < N) (hN : N < 2147483648) : vp_in i N ∧ i.toNatClampNeg = j := by
  subst hx
  exact ⟨vp_in_nI hj hN, nI_clamp (Nat.lt_trans hj hN)⟩
theorem am_a_iald {k : am_K} {i : Int32} {N j : Nat} (hd : decode (am_b m) pc = .ok (.iaload, 1)) (hc : am_ct sh k = some (Sum.inr (0, N))) (hx : i = nI j) (hj : j < N) (hN : N < 2147483648) (hp : pc + 1 = pc') (kk : am_ev sh C m (pc', L, am_I (M k j) :: S, M, n) P) : am_ev sh C m (pc, L, am_I i :: am_R (some k) :: S, M, n) P :=
  am_e_iald hd hc (am_a_ix hx hj hN).1 (am_a_ix hx hj hN).2 hp kk
theorem am_a_sald {k : am_K} {i : Int32} {N j : Nat} (hd : decode (am_b m) pc = .ok (.iaload, 1)) (hc : am_ct sh k = some (Sum.inr (5, N))) (hx : i = nI j) (hj : j < N) (hN : N < 2147483648) (hp : pc + 1 = pc') (kk : am_ev sh C m (pc', L, am_I (M k j) :: S, M, n) P) : am_ev sh C m (pc, L, am_I i :: am_R (some k) :: S, M, n) P :=
  am_e_sald hd hc (am_a_ix hx hj hN).1 (am_a_ix hx hj hN).2 hp kk
theorem am_a_zald {k : am_K} {i : Int32} {N j : Nat} (hd : decode (am_b m) pc = .ok (.baload, 1)) (hc : am_ct sh k = some (Sum.inr (1, N))) (hx : i = nI j) (hj : j < N) (hN : N < 2147483648) (hp : pc + 1 = pc') (kk : am_ev sh C m (pc', L, am_I (M k j) :: S, M, n) P) : am_ev sh C m (pc, L, am_I i :: am_R (some k) :: S, M, n) P :=
  am_e_zald hd hc (am_a_ix hx hj hN).1 (am_a_ix hx hj hN).2 hp kk
theorem am_a_lald {k : am_K} {i : Int32} {N j : Nat} (hd : decode (am_b m) pc = .ok (.laload, 1)) (hc : am_ct sh k = some (Sum.inr (3, N))) (hx : i = nI j) (hj : j < N) (hN : N < 2147483648) (hp : pc + 1 = pc') (kk : am_ev sh C m (pc', L, am_L (M k j) :: S, M, n) P) : am_ev sh C m (pc, L, am_I i :: am_R (some k) :: S, M, n) P :=
  am_e_lald hd hc (am_a_ix hx hj hN).1 (am_a_ix hx hj hN).2 hp kk
theorem am_a_rald {k : am_K} {i : Int32} {N j u : Nat} {o : Option am_K} (hd : decode (am_b m) pc = .ok (.aaload, 1)) (hc : am_ct sh k = some (Sum.inr (u, N))) (hu : u = 2 ∨ u = 4) (hx : i = nI j) (hj : j < N) (hN : N < 2147483648) (ho : am_rf sh k j = o) (hp : pc + 1 = pc') (kk : am_ev sh C m (pc', L, am_R o :: S, M, n) P) : am_ev sh C m (pc, L, am_I i :: am_R (some k) :: S, M, n) P :=
  am_e_rald hd hc hu (am_a_ix hx hj hN).1 (am_a_ix hx hj hN).2 ho hp kk
theorem am_a_iast {k : am_K} {i x : Int32} {N j : Nat} (hd : decode (am_b m) pc = .ok (.iastore, 1)) (hc : am_ct sh k = some (Sum.inr (0, N))) (hx : i = nI j) (hj : j < N) (hN : N < 2147483648) (hp : pc + 1 = pc') (kk : am_ev sh C m (pc', L, S, am_up M k j x, n) P) : am_ev sh C m (pc, L, am_I x :: am_I i :: am_R (some k) :: S, M, n) P :=
  am_e_iast hd hc (am_a_ix hx hj hN).1 (am_a_ix hx hj hN).2 hp kk
theorem am_a_zast {k : am_K} {i x : Int32} {N j : Nat} (hd : decode (am_b m) pc = .ok (.bastore, 1)) (hc : am_ct sh k = some (Sum.inr (1, N))) (h01 : x = 0 ∨ x = 1) (hx : i = nI j) (hj : j < N) (hN : N < 2147483648) (hp : pc + 1 = pc') (kk : am_ev sh C m (pc', L, S, am_up M k j x, n) P) : am_ev sh C m (pc, L, am_I x :: am_I i :: am_R (some k) :: S, M, n) P :=
  am_e_zast hd hc h01 (am_a_ix hx hj hN).1 (am_a_ix hx hj hN).2 hp kk
theorem am_a_last {k : am_K} {i x : Int32} {N j : Nat} (hd : decode (am_b m) pc = .ok (.lastore, 1)) (hc : am_ct sh k = some (Sum.inr (3, N))) (hx : i = nI j) (hj : j < N) (hN : N < 2147483648) (hp : pc + 1 = pc') (kk : am_ev sh C m (pc', L, S, am_up M k j x, n) P) : am_ev sh C m (pc, L, am_L x :: am_I i :: am_R (some k) :: S, M, n) P :=
  am_e_last hd hc (am_a_ix hx hj hN).1 (am_a_ix hx hj hN).2 hp kk
theorem am_a_copy {idx : Nat} {k0 k1 : am_K} {c sp dp : Int32} {N0 N1 a b q : Nat} (hd : decode (am_b m) pc = .ok (.invokestatic idx, 3)) (hac : am_ac m idx = true) (h0 : am_ct sh k0 = some (Sum.inr (0, N0))) (h1 : am_ct sh k1 = some (Sum.inr (0, N1))) (hs : S.length ≤ 4) (ha : sp = nI a) (hb : dp = nI b) (hq : c = nI q) (hN0 : a + q ≤ N0) (hN1 : b + q ≤ N1) (hz0 : N0 < 2147483648) (hz1 : N1 < 2147483648) (hp : pc + 3 = pc') (kk : am_ev sh C m (pc', L, S, am_cp M k0 k1 a b q, n) P) : am_ev sh C m (pc, L, am_I c :: am_I dp :: am_R (some k1) :: am_I sp :: am_R (some k0) :: S, M, n) P := by
  subst ha; subst hb; subst hq
  exact am_e_copy hd hac h0 h1 hs (nI_pos (by omega)) (nI_pos (by omega)) (nI_pos (by omega)) (nI_clamp (by omega)) (nI_clamp (by omega)) (nI_clamp (by omega)) hN0 hN1 hp kk
theorem am_a_if_eq {x : Int32} {off : Int} {tgt : Nat} (hd : decode (am_b m) pc = .ok (.ifCond .eq off, 3)) (ht : (pc : Int) + off = (tgt : Int)) (hp : pc + 3 = pc') (k1 : x = 0 → am_ev sh C m (tgt, L, S, M, n) P) (k2 : ¬ x = 0 → am_ev sh C m (pc', L, S, M, n) P) : am_ev sh C m (pc, L, am_I x :: S, M, n) P :=
  am_e_if hd ht hp (fun h => k1 (of_decide_eq_true h)) (fun h => k2 (of_decide_eq_false h))
theorem am_a_icmp_eq {x y : Int32} {off : Int} {tgt : Nat} (hd : decode (am_b m) pc = .ok (.if_icmp .eq off, 3)) (ht : (pc : Int) + off = (tgt : Int)) (hp : pc + 3 = pc') (k1 : x = y → am_ev sh C m (tgt, L, S, M, n) P) (k2 : ¬ x = y → am_ev sh C m (pc', L, S, M, n) P) : am_ev sh C m (pc, L, am_I y :: am_I x :: S, M, n) P :=
  am_e_icmp hd ht hp (fun h => k1 (of_decide_eq_true h)) (fun h => k2 (of_decide_eq_false h))
theorem am_a_if_ne {x : Int32} {off : Int} {tgt : Nat} (hd : decode (am_b m) pc = .ok (.ifCond .ne off, 3)) (ht : (pc : Int) + off = (tgt : Int)) (hp : pc + 3 = pc') (k1 : ¬ x = 0 → am_ev sh C m (tgt, L, S, M, n) P) (k2 : x = 0 → am_ev sh C m (pc', L, S, M, n) P) : am_ev sh C m (pc, L, am_I x :: S, M, n) P :=
  am_e_if hd ht hp (fun h => k1 (of_decide_eq_true h)) (fun h => k2 (Decidable.not_not.mp (of_decide_eq_false h)))
theorem am_a_icmp_ne {x y : Int32} {off : Int} {tgt : Nat} (hd : decode (am_b m) pc = .ok (.if_icmp .ne off, 3)) (ht : (pc : Int) + off = (tgt : Int)) (hp : pc + 3 = pc') (k1 : ¬ x = y → am_ev sh C m (tgt, L, S, M, n) P) (k2 : x = y → am_ev sh C m (pc', L, S, M, n) P) : am_ev sh C m (pc, L, am_I y :: am_I x :: S, M, n) P :=
  am_e_icmp hd ht hp (fun h => k1 (of_decide_eq_true h)) (fun h => k2 (Decidable.not_not.mp (of_decide_eq_false h)))
theorem am_a_if_lt {x : Int32} {off : Int} {tgt : Nat} (hd : decode (am_b m) pc = .ok (.ifCond .lt off, 3)) (ht : (pc : Int) + off = (tgt : Int)) (hp : pc + 3 = pc') (k1 : x < 0 → am_ev sh C m (tgt, L, S, M, n) P) (k2 : ¬ x < 0 → am_ev sh C m (pc', L, S, M, n) P) : am_ev sh C m (pc, L, am_I x :: S, M, n) P :=
  am_e_if hd ht hp (fun h => k1 (of_decide_eq_true h)) (fun h => k2 (of_decide_eq_false h))
theorem am_a_icmp_lt {x y : Int32} {off : Int} {tgt : Nat} (hd : decode (am_b m) pc = .ok (.if_icmp .lt off, 3)) (ht : (pc : Int) + off = (tgt : Int)) (hp : pc + 3 = pc') (k1 : x < y → am_ev sh C m (tgt, L, S, M, n) P) (k2 : ¬ x < y → am_ev sh C m (pc', L, S, M, n) P) : am_ev sh C m (pc, L, am_I y :: am_I x :: S, M, n) P :=
  am_e_icmp hd ht hp (fun h => k1 (of_decide_eq_true h)) (fun h => k2 (of_decide_eq_false h))
theorem am_a_if_ge {x : Int32} {off : Int} {tgt : Nat} (hd : decode (am_b m) pc = .ok (.ifCond .ge off, 3)) (ht : (pc : Int) + off = (tgt : Int)) (hp : pc + 3 = pc') (k1 : 0 ≤ x → am_ev sh C m (tgt, L, S, M, n) P) (k2 : ¬ 0 ≤ x → am_ev sh C m (pc', L, S, M, n) P) : am_ev sh C m (pc, L, am_I x :: S, M, n) P :=
  am_e_if hd ht hp (fun h => k1 (of_decide_eq_true h)) (fun h => k2 (of_decide_eq_false h))
theorem am_a_icmp_ge {x y : Int32} {off : Int} {tgt : Nat} (hd : decode (am_b m) pc = .ok (.if_icmp .ge off, 3)) (ht : (pc : Int) + off = (tgt : Int)) (hp : pc + 3 = pc') (k1 : y ≤ x → am_ev sh C m (tgt, L, S, M, n) P) (k2 : ¬ y ≤ x → am_ev sh C m (pc', L, S, M, n) P) : am_ev sh C m (pc, L, am_I y :: am_I x :: S, M, n) P :=
  am_e_icmp hd ht hp (fun h => k1 (of_decide_eq_true h)) (fun h => k2 (of_decide_eq_false h))
theorem am_a_if_gt {x : Int32} {off : Int} {tgt : Nat} (hd : decode (am_b m) pc = .ok (.ifCond .gt off, 3)) (ht : (pc : Int) + off = (tgt : Int)) (hp : pc + 3 = pc') (k1 : 0 < x → am_ev sh C m (tgt, L, S, M, n) P) (k2 : ¬ 0 < x → am_ev sh C m (pc', L, S, M, n) P) : am_ev sh C m (pc, L, am_I x :: S, M, n) P :=
  am_e_if hd ht hp (fun h => k1 (of_decide_eq_true h)) (fun h => k2 (of_decide_eq_false h))
theorem am_a_icmp_gt {x y : Int32} {off : Int} {tgt : Nat} (hd : decode (am_b m) pc = .ok (.if_icmp .gt off, 3)) (ht : (pc : Int) + off = (tgt : Int)) (hp : pc + 3 = pc') (k1 : y < x → am_ev sh C m (tgt, L, S, M, n) P) (k2 : ¬ y < x → am_ev sh C m (pc', L, S, M, n) P) : am_ev sh C m (pc, L, am_I y :: am_I x :: S, M, n) P :=
  am_e_icmp hd ht hp (fun h => k1 (of_decide_eq_true h)) (fun h => k2 (of_decide_eq_false h))
theorem am_a_if_le {x : Int32} {off : Int} {tgt : Nat} (hd : decode (am_b m) pc = .ok (.ifCond .le off, 3)) (ht : (pc : Int) + off = (tgt : Int)) (hp : pc + 3 = pc') (k1 : x ≤ 0 → am_ev sh C m (tgt, L, S, M, n) P) (k2 : ¬ x ≤ 0 → am_ev sh C m (pc', L, S, M, n) P) : am_ev sh C m (pc, L, am_I x :: S, M, n) P :=
  am_e_if hd ht hp (fun h => k1 (of_decide_eq_true h)) (fun h => k2 (of_decide_eq_false h))
theorem am_a_icmp_le {x y : Int32} {off : Int} {tgt : Nat} (hd : decode (am_b m) pc = .ok (.if_icmp .le off, 3)) (ht : (pc : Int) + off = (tgt : Int)) (hp : pc + 3 = pc') (k1 : x ≤ y → am_ev sh C m (tgt, L, S, M, n) P) (k2 : ¬ x ≤ y → am_ev sh C m (pc', L, S, M, n) P) : am_ev sh C m (pc, L, am_I y :: am_I x :: S, M, n) P :=
  am_e_icmp hd ht hp (fun h => k1 (of_decide_eq_true h)) (fun h => k2 (of_decide_eq_false h))
theorem am_a_acmp_eq {x y : Option am_K} {off : Int} {tgt : Nat} (hd : decode (am_b m) pc = .ok (.if_acmp .eq off, 3)) (hx : am_has sh x = true) (hy : am_has sh y = true) (ht : (pc : Int) + off = (tgt : Int)) (hp : pc + 3 = pc') (k1 : x = y → am_ev sh C m (tgt, L, S, M, n) P) (k2 : ¬ x = y → am_ev sh C m (pc', L, S, M, n) P) : am_ev sh C m (pc, L, am_R y :: am_R x :: S, M, n) P :=
  am_e_acmp hd hx hy ht hp (fun h => k1 (of_decide_eq_true h)) (fun h => k2 (of_decide_eq_false h))
theorem am_a_acmp_ne {x y : Option am_K} {off : Int} {tgt : Nat} (hd : decode (am_b m) pc = .ok (.if_acmp .ne off, 3)) (hx : am_has sh x = true) (hy : am_has sh y = true) (ht : (pc : Int) + off = (tgt : Int)) (hp : pc + 3 = pc') (k1 : ¬ x = y → am_ev sh C m (tgt, L, S, M, n) P) (k2 : x = y → am_ev sh C m (pc', L, S, M, n) P) : am_ev sh C m (pc, L, am_R y :: am_R x :: S, M, n) P :=
  am_e_acmp hd hx hy ht hp (fun h => k1 (of_decide_eq_true h)) (fun h => k2 (Decidable.not_not.mp (of_decide_eq_false h)))
end EVW
