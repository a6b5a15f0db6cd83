-- every level, reference and class
section UY
variable {sh : am_Sh} {c : Nat} {q : Nat × Nat × Nat} {X X' M M' : am_M} {t : Nat}
theorem rel_A (h : rel sh c q X M) (hA : rA sh c X' M') (eX : ∀ k j, ¬ k.1 = 0 → ¬ k.1 = 1 → X' k j = X k j) (eM : ∀ k j, mvis k j → ¬ k = (20, 0, 0) → ¬ k = (21, 18, 0) → M' k j = M k j) : rel sh c q X' M' := by
  obtain ⟨-, hB, hC, hD⟩ := h
  have em21 : ∀ a j, (3 ≤ a ∧ a ≤ 16) → M' (21, a, 0) j = M (21, a, 0) j := fun a j ha => eM _ _ (mv21 (Or.inl ha)) (by simp) (by simp; omega)
  have e9 : ∀ t i j, X' (9, t, i) j = X (9, t, i) j := fun t i j => eX _ _ (by simp) (by simp)
  refine ⟨hA, fun t ht => ?_, fun t s w ht hs hw => ?_, fun t ht => ?_⟩
  · obtain ⟨⟨b1, b2, b3, b4, b5⟩, b6, b7⟩ := hB t ht
    refine ⟨⟨?_, ?_, ?_, ?_, ?_⟩, fun j hj => ?_, fun s hs => ?_⟩
    · rw [em21 _ _ (by omega)]; exact b1
    · rw [em21 _ _ (by omega)]; exact b2
    · rw [em21 _ _ (by omega), eX _ _ (by simp) (by simp)]; exact b3
    · rw [em21 _ _ (by omega), eX _ _ (by simp) (by simp)]; exact b4
    · rw [em21 _ _ (by omega), eX _ _ (by simp) (by simp)]; exact b5
    · rw [em21 _ _ (by omega), eX _ _ (by simp) (by simp)]; exact b6 j hj
    · rw [em21 _ _ (by omega), eX _ _ (by simp) (by simp)]; exact b7 s hs
  · obtain ⟨r1, r2⟩ := hC t s w ht hs hw
    refine ⟨by rw [em21 _ _ (by omega), e9]; exact r1, fun hp => ?_⟩
    rw [e9] at hp
    obtain ⟨r3, r4, r5, r6⟩ := r2 hp
    refine ⟨by rw [em21 _ _ (by omega), e9]; exact r3, by rw [em21 _ _ (by omega), e9]; exact r4, by rw [em21 _ _ (by omega), e9]; exact r5, fun hq k hk => ?_⟩
    rw [em21 _ _ (by omega), eX _ _ (by simp) (by simp)]
    exact r6 hq k hk
  · exact rt_mono (hD t ht) (Nat.le_refl _) (eX _ _ (by simp) (by simp)) (fun s w _ _ hp => ⟨by rw [e9] at hp; exact hp, e9 _ _ _, e9 _ _ _, em21 _ _ (by omega), em21 _ _ (by omega)⟩)
theorem rel_loads (h : rel sh c q X M) (v : Int32) : rel sh c q (am_up X (0, 0, 0) 5 v) (am_up M (20, 0, 0) 19 v) := by
  obtain ⟨a1, a2, a3, a4, a5, a6⟩ := h.1
  refine rel_A h ⟨?_, ?_, ?_, ?_, ?_, fun j hj => ?_⟩ (fun k j h0 h1 => am_up_k (fun e => h0 (by rw [e]))) (fun k j _ h0 h1 => am_up_k h0)
  · rw [am_up_j (by decide)]; exact a1
  · rw [am_up_j (by decide)]; exact a2
  · rw [am_up_same, am_up_same]
  · rw [am_up_j (by decide), am_up_j (by decide)]; exact a4
  · rw [am_up_j (by decide), am_up_j (by decide)]; exact a5
  · rw [am_up_k (by simp), am_up_k (by simp)]; exact a6 j hj
theorem rel_stores (h : rel sh c q X M) (v : Int32) : rel sh c q (am_up X (0, 0, 0) 6 v) (am_up M (20, 0, 0) 20 v) := by
  obtain ⟨a1, a2, a3, a4, a5, a6⟩ := h.1
  refine rel_A h ⟨?_, ?_, ?_, ?_, ?_, fun j hj => ?_⟩ (fun k j h0 h1 => am_up_k (fun e => h0 (by rw [e]))) (fun k j _ h0 h1 => am_up_k h0)
  · rw [am_up_j (by decide)]; exact a1
  · rw [am_up_j (by decide)]; exact a2
  · rw [am_up_j (by decide), am_up_j (by decide)]; exact a3
  · rw [am_up_same, am_up_same]
  · rw [am_up_j (by decide), am_up_j (by decide)]; exact a5
  · rw [am_up_k (by simp), am_up_k (by simp)]; exact a6 j hj
theorem rel_begun (h : rel sh c q X M) (v : Int32) : rel sh c q (am_up X (0, 0, 0) 7 v) (am_up M (20, 0, 0) 2 v) := by
  obtain ⟨a1, a2, a3, a4, a5, a6⟩ := h.1
  refine rel_A h ⟨?_, ?_, ?_, ?_, ?_, fun j hj => ?_⟩ (fun k j h0 h1 => am_up_k (fun e => h0 (by rw [e]))) (fun k j _ h0 h1 => am_up_k h0)
  · rw [am_up_j (by decide)]; exact a1
  · rw [am_up_j (by decide)]; exact a2
  · rw [am_up_j (by decide), am_up_j (by decide)]; exact a3
  · rw [am_up_j (by decide), am_up_j (by decide)]; exact a4
  · rw [am_up_same, am_up_same]
  · rw [am_up_k (by simp), am_up_k (by simp)]; exact a6 j hj
theorem sim_lv (hsh : shk sh) : ∀ n, n ≤ sh.1 → SR sh (sh.1 - n) n (lv sh n).1 ∧ SW sh (sh.1 - n) n (lv sh n).2 := by
  intro n
  have h4 := hsh.1
  induction n with
  | zero =>
    intro _
    constructor
    · intro c X M j b key hII hch hrel hb hkk hku hkab hjn hc h23 h24 h25 h26 h29
      rw [Nat.sub_zero] at h25 ⊢
      have hR := m_read0 (sh := sh) (by omega) hb (by omega) h25 h26 hrel.1.1
      have hval : M (20, 0, 0) 19 + 1 = X (0, 0, 0) 5 + 1 := by rw [hrel.1.2.2.1]
      rw [hval] at hR
      have hr1 := rel_loads hrel (X (0, 0, 0) 5 + 1)
      have hk1 := okk_1 hkk
      refine ⟨c, _, fun d P hd5 k => wk_read (by omega) h23 h24 (am_cq_up hR (by omega)) hd5 k, ?_, by omega, ?_, ?_, fun k hk => ?_⟩
      · refine rel_X (rel_pop (rel_mcp hr1 (by omega))) (fun k j q => am_cp_else (fun e => by subst e; omega)) (fun t' s' w' h2 h3 h4 hp _ k hk4 => am_cp_else (fun e => hp ?_))
        rw [am_up_k (by simp)]
        exact hkab t' s' w' h2 h3 h4 e.symm
      · exact mpop_23 (by rw [mcp_else (by simp), am_up_j (by decide)]; exact h23)
      · exact mfm_trans (mfm_trans (mfm_up (mun20 (by decide))) (mfm_mcp (fun i h1 _ => munA h1))) mfm_pop
      · rw [mpop_else (by simp), mcp_in hk, if_pos rfl, am_up_k (by simp), hrel.1.2.2.2.2.2 _ (by omega)]
        show _ = am_cp _ (1, 0, 0) key (b * 4) 0 4 key k
        unfold am_cp va_cpy
        rw [if_pos rfl, if_pos ⟨Nat.zero_le _, by omega⟩, am_up_k (by simp), Nat.sub_zero, Nat.mul_comm]
    · intro c X M j b m key hII hch hrel hb hm hkk hku hwd hjn hc h23 h24 h25 h26 h27 h29
      rw [Nat.sub_zero] at h25 hwd ⊢
      have hR := m_write0 (sh := sh) (by omega) hb (by omega) h25 h26 h27 hrel.1.1
      unfold msto at hR
      have hval : M (20, 0, 0) 20 + 1 = X (0, 0, 0) 6 + 1 := by rw [hrel.1.2.2.2.1]
      rw [hval] at hR
      have hr1 := rel_stores hrel (X (0, 0, 0) 6 + 1)
      have hk1 := okk_1 hkk
      refine ⟨c, _, fun d P hd5 k => wk_write (by omega) h23 h24 (am_cq_up hR (by omega)) hd5 k, ?_, by omega, ?_, ?_⟩
      · obtain ⟨a1, a2, a3, a4, a5, a6⟩ := hr1.1
        refine rel_up (rel_A hr1 ⟨?_, ?_, ?_, ?_, ?_, fun i hi => ?_⟩ (fun k i h0 h1 => cpw_else (fun e => h1 (by rw [e])) _ _ _) (fun k i _ h0 h1 => mcp_else h1)) (mv_no20 (Or.inr rfl))
        · rw [mcp_else (by simp)]; exact a1
        · rw [mcp_else (by simp)]; exact a2
        · rw [mcp_else (by simp), cpw_else (by simp)]; exact a3
        · rw [mcp_else (by simp), cpw_else (by simp)]; exact a4
        · rw [mcp_else (by simp), cpw_else (by simp)]; exact a5
        · by_cases hin : 4 * b ≤ i ∧ i < 4 * b + 4
          · obtain ⟨k, hk, rfl⟩ : ∃ k, k < 4 ∧ i = 4 * b + k := ⟨i - 4 * b, by omega, by omega⟩
            have hcw := cpw_in (bits := nI m) (k0 := key) (k1 := (1, 0, 0)) (st := b * 4) (j := k) (fun e => by rw [e] at hk1; simp at hk1) 4 0 (am_up X (0, 0, 0) 6 (X (0, 0, 0) 6 + 1)) (Nat.zero_le _) (by omega)
            rw [Nat.mul_comm b 4] at hcw
            rw [mcp_in hk]
            show _ = cpw (nI m) key (1, 0, 0) (b * 4) 0 4 _ (1, 0, 0) (4 * b + k)
            rw [Nat.mul_comm b 4, hcw]
            by_cases hz : bitz (nI m) k
            · rw [if_pos hz, if_neg (fun r => (mbt_b hm hk).mp r hz)]
              exact a6 _ hi
            · rw [if_neg hz, if_pos ((mbt_b hm hk).mpr hz), am_up_k (by simp), am_up_k (fun e => by rw [e] at hk1; simp at hk1)]
              exact hwd k hk
          · rw [mcp_out (by omega)]
            show _ = cpw (nI m) key (1, 0, 0) (b * 4) 0 4 _ (1, 0, 0) i
            rw [cpw_out _ _ _ (by omega)]
            exact a6 i hi
      · rw [am_up_same, h23]; exact nI_pred j
      · exact mfm_trans (mfm_trans (mfm_up (mun20 (by decide))) (mfm_mcp (fun i _ _ => mun21 (by omega)))) (mfm_up (mun20 (by decide)))
  | succ n ih =>
    intro hn
    obtain ⟨hr, hw⟩ := ih (by omega)
    obtain ⟨gr, gw⟩ := g_lv hsh n (by omega)
    have e : sh.1 - n = sh.1 - (n + 1) + 1 := by omega
    rw [e] at hr hw gr gw
    have ht : sh.1 - (n + 1) < sh.1 := by omega
    exact ⟨sim_read hsh ht hr hw gr gw, sim_write hsh ht hr hw gr gw⟩
theorem m_workOff (h : wkr sh M M') (h0 : M' (20, 0, 0) 23 = nI 0) : am_cq sh 6 66 M [mok] (M', Sum.inl none) :=
  am_cq_of (Nat.le_of_ble_eq_true rfl) rfl rfl (fun d hd => h d (fun r => r = Sum.inr (M', Sum.inl none)) hd (wk_done h0 rfl) none)
end UY
