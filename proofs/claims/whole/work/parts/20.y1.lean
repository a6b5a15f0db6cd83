-- a world with one tier more is a world
section YA
variable {Ω : am_Ω} {Z Wy a5 a6 a7 a8 z : Nat} {ps : List (Nat × Nat)} {M1 : am_M}
theorem og_G (hin : am_in Ω) (hD : va_D (am_A Ω z) (am_w (og Ω Z Wy a5 a6 a7 a8 ps) M1)) (hsc : ∀ k N, am_ct (am_sh Ω) k = some (Sum.inr (5, N)) → ¬ am_A Ω z (am_ad Ω k)) : am_G Ω (og Ω Z Wy a5 a6 a7 a8 ps) z := by
  have hold : ∀ k c, am_ct (am_sh Ω) k = some c → am_ad (og Ω Z Wy a5 a6 a7 a8 ps) k = am_ad Ω k := fun k c hc => og_ad_old (sh := am_sh Ω) rfl hc
  have hget : ∀ k, k ∈ am_dom (og Ω Z Wy a5 a6 a7 a8 ps) → ∃ q0 : Nat, (am_dom (og Ω Z Wy a5 a6 a7 a8 ps))[q0]? = some k ∧ (am_w (og Ω Z Wy a5 a6 a7 a8 ps) M1)[q0]? = some (am_ad (og Ω Z Wy a5 a6 a7 a8 ps) k, am_e (og Ω Z Wy a5 a6 a7 a8 ps) M1 k) := fun k hk => am_w_get M1 hk
  have hinj : ∀ k1 k2, k1 ∈ am_dom (og Ω Z Wy a5 a6 a7 a8 ps) → k2 ∈ am_dom (og Ω Z Wy a5 a6 a7 a8 ps) → am_ad (og Ω Z Wy a5 a6 a7 a8 ps) k1 = am_ad (og Ω Z Wy a5 a6 a7 a8 ps) k2 → k1 = k2 := fun k1 k2 h1 h2 e => by
    obtain ⟨i, i1, i2⟩ := hget k1 h1
    obtain ⟨j, j1, j2⟩ := hget k2 h2
    have := hD.1 i j _ _ i2 j2 e
    subst this
    exact Option.some.inj (i1.symm.trans j1)
  have hAn : ∀ k, k ∈ am_dom (og Ω Z Wy a5 a6 a7 a8 ps) → am_A Ω z (am_ad (og Ω Z Wy a5 a6 a7 a8 ps) k) := fun k hk => by
    obtain ⟨i, -, i2⟩ := hget k hk
    exact hD.2 i _ i2
  have hnd : ∀ k, k ∈ og_new (am_sh Ω).1 (Z * Wy) → k ∈ am_dom (og Ω Z Wy a5 a6 a7 a8 ps) := fun k hk => List.mem_append_right _ hk
  have hod : ∀ k, k ∈ am_dom Ω → k ∈ am_dom (og Ω Z Wy a5 a6 a7 a8 ps) := fun k hk => List.mem_append_left _ hk
  have hmem : ∀ k c, am_ct (am_sh (og Ω Z Wy a5 a6 a7 a8 ps)) k = some c → (∀ N, c ≠ Sum.inr (5, N)) → k ∈ am_dom (og Ω Z Wy a5 a6 a7 a8 ps) := fun k c hc h5 => by
    rcases ct_old_or hc with h | h
    · exact hod k (hin.1 k c h h5)
    · exact hnd k h
  have hscr : ∀ k N, am_ct (am_sh (og Ω Z Wy a5 a6 a7 a8 ps)) k = some (Sum.inr (5, N)) → am_ct (am_sh Ω) k = some (Sum.inr (5, N)) := fun k N hc => by
    rcases ct_old_or hc with h | h
    · exact h
    · obtain ⟨c, hc', h5⟩ := ct_new h
      exact absurd (Option.some.inj (hc'.symm.trans hc)) (h5 N)
  refine ⟨rfl, rfl, ⟨hmem, fun k hk => ?_, ?_, fun k1 k2 c1 c2 h1 h2 e => ?_⟩, fun k c hc => ⟨ct_grow hc, hold k c hc⟩, fun k hk => ?_, hscr⟩
  · rcases List.mem_append.mp hk with h | h
    · obtain ⟨c, hc, h5⟩ := hin.2.1 k h
      exact ⟨c, ct_grow hc, h5⟩
    · exact ct_new h
  · show (am_dom Ω ++ og_new (am_sh Ω).1 (Z * Wy)).Nodup
    rw [List.nodup_append]
    refine ⟨hin.2.2.1, og_nd, fun a ha b hb e => ?_⟩
    subst e
    obtain ⟨c, hc, -⟩ := hin.2.1 a ha
    rw [ct_new_none hb] at hc
    cases hc
  · rcases ct_old_or h1 with o1 | n1 <;> rcases ct_old_or h2 with o2 | n2
    · exact hin.2.2.2 k1 k2 c1 c2 o1 o2 (by rw [← hold k1 c1 o1, ← hold k2 c2 o2]; exact e)
    · by_cases h5 : ∃ N, c1 = Sum.inr (5, N)
      · obtain ⟨N, rfl⟩ := h5
        refine absurd ?_ (hsc k1 N o1)
        rw [← hold k1 _ o1, e]
        exact hAn k2 (hnd k2 n2)
      · exact hinj k1 k2 (hmem k1 c1 h1 (fun N q => h5 ⟨N, q⟩)) (hnd k2 n2) e
    · by_cases h5 : ∃ N, c2 = Sum.inr (5, N)
      · obtain ⟨N, rfl⟩ := h5
        refine absurd ?_ (hsc k2 N o2)
        rw [← hold k2 _ o2, ← e]
        exact hAn k1 (hnd k1 n1)
      · exact hinj k1 k2 (hnd k1 n1) (hmem k2 c2 h2 (fun N q => h5 ⟨N, q⟩)) e
    · exact hinj k1 k2 (hnd k1 n1) (hnd k2 n2) e
  · rcases List.mem_append.mp hk with h | h
    · exact Or.inl h
    · right
      rcases hAn k hk with ⟨k0, hk0, e⟩ | h0
      · obtain ⟨c0, hc0, -⟩ := hin.2.1 k0 hk0
        have := hinj k0 k (hod k0 hk0) hk (by rw [hold k0 c0 hc0]; exact e)
        subst this
        rw [ct_new_none h] at hc0
        cases hc0
      · exact h0
end YA
