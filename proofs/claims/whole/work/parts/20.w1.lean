-- one round of the law's loop: read
section WA
variable {sh : am_Sh} {c : Nat} {W : am_M}
abbrev outk : am_V := am_R (some (30, 0, 0))
theorem lg_self (x : Int64) : lg_cmp x x = 0 := by
  unfold lg_cmp
  simp
/-- after a call of the class (memory W1, then its answer laid down) and one of the reference -/
theorem Jn_one {c' : Nat} {X W1 W2 : am_M} (h : Jn sh c' X W2) (e : ∀ k j, k.1 < 11 → W2 k j = X k j) : Jn sh c' W2 W2 := Jn_X h e
theorem w_read (hsh : shk sh) (hJ : Jn sh c W W) (x : Int32) (hc : c + KK sh.1 < 2 ^ 31) : ∃ r1 r2 W1 W2 c', am_cq sh 36 108 W [clk, am_I x, outk] (W1, Sum.inl (some (am_I r1))) ∧ am_cq sh 36 63 W1 [mok, am_I x] (W2, Sum.inl (some (am_I r2))) ∧ W2 (20, 0, 0) 0 = r1 ∧ (r1 = 0 → lg_cmp (W2 (30, 0, 0) 0).toInt64 r2.toInt64 = 0) ∧ Jn sh c' W2 W2 ∧ c' ≤ c + KK sh.1 ∧ (∀ j, W1 (31, 0, 0) j = W (31, 0, 0) j) ∧ ∀ j, W2 (31, 0, 0) j = W (31, 0, 0) j := by
  have hcase : bad x 1024 ∨ ∃ w, w < 1024 ∧ x = nI w := by
    rcases pk_ix x (n := 1024) (by omega) with h | h | h
    · exact Or.inl (Or.inl h)
    · exact Or.inl (Or.inr h)
    · exact Or.inr h
  rcases hcase with hb | ⟨w, hw, rfl⟩
  · refine ⟨1, 0, W, am_up W (20, 0, 0) 0 1, c, am_cq_of (k := 35) (Nat.le_of_ble_eq_true rfl) rfl rfl (fun d hd => sgc_108_3 (q_readT hb d (by omega)) rfl), am_cq_up (m_readT hb) (by omega), am_up_same _ _ _ _, fun e => absurd e (by decide), Jn_X (Jn_code hJ 1) (fun k j q => am_up_k (fun e => by rw [e] at q; exact absurd q (by decide))), by omega, fun _ => rfl, fun j => am_up_k (by simp)⟩
  · obtain ⟨-, hx⟩ := rdw_ok hsh hJ.1 hw
    have hJ1 : Jn sh c W (am_up (rdw sh w W) (30, 0, 0) 0 (rdw sh w W (3, 0, 0) (w % 4))) := Jn_M hJ (fun k j q => by rw [am_up_k (fun e => by rw [e] at q; exact absurd q (by decide))]; exact hx k j (by omega))
    obtain ⟨c', W2, g1, g2, g3, g4, g5⟩ := sim_mread hsh hJ1 hw hc
    refine ⟨0, _, _, W2, c', am_cq_of (k := 35) (Nat.le_of_ble_eq_true rfl) rfl rfl (fun d hd => sg_108_0 (q_read hsh hJ.1.1 hw d (by omega)) rfl), am_cq_up g1 (by omega), g5, fun _ => ?_, Jn_X g2 (fun k j q => ?_), g3, fun j => ?_, fun j => ?_⟩
    · rw [g4 (30, 0, 0) 0 (by simp) (by simp), am_up_same]
      exact lg_self _
    · rw [g4 k j (by omega) (by omega), am_up_k (fun e => by rw [e] at q; exact absurd q (by decide))]
    · rw [am_up_k (by simp)]; exact hx _ _ (by simp)
    · rw [g4 (31, 0, 0) j (by simp) (by simp), am_up_k (by simp)]; exact hx _ _ (by simp)
end WA
