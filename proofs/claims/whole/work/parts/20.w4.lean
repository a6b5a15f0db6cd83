-- one round of the law's loop: tier, where it throws
section WD
variable {sh : am_Sh} {c K : Nat} {W : am_M}
theorem w_tierT (hsh : shk sh) (hJ : Jn sh c W W) {x1 x2 x3 x4 x5 : Int32} (h : ¬ tok x1 x2 x3 x4 ∨ (tok x1 x2 x3 x4 ∧ (sh.1 = 4 ∨ ¬ W (0, 0, 0) 7 = 0))) : okc sh 107 61 [clk, am_I x1, am_I x2, am_I x3, am_I x4, am_I x5, outk] [mok, am_I x1, am_I x2, am_I x3, am_I x4, am_I x5] W c K := by
  have h4 := hsh.1
  have eh : W (0, 0, 0) 4 = nI sh.1 := hJ.1.1.1.1
  have em : W (20, 0, 0) 1 = nI sh.1 := hJ.2.2.1.1.1
  have eb : W (20, 0, 0) 2 = W (0, 0, 0) 7 := hJ.2.2.1.1.2.2.2.2.1
  rcases h with h | ⟨h, h5⟩
  · exact okc_t hJ (v := 1) (by decide) (am_cq_of (k := 44) (Nat.le_of_ble_eq_true rfl) rfl rfl (fun d hd => sgc_107_0 (q_tierT1 h d (by omega)) rfl)) (am_cq_up (m_tierT1 h) (by omega))
  · by_cases e4 : sh.1 = 4
    · rw [e4] at eh em
      exact okc_t hJ (v := 2) (by decide) (am_cq_of (k := 44) (Nat.le_of_ble_eq_true rfl) rfl rfl (fun d hd => sgc_107_1 (q_tierT2 h (by rw [eh]; decide) d (by omega)) rfl)) (am_cq_up (m_tierT2 h em) (by omega))
    · have h7 := h5.resolve_left e4
      refine okc_t hJ (v := 3) (by decide) (am_cq_of (k := 44) (Nat.le_of_ble_eq_true rfl) rfl rfl (fun d hd => sgc_107_2 (q_tierT3 h ?_ h7 d (by omega)) rfl)) (am_cq_up (m_tierT3 h ?_ (by rw [eb]; exact h7)) (by omega))
      · rw [eh]; exact nI_lt (b := 4) (by omega) (by omega)
      · rw [em]; exact nt_ne (b := 4) (by omega) (by omega) e4
end WD
