-- tier: the reference's
section VG
variable {sh : am_Sh} {c : Nat} {X M : am_M} {x1 x2 x3 x4 x5 : Int32}
theorem mt_sets {d : Nat} {P : am_S ⊕ am_O → Prop} {u6 : Option am_V} (ht : isz x1 = true → am_ev sh (am_cr sh d) 61 (27, [some mok, some (am_I x1), some (am_I x2), some (am_I x3), some (am_I x4), some (am_I x5), u6], [], M, 0) P) (hf : isz x1 = false → am_ev sh (am_cr sh d) 61 (31, [some mok, some (am_I x1), some (am_I x2), some (am_I x3), some (am_I x4), some (am_I x5), u6], [], M, 0) P) : am_ev sh (am_cr sh d) 61 (0, [some mok, some (am_I x1), some (am_I x2), some (am_I x3), some (am_I x4), some (am_I x5), u6], [], M, 0) P := by
  refine sg_61_0 (fun e => ht (decide_eq_true (Or.inl e))) (fun e1 => sg_61_5 (fun e => ht (decide_eq_true (Or.inr (Or.inl e)))) (fun e2 => sg_61_10 (fun e => ht (decide_eq_true (Or.inr (Or.inr (Or.inl e))))) (fun e4 => sg_61_15 (fun e => ht (decide_eq_true (Or.inr (Or.inr (Or.inr (Or.inl e)))))) (fun e8 => sg_61_21 (fun e => hf (decide_eq_false ?_)) (fun e => ht (decide_eq_true (Or.inr (Or.inr (Or.inr (Or.inr e))))))))))
  rintro (q | q | q | q | q)
  · exact e1 q
  · exact e2 q
  · exact e4 q
  · exact e8 q
  · exact e q
theorem mt_all {d : Nat} (hd : 1 ≤ d) {P : am_S ⊕ am_O → Prop} {u6 : Option am_V} (ht : tok x1 x2 x3 x4 → ∀ x6, am_ev sh (am_cr sh d) 61 (84, [some mok, some (am_I x1), some (am_I x2), some (am_I x3), some (am_I x4), some (am_I x5), some (am_I x6)], [mok], M, 0) P) (hf : ¬ tok x1 x2 x3 x4 → ∀ x6, am_ev sh (am_cr sh d) 61 (80, [some mok, some (am_I x1), some (am_I x2), some (am_I x3), some (am_I x4), some (am_I x5), some (am_I x6)], [mok], M, 0) P) : am_ev sh (am_cr sh d) 61 (0, [some mok, some (am_I x1), some (am_I x2), some (am_I x3), some (am_I x4), some (am_I x5), u6], [], M, 0) P := by
  have hbad : ¬ tok x1 x2 x3 x4 → ∀ x6, am_ev sh (am_cr sh d) 61 (71, [some mok, some (am_I x1), some (am_I x2), some (am_I x3), some (am_I x4), some (am_I x5), some (am_I x6)], [], M, 0) P := fun h x6 => sg_61_71 (sg_61_72 (fun e => absurd rfl e) (fun _ => hf h _))
  have hin : ∀ {a lo hi : Int32}, b01 (decide (¬ a < lo ∧ ¬ hi < a)) = 0 → ¬ (¬ a < lo ∧ ¬ hi < a) := by
    intro a lo hi e q
    rw [decide_eq_true q] at e
    exact absurd e (by decide)
  have hin' : ∀ {a lo hi : Int32}, ¬ b01 (decide (¬ a < lo ∧ ¬ hi < a)) = 0 → (¬ a < lo ∧ ¬ hi < a) := by
    intro a lo hi e
    refine Decidable.byContradiction fun q => ?_
    rw [decide_eq_false q] at e
    exact e rfl
  have le_of : ∀ {a b : Int32}, a ≤ b → ¬ b < a := fun h => i_nlt h
  have le_to : ∀ {a b : Int32}, ¬ b < a → a ≤ b := fun {a b} h => by
    rw [Int32.le_iff_toInt_le]
    rw [Int32.lt_iff_toInt_lt] at h
    omega
  refine mt_sets (fun hz => sg_61_27 (sg_61_32 (fun e => absurd e (by decide)) (fun _ => sg_61_39 (m_in d hd) (fun e => hbad ?_ _) (fun e2 => sg_61_48 (m_in d hd) (fun e => hbad ?_ _) (fun e3 => sg_61_57 (m_in d hd) (fun e => hbad ?_ _) (fun e4 => sg_61_67 (sg_61_72 (fun _ => ht ?_ _) (fun e => absurd e (by decide))))))))) (fun hz => sg_61_31 (sg_61_32 (fun _ => hbad ?_ _) (fun e => absurd rfl e)))
  · rintro ⟨-, ⟨q1, q2⟩, -⟩; exact hin e ⟨q1, le_of q2⟩
  · rintro ⟨-, -, ⟨q1, q2⟩, -⟩; exact hin e ⟨q1, q2⟩
  · rintro ⟨-, -, -, q1, q2⟩; exact hin e ⟨q1, le_of q2⟩
  · exact ⟨hz, ⟨(hin' e2).1, le_to (hin' e2).2⟩, ⟨(hin' e3).1, (hin' e3).2⟩, (hin' e4).1, le_to (hin' e4).2⟩
  · rintro ⟨q, -⟩; rw [hz] at q; cases q
theorem m_tierT1 (h : ¬ tok x1 x2 x3 x4) : am_cq sh 2 61 M [mok, am_I x1, am_I x2, am_I x3, am_I x4, am_I x5] (am_up M (20, 0, 0) 0 1, Sum.inl (some (am_I 0))) :=
  am_cq_of (Nat.le_of_ble_eq_true rfl) rfl rfl (fun d hd => mt_all hd (fun q => absurd q h) (fun _ x6 => sg_61_80 (sg_61_108 (fun e => absurd e c1_nle) (fun _ => sg_61_118 rfl))))
theorem m_tierT2 (h : tok x1 x2 x3 x4) (h4 : M (20, 0, 0) 1 = 4) : am_cq sh 2 61 M [mok, am_I x1, am_I x2, am_I x3, am_I x4, am_I x5] (am_up M (20, 0, 0) 0 2, Sum.inl (some (am_I 0))) :=
  am_cq_of (Nat.le_of_ble_eq_true rfl) rfl rfl (fun d hd => mt_all hd (fun _ x6 => sg_61_84 (fun e => absurd h4 e) (fun _ => sg_61_92 (sg_61_108 (fun e => by rw [am_up_same] at e; exact absurd e (by decide)) (fun _ => sg_61_118 rfl)))) (fun q => absurd h q))
theorem m_tierT3 (h : tok x1 x2 x3 x4) (h4 : ¬ M (20, 0, 0) 1 = 4) (h2 : ¬ M (20, 0, 0) 2 = 0) : am_cq sh 2 61 M [mok, am_I x1, am_I x2, am_I x3, am_I x4, am_I x5] (am_up M (20, 0, 0) 0 3, Sum.inl (some (am_I 0))) :=
  am_cq_of (Nat.le_of_ble_eq_true rfl) rfl rfl (fun d hd => mt_all hd (fun _ x6 => sg_61_84 (fun _ => sg_61_96 (fun e => absurd e h2) (fun _ => sg_61_103 (sg_61_108 (fun e => by rw [am_up_same] at e; exact absurd e (by decide)) (fun _ => sg_61_118 rfl)))) (fun e => absurd e h4)) (fun q => absurd h q))
/-- a tier taken: the reference's memory -/
def mtr (M : am_M) (h : Nat) (x1 x2 x3 x4 x5 : Int32) : am_M := am_up (am_up (am_up (am_up (am_up (am_up (am_up M (20, 0, 0) 0 0) (21, 3, 0) h x1) (21, 4, 0) h x2) (21, 5, 0) h x3) (21, 6, 0) h x4) (21, 7, 0) h x5) (20, 0, 0) 1 (nI (h + 1))
theorem m_tier {h : Nat} (hok : tok x1 x2 x3 x4) (hh : h < 4) (htc : M (20, 0, 0) 1 = nI h) (h2 : M (20, 0, 0) 2 = 0) (h5 : x5 = 0 ∨ x5 = 1) : am_cq sh 2 61 M [mok, am_I x1, am_I x2, am_I x3, am_I x4, am_I x5] (mtr M h x1 x2 x3 x4 x5, Sum.inl (some (am_I (nI h)))) := by
  have e0 : am_up M (20, 0, 0) 0 0 (20, 0, 0) 1 = nI h := by rw [am_up_j (by decide)]; exact htc
  have e1 : ∀ (N : am_M) (q : Nat) (v : Int32), N (20, 0, 0) 1 = nI h → am_up N (21, q, 0) h v (20, 0, 0) 1 = nI h := fun N q v e => by rw [am_up_k (by simp)]; exact e
  refine am_cq_of (Nat.le_of_ble_eq_true rfl) rfl rfl (fun d hd => mt_all hd (fun _ x6 => sg_61_84 (fun _ => sg_61_96 (fun _ => sg_61_107 (sg_61_108 (fun _ => sg_61_120 e0 hh (e1 _ _ _ e0) hh (e1 _ _ _ (e1 _ _ _ e0)) hh (e1 _ _ _ (e1 _ _ _ (e1 _ _ _ e0))) hh (e1 _ _ _ (e1 _ _ _ (e1 _ _ _ (e1 _ _ _ e0)))) hh h5 ?_) (fun e => absurd c0_le e))) (fun e => absurd h2 e)) (fun e => by rw [htc] at e; exact absurd e (nt_ne (b := 4) (by omega) (by omega) (by omega)))) (fun q => absurd hok q))
  rw [am_up_same, e1 _ _ _ (e1 _ _ _ (e1 _ _ _ (e1 _ _ _ (e1 _ _ _ e0)))), nI_1, show nI (h + 1) - 1 = nI h from nI_pred h]
  rfl
end VG
