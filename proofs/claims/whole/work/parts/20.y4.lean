-- the law's loop
section YD
variable {sh : am_Sh} {C : Nat → am_M → List am_V → am_O → Prop} {M M' W : am_M} {h c Z Wy i : Nat} {x1 x2 x3 x4 x5 : Int32}
theorem am_up_cg {k k' : am_K} {j j' : Nat} {v : Int32} (e : M' k' j' = M k' j') : am_up M' k j v k' j' = am_up M k j v k' j' := by
  unfold am_up
  rw [e]
theorem mtr_cg {k : am_K} {j : Nat} (e : M' k j = M k j) : mtr M' h x1 x2 x3 x4 x5 k j = mtr M h x1 x2 x3 x4 x5 k j := am_up_cg (am_up_cg (am_up_cg (am_up_cg (am_up_cg (am_up_cg (am_up_cg e))))))
theorem mtr_00 : mtr M h x1 x2 x3 x4 x5 (20, 0, 0) 0 = 0 := by
  unfold mtr
  rw [am_up_j (by decide), am_up_k (by simp), am_up_k (by simp), am_up_k (by simp), am_up_k (by simp), am_up_k (by simp), am_up_same]
def tgW (W : am_M) (h : Nat) (x1 x2 x3 x4 x5 : Int32) : am_M := mtr (am_up (tgX W h x1 x2 x3 x4 x5) (30, 0, 0) 0 (nI h)) h x1 x2 x3 x4 x5
theorem tgW_J (hs : shk sh) (h4 : sh.1 < 4) (hz : zok Z Wy) (hJ : Jn sh c W W) (hp : prs sh W W) (h7 : W (0, 0, 0) 7 = 0) (h3 : x3 = 0 ∨ x3 = 1 ∨ x3 = 2 ∨ x3 = 3) : Jn (shg sh Z Wy) c (tgW W sh.1 (nI Z) (nI Wy) x3 x4 x5) (tgW W sh.1 (nI Z) (nI Wy) x3 x4 x5) ∧ prs (shg sh Z Wy) (tgW W sh.1 (nI Z) (nI Wy) x3 x4 x5) (tgW W sh.1 (nI Z) (nI Wy) x3 x4 x5) := by
  have hX : ∀ (k : am_K) (j : Nat), k.1 < 11 → tgW W sh.1 (nI Z) (nI Wy) x3 x4 x5 k j = tgX W sh.1 (nI Z) (nI Wy) x3 x4 x5 k j := fun k j q => by
    unfold tgW
    rw [mtr_o (fun e => by rw [e] at q; exact absurd q (by decide)) (fun e => by omega), am_up_k (fun e => by rw [e] at q; exact absurd q (by decide))]
  have hM : ∀ (k : am_K) (j : Nat), (k.1 = 20 ∨ k.1 = 21) → tgW W sh.1 (nI Z) (nI Wy) x3 x4 x5 k j = mtr W sh.1 (nI Z) (nI Wy) x3 x4 x5 k j := fun k j q => mtr_cg (by
    rw [am_up_k (fun e => by rw [e] at q; exact absurd q (by decide)), tgX_k (fun e => by rw [e] at q; exact absurd q (by decide)), tg_old (Or.inr (Or.inl (by omega)))])
  exact ⟨Jn_X (Jn_M (Jn_tier hs h4 hz hJ hp h7 h3) hM) hX, prs_X (prs_M (prs_tier hs h4 hp h7) (fun k j q => hM k j (Or.inr q))) hX⟩
abbrev lwL (i : Nat) (l5 l6 : Option am_V) : am_Ls := [some sck, some clk, some mok, some outk, some (am_I (nI i)), l5, l6]
theorem ev_tier1 {u5 u6 : Option am_V} (hL : sh.2.2.2 < 2147483648) (hi : i + 6 ≤ sh.2.2.2) (hk : W (31, 0, 0) i &&& 31 = nI 0) : am_ev sh C 121 (23, [some sck, some clk, some mok, some outk, some (am_I (nI i)), u5, u6], [], W, 0) (fun r => r = Sum.inl (168, [some sck, some clk, some mok, some outk, some (am_I (nI i)), u5, u6], [outk, am_I (tvl (W (31, 0, 0) (i + 5))), am_I (W (31, 0, 0) (i + 4)), am_I (W (31, 0, 0) (i + 3)), am_I (W (31, 0, 0) (i + 2)), am_I (W (31, 0, 0) (i + 1)), clk], W, 0)) := by
  refine sg_121_23 hL (fun q => absurd q ?_) (fun _ => sg_121_33 (j1 := i) hL rfl (by omega) ?_)
  · rw [show nI sh.2.2.2 - 6 = nI (sh.2.2.2 - 6) from pk_sub (b := 6) (by omega)]
    exact nI_nlt (by omega) (by omega)
  · rw [hk]
    refine am_e_tsw (off := 88) (tgt := 128) dd_121_40 (by decide) (by decide) (by decide) ?_
    refine sg_121_128 (j1 := i + 1) (j2 := i + 2) (j3 := i + 3) (j4 := i + 4) (j5 := i + 5) hL (nI_add i 1) (by omega) (nI_add i 2) (by omega) (nI_add i 3) (by omega) (nI_add i 4) (by omega) (nI_add i 5) (by omega) (fun h0 => sg_121_166 (sg_121_168 (am_ev_stop ?_))) (fun h0 => sg_121_162 (sg_121_168 (am_ev_stop ?_)))
    · rw [show tvl (W (31, 0, 0) (i + 5)) = 0 from if_pos h0]
    · rw [show tvl (W (31, 0, 0) (i + 5)) = 1 from if_neg h0]
theorem ev_tier2 {u5 u6 : Option am_V} {d : Nat} (hd : 2 ≤ d) (hL : sh.2.2.2 < 2147483648) (hi : i + 6 ≤ sh.2.2.2) (htok : tok (M (31, 0, 0) (i + 1)) (M (31, 0, 0) (i + 2)) (M (31, 0, 0) (i + 3)) (M (31, 0, 0) (i + 4))) (hh : h < 4) (htc : M (20, 0, 0) 1 = nI h) (h2 : M (20, 0, 0) 2 = 0) (h30 : M (30, 0, 0) 0 = nI h) : am_ev sh (am_cr sh d) 121 (171, [some sck, some clk, some mok, some outk, some (am_I (nI i)), u5, u6], [am_I 0], M, 1) (fun r => ∃ l5 l6, r = Sum.inl (23, [some sck, some clk, some mok, some outk, some (am_I (nI (i + 6))), l5, l6], [], mtr M h (M (31, 0, 0) (i + 1)) (M (31, 0, 0) (i + 2)) (M (31, 0, 0) (i + 3)) (M (31, 0, 0) (i + 4)) (tvl (M (31, 0, 0) (i + 5))), 1)) := by
  have tail : am_ev sh (am_cr sh d) 121 (212, [some sck, some clk, some mok, some outk, some (am_I (nI i)), some (am_I 0), u6], [am_I (tvl (M (31, 0, 0) (i + 5))), am_I (M (31, 0, 0) (i + 4)), am_I (M (31, 0, 0) (i + 3)), am_I (M (31, 0, 0) (i + 2)), am_I (M (31, 0, 0) (i + 1)), mok], M, 1) (fun r => ∃ l5 l6, r = Sum.inl (23, [some sck, some clk, some mok, some outk, some (am_I (nI (i + 6))), l5, l6], [], mtr M h (M (31, 0, 0) (i + 1)) (M (31, 0, 0) (i + 2)) (M (31, 0, 0) (i + 3)) (M (31, 0, 0) (i + 4)) (tvl (M (31, 0, 0) (i + 5))), 1)) := by
    refine sg_121_212 (m_tier htok hh htc h2 (tvl_or _) d hd) (m_thrown d (by omega)) (fun _ => sg_121_228 (fun e => absurd rfl e) (fun _ => sg_121_233 (fun _ => sg_121_245 (sg_121_1160 (am_ev_stop ⟨_, _, by rw [show nI i + 6 = nI (i + 6) from nI_add i 6]⟩))) (fun q => absurd ?_ q))) (fun e => absurd mtr_00 e)
    rw [mtr_o (by simp) (fun e => absurd e (by decide)), h30]
    exact lg_self _
  refine sg_121_171 (j1 := i + 1) (j2 := i + 2) (j3 := i + 3) (j4 := i + 4) (j5 := i + 5) hL (nI_add i 1) (by omega) (nI_add i 2) (by omega) (nI_add i 3) (by omega) (nI_add i 4) (by omega) (nI_add i 5) (by omega) (fun h0 => sg_121_211 ?_) (fun h0 => sg_121_207 ?_)
  · rw [show tvl (M (31, 0, 0) (i + 5)) = 0 from if_pos h0] at tail ⊢
    exact tail
  · rw [show tvl (M (31, 0, 0) (i + 5)) = 1 from if_neg h0] at tail ⊢
    exact tail
theorem lt6 {len r : Nat} (h6 : ¬ 6 * r + 6 ≤ len) (hr : 6 * r ≤ len) (hl : len ≤ 3072) : nI len - 6 < nI (6 * r) := by
  by_cases q : 6 ≤ len
  · rw [show nI len - 6 = nI (len - 6) from pk_sub (b := 6) q]
    exact nI_lt (by omega) (by omega)
  · have hr0 : r = 0 := by omega
    subst hr0
    rcases (show len = 0 ∨ len = 1 ∨ len = 2 ∨ len = 3 ∨ len = 4 ∨ len = 5 by omega) with rfl | rfl | rfl | rfl | rfl | rfl <;> decide
theorem am_lv_drop {Ω : am_Ω} {nL : Nat} {ls : Array Slot} {l5 l6 : Option am_V} (hl : am_lv Ω nL ls (lwL i l5 l6)) : am_lv Ω nL ls (lwL i none none) := by
  have key : ∀ (j : Nat) (v : am_V), (lwL i none none)[j]? = some (some v) → (lwL i l5 l6)[j]? = some (some v) := by
    intro j v hv
    rcases j with _ | _ | _ | _ | _ | _ | _ | j
    · exact hv
    · exact hv
    · exact hv
    · exact hv
    · exact hv
    · cases hv
    · cases hv
    · cases hv
  exact ⟨hl.1, hl.2.1, hl.2.2.1, fun j v hv => hl.2.2.2.1 j v (key j v hv), fun j v hv => hl.2.2.2.2 j v (key j v hv)⟩
end YD
section YE
variable {p : Program} {l : Launch} {e : Env} {R : Room} {s : State} {mid : MethodId} {args : Array Value} {below : List Frame} {meth : Method} {c : Code} {Q : State → Prop}
theorem b121 : am_bud 121 = 8 := by decide +kernel
set_option maxHeartbeats 4000000 in
set_option maxRecDepth 20000 in
theorem law_loop (hRc : 600000 ≤ R.cells) (hRs : 7000000 ≤ R.slots) (htk : am_tk s) {len c0 s0 : Nat} (hlen : len ≤ 3072) (hc0 : c0 ≤ 1000) (hs0 : s0 ≤ 20000)
    (kex : ∀ (T' : State) (locs' : List Loc) (cells' slots' : Nat) (ls' : Array Slot), Stand p l e R s mid args below meth c T' locs' cells' slots' → cells' ≤ 600000 → slots' ≤ 7000000 → (∀ q ∈ locs', s.heap.size ≤ q.base) → ∃ t, Steps p.tables e below (T'.setTop (F0 mid 1166 ls' [])) t ∧ Q t) :
    ∀ (n r : Nat) (Ω : am_Ω) (W : am_M) (ck : Nat) (T : State) (locs : List Loc) (cells slots : Nat) (ls : Array Slot), len < 6 * (r + n) → 6 * r ≤ len → Stand p l e R s mid args below meth c T locs cells slots → am_Cx Ω 61 121 p e R s mid args meth c → (am_sh Ω).2.2.2 = len → shk (am_sh Ω) → Jn (am_sh Ω) ck W W → prs (am_sh Ω) W W → ck ≤ r * 10240 → cells ≤ c0 + 140 * r → slots ≤ s0 + 850 * r → am_lv Ω (am_mL 121) ls (lwL (6 * r) none none) → va_P (am_D Ω) am_cl (am_w Ω W) T.heap → va_S (am_A Ω s.heap.size) s.heap T.heap locs → am_sc Ω W s → (∀ k, k ∈ am_dom Ω → s.heap.size ≤ am_ad Ω k) → ∃ t, Steps p.tables e below (T.setTop (F0 mid 23 ls [])) t ∧ Q t := by
  intro n
  induction n with
  | zero =>
    intro r Ω W ck T locs cells slots ls h1 h2
    omega
  | succ n ih =>
    intro r Ω W ck T locs cells slots ls h1 h2 X hC hsl hsh hJ hp hck hcl hsl2 hl hP hS hs hdom
    have hin : am_in Ω := hC.2.2.2.2.2.1
    have hK4 : KK 4 = 40 := rfl
    have hr : r ≤ 512 := by omega
    have e6 : 6 * (r + 1) = 6 * r + 6 := by omega
    by_cases hi : 6 * r + 6 ≤ len
    · by_cases htn : W (31, 0, 0) (6 * r) &&& 31 = nI 0 ∧ tok (W (31, 0, 0) (6 * r + 1)) (W (31, 0, 0) (6 * r + 2)) (W (31, 0, 0) (6 * r + 3)) (W (31, 0, 0) (6 * r + 4)) ∧ ¬ (am_sh Ω).1 = 4 ∧ W (0, 0, 0) 7 = 0
      · obtain ⟨hk0, htok, hn4, h7⟩ := htn
        have hh : (am_sh Ω).1 < 4 := by
          have := hsh.1
          omega
        obtain ⟨⟨Z, Wy, hz, e1, e2⟩, h3⟩ := tok_of htok
        refine am_again (S := []) (n0 := 0) X hC (by rw [b121]; omega) (by rw [b121]; omega) hl hP hS hs (ev_tier1 (i := 6 * r) (by omega) (by omega) hk0) ?_ (fun o ho => by cases ho)
        intro σ hσ T' locs' ls' X' hl' hP' hS' hs'
        cases hσ
        dsimp only at X' hl' hP' hS' hs' ⊢
        have hSd : am_SG l Ω 60 107 135 820 W (([outk, am_I (tvl (W (31, 0, 0) (6 * r + 5))), am_I (W (31, 0, 0) (6 * r + 4)), am_I (W (31, 0, 0) (6 * r + 3)), am_I (W (31, 0, 0) (6 * r + 2)), am_I (W (31, 0, 0) (6 * r + 1)), clk] : List am_V).take 7).reverse (fun Ω' M' v => am_sh Ω' = shg (am_sh Ω) Z Wy ∧ M' = am_up (tgX W (am_sh Ω).1 (nI Z) (nI Wy) (W (31, 0, 0) (6 * r + 3)) (W (31, 0, 0) (6 * r + 4)) (tvl (W (31, 0, 0) (6 * r + 5)))) (30, 0, 0) 0 (nI (am_sh Ω).1) ∧ v = 0) := by
          show am_SG l Ω 60 107 135 820 W [clk, am_I (W (31, 0, 0) (6 * r + 1)), am_I (W (31, 0, 0) (6 * r + 2)), am_I (W (31, 0, 0) (6 * r + 3)), am_I (W (31, 0, 0) (6 * r + 4)), am_I (tvl (W (31, 0, 0) (6 * r + 5))), outk] _
          rw [e1, e2]
          exact wrap_G l Ω (d := 58) hz (by rw [← e1, ← e2]; exact htok) (tvl_or _) hh hJ.1.1.1.1 h7 (by decide)
        obtain ⟨T2, locs2, Ω', M', v, ⟨X2, hG, ⟨hsh', hM', hv⟩, hP2, hS2, hscr⟩, hgo⟩ := am_callGS (S := [outk, am_I (tvl (W (31, 0, 0) (6 * r + 5))), am_I (W (31, 0, 0) (6 * r + 4)), am_I (W (31, 0, 0) (6 * r + 3)), am_I (W (31, 0, 0) (6 * r + 2)), am_I (W (31, 0, 0) (6 * r + 1)), clk]) X' hC (k := 7) dd_121_168 (by decide +kernel) (Nat.le_of_ble_eq_true rfl) (Nat.le_of_ble_eq_true rfl) htk hSd (by rw [b107]; decide) (by omega) (by omega) hP' hS' hs' hl'.1
        subst hM'
        subst hv
        have hA3 := am_G_Ae hin hG (z0 := s.heap.size) hS'.1
        have hG0 : am_G Ω Ω' s.heap.size := am_G_mono hG hS'.1
        have hc31 : am_ct (am_sh Ω) (31, 0, 0) = some (Sum.inr (5, (am_sh Ω).2.2.2)) := rfl
        have hw31 := hscr _ _ hc31
        have hsl' : (am_sh Ω').2.2.2 = len := by rw [hsh']; exact hsl
        have o20 : ∀ j, am_up (tgX W (am_sh Ω).1 (nI Z) (nI Wy) (W (31, 0, 0) (6 * r + 3)) (W (31, 0, 0) (6 * r + 4)) (tvl (W (31, 0, 0) (6 * r + 5)))) (30, 0, 0) 0 (nI (am_sh Ω).1) (20, 0, 0) j = W (20, 0, 0) j := fun j => by rw [am_up_k (by simp), tgX_k (by simp), tg_old (Or.inr (Or.inl (by simp)))]
        have hev3 := ev_tier2 (sh := am_sh Ω') (M := am_up (tgX W (am_sh Ω).1 (nI Z) (nI Wy) (W (31, 0, 0) (6 * r + 3)) (W (31, 0, 0) (6 * r + 4)) (tvl (W (31, 0, 0) (6 * r + 5)))) (30, 0, 0) 0 (nI (am_sh Ω).1)) (h := (am_sh Ω).1) (i := 6 * r) (u5 := none) (u6 := none) (d := 60) (by decide) (by omega) (by omega) (by rw [hw31]; exact htok) hh ((o20 1).trans hJ.2.2.1.1.1) ((o20 2).trans (hJ.2.2.1.1.2.2.2.2.1.trans h7)) (am_up_same _ _ _ _)
        rw [hw31, e1, e2] at hev3
        obtain ⟨hJ2, hp2⟩ := tgW_J (x4 := W (31, 0, 0) (6 * r + 4)) (x5 := tvl (W (31, 0, 0) (6 * r + 5))) hsh hh hz hJ hp h7 h3
        suffices hw : ∃ t, Steps p.tables e below (T2.setTop (F0 mid 171 ls' (([am_I 0] : List am_V).map (am_c (am_ad Ω'))))) t ∧ Q t by
          obtain ⟨t, st, h⟩ := hw
          exact ⟨t, hgo t st, h⟩
        refine am_again (n0 := 1) X2 (am_Cx_G hC hG0 (Nat.le_refl _)) (by rw [b121]; omega) (by rw [b121]; omega) (am_lv_G hl' (fun i v hv => ?_)) (by rw [hG.1]; exact hP2) (by rw [hA3]; exact hS2) (am_sc_G hs' hin hG0 (Nat.le_refl _) hscr) hev3 ?_ (fun o ho => by obtain ⟨_, _, ho⟩ := ho; cases ho)
        · have hv2 := List.mem_of_getElem? hv
          simp only [List.mem_cons, List.not_mem_nil, or_false, Option.some.injEq, reduceCtorEq] at hv2
          rcases hv2 with rfl | rfl | rfl | rfl | rfl
          · exact am_c_G hG (k := (31, 0, 0)) rfl
          · exact am_c_G hG (k := (0, 0, 0)) rfl
          · exact am_c_G hG (k := (20, 0, 0)) rfl
          · exact am_c_G hG (k := (30, 0, 0)) rfl
          · rfl
        · intro σ hσ T3 locs3 ls3 X3 hl3 hP3 hS3 hs3
          obtain ⟨l5, l6, hσ⟩ := hσ
          cases hσ
          dsimp only at X3 hl3 hP3 hS3 hs3 ⊢
          refine ih (r + 1) Ω' (tgW W (am_sh Ω).1 (nI Z) (nI Wy) (W (31, 0, 0) (6 * r + 3)) (W (31, 0, 0) (6 * r + 4)) (tvl (W (31, 0, 0) (6 * r + 5)))) ck T3 _ _ _ ls3 (by omega) (by omega) X3 (am_Cx_G hC hG0 (Nat.le_refl _)) hsl' (by rw [hsh']; exact shg_k hsh hh hz) (by rw [hsh']; exact hJ2) (by rw [hsh']; exact hp2) (Nat.le_trans hck (Nat.mul_le_mul_right _ (Nat.le_succ r))) (by omega) (by omega) (by rw [e6]; exact am_lv_drop hl3) hP3 hS3 hs3 (fun k hk => ?_)
          rcases hG.2.2.2.2.1 k hk with h | h
          · obtain ⟨ck', hck', -⟩ := hin.2.1 k h
            rw [(hG.2.2.2.1 k ck' hck').2]
            exact hdom k h
          · exact Nat.le_trans hS'.1 h
      · refine am_again (S := []) (n0 := 0) X hC (by rw [b121]; omega) (by rw [b121]; omega) hl hP hS hs (rnd (i := 6 * r) (d := 60) hsh hJ (by omega) (by omega) (by rw [hK4]; omega) (by decide) (fun hk0 => ?_)) ?_ (fun o ho => by obtain ⟨_, _, _, _, _, ho, -⟩ := ho; cases ho)
        · by_cases htok : tok (W (31, 0, 0) (6 * r + 1)) (W (31, 0, 0) (6 * r + 2)) (W (31, 0, 0) (6 * r + 3)) (W (31, 0, 0) (6 * r + 4))
          · refine Or.inr ⟨htok, ?_⟩
            by_cases hn4 : (am_sh Ω).1 = 4
            · exact Or.inl hn4
            · exact Or.inr (fun h7 => htn ⟨hk0, htok, hn4, h7⟩)
          · exact Or.inl htok
        · intro σ hσ T3 locs3 ls3 X3 hl3 hP3 hS3 hs3
          obtain ⟨W2, c', l5, l6, n', hσ, hn', hJ2, hc2, hkp⟩ := hσ
          cases hσ
          dsimp only at X3 hl3 hP3 hS3 hs3 ⊢
          exact ih (r + 1) Ω W2 c' T3 _ _ _ ls3 (by omega) (by omega) X3 hC hsl hsh hJ2 (hkp.2 hp) (by rw [hK4] at hc2; omega) (by omega) (by omega) (by rw [e6]; exact am_lv_drop hl3) hP3 hS3 hs3 hdom
    · have hev : am_ev (am_sh Ω) (am_cr (am_sh Ω) 60) 121 (23, lwL (6 * r) none none, [], W, 0) (fun r' => r' = Sum.inl (1166, lwL (6 * r) none none, [], W, 0)) := by
        refine sg_121_23 (by omega) (fun _ => am_ev_stop rfl) (fun q => absurd ?_ q)
        rw [hsl]
        exact lt6 hi h2 hlen
      refine am_again (S := []) (n0 := 0) X hC (by rw [b121]; omega) (by rw [b121]; omega) hl hP hS hs hev ?_ (fun o ho => by cases ho)
      intro σ hσ T' locs' ls' X' hl' hP' hS' hs'
      cases hσ
      dsimp only at X' hl' hP' hS' hs' ⊢
      refine kex T' _ _ _ ls' X' (by omega) (by omega) (fun q hq => ?_)
      rcases hS'.2.2 q hq with ⟨k, hk, e9⟩ | h
      · rw [← e9]; exact hdom k hk
      · exact h
end YE
