-- the reference: words, gathering, hands
/-- n words from one array to another, those with p -/
def mcp (M : am_M) (p : Nat → Bool) (k0 k1 : am_K) (sp dp n : Nat) : am_M := fun k' j' => if k' = k1 ∧ dp ≤ j' ∧ j' < dp + n ∧ p (j' - dp) = true then M k0 (sp + (j' - dp)) else M k' j'
theorem am_up_id (M : am_M) (k : am_K) (j : Nat) : am_up M k j (M k j) = M := by
  funext k' j'
  unfold am_up
  split
  · rename_i h; rw [h.1, h.2]
  · rfl
theorem mcp_0 (M : am_M) (p : Nat → Bool) (k0 k1 : am_K) (sp dp : Nat) : mcp M p k0 k1 sp dp 0 = M := by
  funext k' j'
  unfold mcp
  rw [if_neg (by omega)]
theorem mcp_rd {M : am_M} {p : Nat → Bool} {k0 k1 : am_K} {sp dp n : Nat} {m : Nat} (h : ¬ k0 = k1 ∨ sp + m < dp ∨ dp + n ≤ sp + m) : mcp M p k0 k1 sp dp n k0 (sp + m) = M k0 (sp + m) := by
  unfold mcp
  rw [if_neg]
  intro q
  rcases h with h | h
  · exact h q.1
  · omega
theorem mcp_t {M : am_M} {p : Nat → Bool} {k0 k1 : am_K} {sp dp n : Nat} (h : ¬ k0 = k1 ∨ sp + n < dp ∨ dp + n ≤ sp + n) (hp : p n = true) : am_up (mcp M p k0 k1 sp dp n) k1 (dp + n) (mcp M p k0 k1 sp dp n k0 (sp + n)) = mcp M p k0 k1 sp dp (n + 1) := by
  rw [mcp_rd h]
  funext k' j'
  unfold am_up mcp
  by_cases h1 : k' = k1 ∧ j' = dp + n
  · rw [if_pos h1, if_pos ⟨h1.1, by omega, by omega, by rw [show j' - dp = n by omega]; exact hp⟩, show j' - dp = n by omega]
  · rw [if_neg h1]
    by_cases h2 : k' = k1 ∧ dp ≤ j' ∧ j' < dp + n ∧ p (j' - dp) = true
    · rw [if_pos h2, if_pos ⟨h2.1, h2.2.1, by omega, h2.2.2.2⟩]
    · rw [if_neg h2, if_neg (fun q => h2 ⟨q.1, q.2.1, by
        have h3 : ¬ j' = dp + n := fun e => h1 ⟨q.1, e⟩
        have h4 := q.2.2.1
        omega, q.2.2.2⟩)]
theorem mcp_f {M : am_M} {p : Nat → Bool} {k0 k1 : am_K} {sp dp n : Nat} (hp : p n = false) : mcp M p k0 k1 sp dp n = mcp M p k0 k1 sp dp (n + 1) := by
  funext k' j'
  unfold mcp
  by_cases h2 : k' = k1 ∧ dp ≤ j' ∧ j' < dp + n ∧ p (j' - dp) = true
  · rw [if_pos h2, if_pos ⟨h2.1, h2.2.1, by omega, h2.2.2.2⟩]
  · rw [if_neg h2, if_neg (fun q => h2 ⟨q.1, q.2.1, by
      have : ¬ j' = dp + n := fun e => by rw [show j' - dp = n by omega, hp] at q; exact absurd q.2.2.2 (by decide)
      omega, q.2.2.2⟩)]
theorem mcp_else {M : am_M} {p : Nat → Bool} {k0 k1 k' : am_K} {sp dp n j' : Nat} (h : ¬ k' = k1) : mcp M p k0 k1 sp dp n k' j' = M k' j' := if_neg (fun q => h q.1)
theorem mcp_out {M : am_M} {p : Nat → Bool} {k0 k1 k' : am_K} {sp dp n j' : Nat} (h : j' < dp ∨ dp + n ≤ j') : mcp M p k0 k1 sp dp n k' j' = M k' j' := if_neg (fun q => by omega)
theorem mcp_in {M : am_M} {p : Nat → Bool} {k0 k1 : am_K} {sp dp n m : Nat} (h : m < n) : mcp M p k0 k1 sp dp n k1 (dp + m) = if p m = true then M k0 (sp + m) else M k1 (dp + m) := by
  unfold mcp
  have e : dp + m - dp = m := by omega
  rw [e]
  by_cases hp : p m = true
  · rw [if_pos hp, if_pos ⟨rfl, by omega, by omega, hp⟩]
  · rw [if_neg hp, if_neg (fun q => hp q.2.2.2)]
abbrev allp : Nat → Bool := fun _ => true
abbrev mbt (bits : Int32) : Nat → Bool := fun k => decide ((bits >>> (nI k &&& 31)) &&& 1 = 1)
section QMq
variable {sh : am_Sh}
theorem n4 (a b : Nat) : (4 : Int32) * nI a + nI b = nI (4 * a + b) := by rw [show (4 : Int32) * nI a = nI (4 * a) from pk_mul 4 a, nI_add]
theorem n6 (a b : Nat) : (6 : Int32) * nI a + nI b = nI (6 * a + b) := by rw [show (6 : Int32) * nI a = nI (6 * a) from pk_mul 6 a, nI_add]
theorem ans_loop {M : am_M} {t l : Nat} (ht : t < 5) (hl : l < 256) {d : Nat} {P : am_S ⊕ am_O → Prop} : ∀ (k i : Nat), i + k = 4 → P (Sum.inr (mcp M allp (21, 16, 0) (21, 21, 0) (4 * l) (4 * t) 4, Sum.inl none)) → am_ev sh (am_cr sh d) 76 (2, [some mok, some (am_I (nI t)), some (am_I (nI l)), some (am_I (nI i))], [], mcp M allp (21, 16, 0) (21, 21, 0) (4 * l) (4 * t) i, 0) P := by
  intro k
  induction k with
  | zero =>
    intro i hi hP
    have : i = 4 := by omega
    subst this
    exact sg_76_2 (fun _ => sg_76_33 hP) (fun h => absurd (nI_le (a := 4) (by omega) (by omega)) h)
  | succ k ih =>
    intro i hi hP
    refine sg_76_2 (fun h => absurd h (nI_ge (b := 4) (by omega) (by omega))) (fun _ => sg_76_7 (n4 l i) (show 4 * l + i < 1024 by omega) (n4 t i) (show 4 * t + i < 20 by omega) ?_)
    rw [nI_1, mcp_t (Or.inl (by simp)) rfl]
    exact ih _ (by omega) hP
theorem m_answerLine {M : am_M} {t l : Nat} (ht : t < 5) (hl : l < 256) : am_cq sh 1 76 M [mok, am_I (nI t), am_I (nI l)] (mcp M allp (21, 16, 0) (21, 21, 0) (4 * l) (4 * t) 4, Sum.inl none) := by
  refine am_cq_of (Nat.le_of_ble_eq_true rfl) rfl rfl (fun d hd => sg_76_0 ?_)
  have h := ans_loop (sh := sh) (M := M) ht hl (d := d) (P := fun r => r = Sum.inr (mcp M allp (21, 16, 0) (21, 21, 0) (4 * l) (4 * t) 4, Sum.inl none)) 4 0 rfl rfl
  rw [mcp_0] at h
  exact h
def mfil (M : am_M) (t l : Nat) (b : Int32) (a : Bool) : am_M := mplc (if a = true then mcp M allp (21, 21, 0) (21, 16, 0) (4 * t + 4) (4 * l) 4 else M) l b
theorem fil_loop {M : am_M} {j t l : Nat} (hj : j < 64) (ht : t < 4) (hl : l < 256) {b : Int32} (hb : M (21, 26, 0) j = b) {d : Nat} (hd : 2 ≤ d) {P : am_S ⊕ am_O → Prop} : ∀ (k i : Nat), i + k = 4 → P (Sum.inr (mfil M t l b true, Sum.inl none)) → am_ev sh (am_cr sh d) 77 (18, [some mok, some (am_I (nI j)), some (am_I 1), some (am_I (nI t)), some (am_I (nI l)), some (am_I (nI i))], [], mcp M allp (21, 21, 0) (21, 16, 0) (4 * t + 4) (4 * l) i, 0) P := by
  intro k
  induction k with
  | zero =>
    intro i hi hP
    have : i = 4 := by omega
    subst this
    refine sg_77_18 (fun _ => sg_77_59 rfl hj ?_ hP) (fun h => absurd (nI_le (a := 4) (by omega) (by omega)) h)
    rw [mcp_else (by simp), hb]
    exact m_place hl d hd
  | succ k ih =>
    intro i hi hP
    refine sg_77_18 (fun h => absurd h (nI_ge (b := 4) (by omega) (by omega))) (fun _ => sg_77_24 (fun h => absurd h (by decide)) (fun _ => sg_77_28 (j1 := 4 * t + 4 + i) ?_ (by omega) (n4 l i) (show 4 * l + i < 1024 by omega) ?_))
    · rw [show (4 : Int32) * nI t + 4 = nI (4 * t + 4) from n4 t 4, nI_add]
    · rw [nI_1, mcp_t (Or.inl (by simp)) rfl]
      exact ih _ (by omega) hP
theorem m_fillLine {M : am_M} {j t l : Nat} (hj : j < 64) (ht : t < 4) (hl : l < 256) {b : Int32} (hjt : M (21, 25, 0) j = nI t) (hjl : M (21, 28, 0) j = nI l) (hb : M (21, 26, 0) j = b) (a : Bool) : am_cq sh 3 77 M [mok, am_I (nI j), am_I (b01 a)] (mfil M t l b a, Sum.inl none) := by
  refine am_cq_of (Nat.le_of_ble_eq_true rfl) rfl rfl (fun d hd => sg_77_0 rfl hj rfl hj ?_)
  rw [hjt, hjl]
  cases a with
  | true =>
    have h := fil_loop (sh := sh) (M := M) hj ht hl hb hd (P := fun r => r = Sum.inr (mfil M t l b true, Sum.inl none)) 4 0 rfl rfl
    rw [mcp_0] at h
    exact h
  | false =>
    refine sg_77_18 (fun h => absurd h (by decide)) (fun _ => sg_77_24 (fun _ => sg_77_59 rfl hj ?_ rfl) (fun h => absurd rfl h))
    rw [hb]
    exact m_place hl d hd
def bof (x0 : Int32) : Int32 := (((x0 &&& 1) + ((x0 >>> ((1 : Int32) &&& 31)) &&& 1)) + ((x0 >>> ((2 : Int32) &&& 31)) &&& 1)) + ((x0 >>> ((3 : Int32) &&& 31)) &&& 1)
theorem m_bitsOf {M : am_M} {x : Int32} : am_cq sh 1 84 M [am_I x] (M, Sum.inl (some (am_I (bof x)))) :=
  am_cq_of (Nat.le_of_ble_eq_true rfl) rfl rfl (fun d _ => sg_84_0 rfl)
theorem bof_bcf : ∀ m : Fin 16, bof (nI m.val) = bcf (nI m.val) := by decide +kernel
theorem mbt_bitz : ∀ m : Fin 16, ∀ k : Fin 4, mbt (nI m.val) k.val = ! decide (bitz (nI m.val) k.val) := by decide +kernel
/-- down one tier: counted, the words laid out, a write pushed -/
def mdn (M : am_M) (t j : Nat) (b mask : Int32) (k0 : am_K) (sp : Nat) : am_M := mpsh (mcp (am_up M (21, 8, 0) (6 * t + 5) (M (21, 8, 0) (6 * t + 5) + bof mask)) allp k0 (21, 22, 0) sp (4 * t + 4) 4) j 1 (nI (t + 1)) b mask 0
theorem dn_loop {M : am_M} {t j sp N : Nat} {k0 : am_K} (ht : t < 4) (hj : j < 64) (hk : am_ct sh k0 = some (Sum.inr (0, N))) (hN : sp + 4 ≤ N) (hz : N < 2147483648) (hne : ¬ k0 = (21, 22, 0) ∨ sp + 4 ≤ 4 * t + 4) (hjb : M (20, 0, 0) 23 = nI j) {b mask : Int32} {d : Nat} (hd : 1 ≤ d) {P : am_S ⊕ am_O → Prop} : ∀ (k i : Nat), i + k = 4 → P (Sum.inr (mpsh (mcp M allp k0 (21, 22, 0) sp (4 * t + 4) 4) j 1 (nI (t + 1)) b mask 0, Sum.inl none)) → am_ev sh (am_cr sh d) 83 (21, [some mok, some (am_I (nI t)), some (am_I b), some (am_I mask), some (am_R (some k0)), some (am_I (nI sp)), some (am_I (nI i))], [], mcp M allp k0 (21, 22, 0) sp (4 * t + 4) i, 0) P := by
  intro k
  induction k with
  | zero =>
    intro i hi hP
    have : i = 4 := by omega
    subst this
    refine sg_83_21 (fun _ => sg_83_54 ?_ hP) (fun h => absurd (nI_le (a := 4) (by omega) (by omega)) h)
    rw [nI_1]
    exact m_push hj (by rw [mcp_else (by simp)]; exact hjb) d hd
  | succ k ih =>
    intro i hi hP
    refine sg_83_21 (fun h => absurd h (nI_ge (b := 4) (by omega) (by omega))) (fun _ => sg_83_27 (j2 := 4 * t + 4 + i) hz (nI_add sp i) (show sp + i < N by omega) hk ?_ (by omega) ?_)
    · rw [show (4 : Int32) * nI t + 4 = nI (4 * t + 4) from n4 t 4, nI_add]
    · rw [nI_1, mcp_t (hne.imp id (fun h => Or.inl (by omega))) rfl]
      exact ih _ (by omega) hP
theorem m_goDown {M : am_M} {t j sp N : Nat} {k0 : am_K} (ht : t < 4) (hj : j < 64) (hk : am_ct sh k0 = some (Sum.inr (0, N))) (hN : sp + 4 ≤ N) (hz : N < 2147483648) (hne : ¬ k0 = (21, 22, 0) ∨ sp + 4 ≤ 4 * t + 4) (hjb : M (20, 0, 0) 23 = nI j) {b mask : Int32} : am_cq sh 2 83 M [mok, am_I (nI t), am_I b, am_I mask, am_R (some k0), am_I (nI sp)] (mdn M t j b mask k0 sp, Sum.inl none) := by
  refine am_cq_of (Nat.le_of_ble_eq_true rfl) rfl rfl (fun d hd => sg_83_0 (j1 := 6 * t + 5) (n6 t 5) (by omega) (m_bitsOf d hd) ?_)
  have h := dn_loop (sh := sh) (M := am_up M (21, 8, 0) (6 * t + 5) (M (21, 8, 0) (6 * t + 5) + bof mask)) (t := t) (j := j) (sp := sp) (b := b) (mask := mask) ht hj hk hN hz hne (by rw [am_up_k (by simp)]; exact hjb) hd (P := fun r => r = Sum.inr (mdn M t j b mask k0 sp, Sum.inl none)) 4 0 rfl rfl
  rw [mcp_0] at h
  exact h
theorem sto_loop {M : am_M} {b h : Nat} (hb : b < 256) (hh : h < 5) (htc : M (20, 0, 0) 1 = nI h) {mask : Int32} {d : Nat} {P : am_S ⊕ am_O → Prop} : ∀ (k i : Nat), i + k = 4 → P (Sum.inr (am_up (mcp M (mbt mask) (21, 22, 0) (21, 18, 0) (4 * h) (4 * b) 4) (20, 0, 0) 23 (M (20, 0, 0) 23 - 1), Sum.inl none)) → am_ev sh (am_cr sh d) 80 (12, [some mok, some (am_I (nI b)), some (am_I mask), some (am_I (nI i))], [], mcp M (mbt mask) (21, 22, 0) (21, 18, 0) (4 * h) (4 * b) i, 0) P := by
  intro k
  induction k with
  | zero =>
    intro i hi hP
    have : i = 4 := by omega
    subst this
    refine sg_80_12 (fun _ => sg_80_68 ?_) (fun h => absurd (nI_le (a := 4) (by omega) (by omega)) h)
    rw [mcp_else (k' := (20, 0, 0)) (by simp)]
    exact hP
  | succ k ih =>
    intro i hi hP
    have e4 : (4 : Int32) * nI b + nI i = nI (4 * b + i) := n4 b i
    refine sg_80_12 (fun h => absurd h (nI_ge (b := 4) (by omega) (by omega))) (fun _ => sg_80_17 (fun q => ?_) (fun q => ?_))
    · refine sg_80_51 (n4 b i) (show 4 * b + i < 1024 by omega) (sg_80_61 (by decide) e4 (show 4 * b + i < 1024 by omega) rfl ?_)
      rw [nI_1, am_up_id, mcp_f (decide_eq_false q)]
      exact ih _ (by omega) hP
    · refine sg_80_35 (j1 := 4 * h + i) (by rw [mcp_else (by simp), htc]; exact n4 h i) (by omega) (sg_80_61 (by decide) e4 (show 4 * b + i < 1024 by omega) rfl ?_)
      rw [nI_1, mcp_t (Or.inl (by simp)) (decide_eq_true q)]
      exact ih _ (by omega) hP
def msto (M : am_M) (b h : Nat) (mask : Int32) : am_M := am_up (mcp (am_up M (20, 0, 0) 20 (M (20, 0, 0) 20 + 1)) (mbt mask) (21, 22, 0) (21, 18, 0) (4 * h) (4 * b) 4) (20, 0, 0) 23 (M (20, 0, 0) 23 - 1)
theorem m_storeWords {M : am_M} {b h : Nat} (hb : b < 256) (hh : h < 5) (htc : M (20, 0, 0) 1 = nI h) {mask : Int32} : am_cq sh 1 80 M [mok, am_I (nI b), am_I mask] (msto M b h mask, Sum.inl none) := by
  refine am_cq_of (Nat.le_of_ble_eq_true rfl) rfl rfl (fun d hd => sg_80_0 ?_)
  have hl := sto_loop (sh := sh) (M := am_up M (20, 0, 0) 20 (M (20, 0, 0) 20 + 1)) hb hh (by rw [am_up_j (by decide)]; exact htc) (mask := mask) (d := d) (P := fun r => r = Sum.inr (msto M b h mask, Sum.inl none)) 4 0 rfl (by unfold msto; rw [am_up_j (by decide)])
  rw [mcp_0] at hl
  exact hl
theorem wat_loop {M : am_M} {h : Nat} (hh : h < 5) (htc : M (20, 0, 0) 1 = nI h) {x1 : Int32} {d : Nat} {P : am_S ⊕ am_O → Prop} : ∀ (k u : Nat) (a : Bool), u + k = h ∨ (k = 0 ∧ h ≤ u ∧ u < 10) → P (Sum.inr (M, Sum.inl (some (am_I (b01 (a || (ff (fun u => decide (¬ M (21, 7, 0) u = 0)) u k).isSome)))))) → am_ev sh (am_cr sh d) 82 (6, [some mok, some (am_I x1), some (am_I (b01 a)), some (am_I (nI u))], [], M, 0) P := by
  intro k
  induction k with
  | zero =>
    intro u a hu hP
    refine sg_82_6 (fun _ => sg_82_39 (b01_of a) ?_) (fun q => absurd ?_ q)
    · rw [show (a || (ff (fun u => decide (¬ M (21, 7, 0) u = 0)) u 0).isSome) = a from Bool.or_false a] at hP
      exact hP
    · rw [htc]; exact nI_le (by omega) (by omega)
  | succ k ih =>
    intro u a hu hP
    refine sg_82_6 (fun q => ?_) (fun _ => ?_)
    · rw [htc] at q; exact absurd q (nI_ge (by omega) (by omega))
    · unfold ff at hP
      refine sg_82_14 (fun q => sg_82_27 (sg_82_32 ?_)) (fun q => sg_82_18 rfl (show u < 4 by omega) (fun q2 => sg_82_31 (sg_82_32 ?_)) (fun q2 => sg_82_27 (sg_82_32 ?_)))
      · rw [nI_1]
        have ha : a = true := by cases a with
          | true => rfl
          | false => exact absurd rfl q
        subst ha
        refine ih (u + 1) true (by omega) ?_
        rw [Bool.true_or] at hP ⊢
        exact hP
      · rw [nI_1]
        have ha : a = false := by cases a with
          | true => exact absurd q (by decide)
          | false => rfl
        subst ha
        rw [if_neg (by simpa using q2)] at hP
        exact ih (u + 1) false (by omega) hP
      · rw [nI_1]
        rw [if_pos (by simpa using q2)] at hP
        refine ih (u + 1) true (by omega) ?_
        rw [show (some u).isSome = true from rfl, Bool.or_true] at hP
        rw [Bool.true_or]
        exact hP
theorem m_isWatched {M : am_M} {h t : Nat} (hh : h < 5) (ht : t < h) (htc : M (20, 0, 0) 1 = nI h) : am_cq sh 1 82 M [mok, am_I (nI t)] (M, Sum.inl (some (am_I (b01 (ff (fun u => decide (¬ M (21, 7, 0) u = 0)) (t + 1) (h - (t + 1))).isSome)))) := by
  refine am_cq_of (Nat.le_of_ble_eq_true rfl) rfl rfl (fun d hd => sg_82_0 ?_)
  rw [nI_1]
  exact wat_loop hh htc (h - (t + 1)) (t + 1) false (by omega) rfl
end QMq
