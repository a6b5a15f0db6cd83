-- what the reference's jobs leave alone
section UF
variable {sh : am_Sh} {c : Nat} {q : Nat × Nat × Nat} {X M M' M'' : am_M} {t j : Nat}
def wkr (sh : am_Sh) (M M' : am_M) : Prop := ∀ d P, 5 ≤ d → wk sh d P M' → wk sh d P M
theorem wkr_refl : wkr sh M M := fun _ _ _ h => h
theorem wkr_trans (h : wkr sh M M') (h' : wkr sh M' M'') : wkr sh M M'' := fun d P hd k => h d P hd (h' d P hd k)
/-- cells that a job at tier t, the j-th, leaves alone -/
def mun (t j : Nat) (k : am_K) (i : Nat) : Prop := (k = (21, 21, 0) ∧ i < 4 * t) ∨ (k = (21, 22, 0) ∧ i < 4 * t + 4) ∨ (∃ a, k = (21, a, 0) ∧ 24 ≤ a ∧ a ≤ 29 ∧ i < j) ∨ (k = (20, 0, 0) ∧ i = 0) ∨ k = (21, 30, 0) ∨ (¬ k.1 = 20 ∧ ¬ k.1 = 21)
def mfm (t j : Nat) (M M' : am_M) : Prop := ∀ k i, mun t j k i → M' k i = M k i
theorem mfm_refl : mfm t j M M := fun _ _ _ => rfl
theorem mfm_trans (h : mfm t j M M') (h' : mfm t j M' M'') : mfm t j M M'' := fun k i u => (h' k i u).trans (h k i u)
theorem mfm_dn {t' j' : Nat} (h : mfm t' j' M M') (ht : t ≤ t') (hj : j ≤ j') : mfm t j M M' := by
  intro k i u
  refine h k i ?_
  rcases u with ⟨a, b⟩ | ⟨a, b⟩ | ⟨a, b, c, d, e⟩ | u | u | u
  · exact Or.inl ⟨a, by omega⟩
  · exact Or.inr (Or.inl ⟨a, by omega⟩)
  · exact Or.inr (Or.inr (Or.inl ⟨a, b, c, d, by omega⟩))
  · exact Or.inr (Or.inr (Or.inr (Or.inl u)))
  · exact Or.inr (Or.inr (Or.inr (Or.inr (Or.inl u))))
  · exact Or.inr (Or.inr (Or.inr (Or.inr (Or.inr u))))
theorem mun21 {a i : Nat} (ha : a < 21 ∨ a = 23 ∨ 31 ≤ a) : ¬ mun t j (21, a, 0) i := by
  unfold mun
  simp
  refine ⟨fun e => by omega, fun e => by omega, fun e1 e2 => by omega, by omega⟩
theorem munJ {a i : Nat} (ha : 24 ≤ a ∧ a ≤ 29) (hi : j ≤ i) : ¬ mun t j (21, a, 0) i := by
  unfold mun
  simp
  refine ⟨fun e => by omega, fun e => by omega, fun e1 e2 => by omega, by omega⟩
theorem mun20 {i : Nat} (hi : ¬ i = 0) : ¬ mun t j (20, 0, 0) i := by
  unfold mun
  simp
  exact hi
theorem munA {i : Nat} (hi : 4 * t ≤ i) : ¬ mun t j (21, 21, 0) i := by
  unfold mun
  simp
  omega
theorem munW {i : Nat} (hi : 4 * t + 4 ≤ i) : ¬ mun t j (21, 22, 0) i := by
  unfold mun
  simp
  omega
theorem mfm_up {k : am_K} {i : Nat} {v : Int32} (h : ¬ mun t j k i) : mfm t j M (am_up M k i v) := fun k' i' u => am_up_n (fun e => h (by rw [← e.1, ← e.2]; exact u))
theorem mfm_mcp {p : Nat → Bool} {k0 k1 : am_K} {sp dp n : Nat} (h : ∀ i, dp ≤ i → i < dp + n → ¬ mun t j k1 i) : mfm t j M (mcp M p k0 k1 sp dp n) := by
  intro k i u
  unfold mcp
  exact if_neg (fun e => h i e.2.1 e.2.2.1 (by rw [← e.1]; exact u))
theorem mpsh_else {k : am_K} {i : Nat} {x1 x2 x3 x4 x5 : Int32} (h : ¬ (k = (20, 0, 0) ∧ i = 23)) (h' : ∀ a, 24 ≤ a → a ≤ 29 → ¬ (k = (21, a, 0) ∧ i = j)) : mpsh M j x1 x2 x3 x4 x5 k i = M k i := by
  unfold mpsh
  rw [am_up_n h, am_up_n (h' 29 (by omega) (by omega)), am_up_n (h' 28 (by omega) (by omega)), am_up_n (h' 27 (by omega) (by omega)), am_up_n (h' 26 (by omega) (by omega)), am_up_n (h' 25 (by omega) (by omega)), am_up_n (h' 24 (by omega) (by omega))]
theorem mpsh_top {x1 x2 x3 x4 x5 : Int32} : mpsh M j x1 x2 x3 x4 x5 (20, 0, 0) 23 = nI (j + 1) ∧ mpsh M j x1 x2 x3 x4 x5 (21, 24, 0) j = x1 ∧ mpsh M j x1 x2 x3 x4 x5 (21, 25, 0) j = x2 ∧ mpsh M j x1 x2 x3 x4 x5 (21, 26, 0) j = x3 ∧ mpsh M j x1 x2 x3 x4 x5 (21, 27, 0) j = x4 ∧ mpsh M j x1 x2 x3 x4 x5 (21, 28, 0) j = x5 ∧ mpsh M j x1 x2 x3 x4 x5 (21, 29, 0) j = 0 := by
  unfold mpsh
  simp [am_up_a]
theorem mfm_psh {j' : Nat} (hj : j ≤ j') {x1 x2 x3 x4 x5 : Int32} : mfm t j M (mpsh M j' x1 x2 x3 x4 x5) := by
  intro k i u
  refine mpsh_else (fun e => ?_) (fun a h1 h2 e => ?_)
  · rw [e.1, e.2] at u; exact mun20 (by decide) u
  · rw [e.1, e.2] at u; exact munJ ⟨h1, h2⟩ hj u
theorem mpsh_job {j' i a : Nat} {x1 x2 x3 x4 x5 : Int32} (hi : ¬ i = j') : mpsh M j' x1 x2 x3 x4 x5 (21, a, 0) i = M (21, a, 0) i := mpsh_else (by simp) (fun _ _ _ e => hi e.2)
theorem mv_no20 {i : Nat} (hi : i = 0 ∨ i = 23) : ¬ mvis (20, 0, 0) i := by unfold mvis; simp; omega
theorem mv_no21 {a i : Nat} (ha : a = 17 ∨ 19 ≤ a) : ¬ mvis (21, a, 0) i := by unfold mvis; simp; omega
theorem rel_up (h : rel sh c q X M) {k : am_K} {i : Nat} {v : Int32} (hn : ¬ mvis k i) : rel sh c q X (am_up M k i v) := rel_M h (fun k' i' u => am_up_n (fun e => hn (by rw [← e.1, ← e.2]; exact u)))
theorem rel_mcp (h : rel sh c q X M) {p : Nat → Bool} {k0 : am_K} {a sp dp n : Nat} (ha : a = 17 ∨ 19 ≤ a) : rel sh c q X (mcp M p k0 (21, a, 0) sp dp n) := by
  refine rel_M h (fun k i u => mcp_else (fun e => ?_))
  rw [e] at u
  exact mv_no21 ha u
theorem rel_psh (h : rel sh c q X M) {x1 x2 x3 x4 x5 : Int32} : rel sh c q X (mpsh M j x1 x2 x3 x4 x5) := by
  refine rel_M h (fun k i u => mpsh_else (fun e => ?_) (fun a h1 h2 e => ?_))
  · rw [e.1, e.2] at u; exact mv_no20 (Or.inr rfl) u
  · rw [e.1] at u; exact mv_no21 (by omega) u
theorem mmv_else {s y : Nat} {k : am_K} {i : Nat} (h15 : ¬ k = (21, 15, 0)) (h9 : ¬ k = (21, 9, 0)) : ∀ (n : Nat) (M : am_M) (a : Nat), mmv t s y n M a k i = M k i := by
  intro n
  induction n with
  | zero => exact fun _ _ => rfl
  | succ n ih =>
    intro M a
    unfold mmv
    split
    · exact am_up_k h9
    · rw [ih, am_up_k h9, am_up_k h15]
theorem mchs_else {s y a : Nat} {k : am_K} {i : Nat} (h15 : ¬ k = (21, 15, 0)) (h9 : ¬ k = (21, 9, 0)) : mchs M t s y a k i = M k i := by
  unfold mchs
  split
  · exact mmv_else h15 h9 _ _ _
  · rfl
theorem mfm_chs {s y a : Nat} : mfm t j M (mchs M t s y a) := by
  intro k i u
  refine mchs_else (fun e => ?_) (fun e => ?_) <;> (rw [e] at u; exact mun21 (by omega) u)
theorem mfm_use {l : Nat} : mfm t j M (muse M l) := by
  intro k i u
  refine muse_else (fun a h1 h2 e => ?_) (fun e => ?_)
  · rw [e.1] at u; exact mun21 (by omega) u
  · rw [e.1, e.2] at u; exact mun20 (by decide) u
theorem mfm_plc {l : Nat} {v : Int32} : mfm t j M (mplc M l v) := by
  intro k i u
  refine mplc_else (fun a h1 h2 e => ?_) (fun e => ?_)
  · rw [e.1] at u; exact mun21 (by omega) u
  · rw [e.1, e.2] at u; exact mun20 (by decide) u
theorem mfm_gt (h : mgf M M') : mfm t j M M' := by
  intro k i u
  refine h k i (fun e => ?_) (fun e => ?_) (fun e => ?_) <;> (rw [e] at u; exact mun21 (by omega) u)
theorem mfm_pop : mfm t j M (mpop M) := mfm_up (mun20 (by decide))
theorem mfm_cn {i : Nat} : mfm t j M (mcn M i) := mfm_up (mun21 (by omega))
def KK : Nat → Nat
  | 0 => 0
  | n + 1 => 3 * KK n + 1
/-- a write at tier t: reference and class -/
def SW (sh : am_Sh) (t n : Nat) (wr : Wr) : Prop := ∀ (c : Nat) (X M : am_M) (j b m : Nat) (key : am_K), II sh X → chk sh X → rel sh c nol X M → b < 256 → m < 16 → okk sh key → kup t key → (∀ k, k < 4 → M (21, 22, 0) (4 * t + k) = X key k) → j + 2 * n + 2 ≤ 64 → c + KK n < 2 ^ 31 → M (20, 0, 0) 23 = nI (j + 1) → M (21, 24, 0) j = 1 → M (21, 25, 0) j = nI t → M (21, 26, 0) j = nI b → M (21, 27, 0) j = nI m → M (21, 29, 0) j = 0 →
  ∃ c' M', wkr sh M M' ∧ rel sh c' nol (wr b (nI m) key X) M' ∧ c' ≤ c + KK n ∧ M' (20, 0, 0) 23 = nI j ∧ mfm t j M M'
/-- the words' place is no line that is there -/
def kab (sh : am_Sh) (X : am_M) (key : am_K) : Prop := ∀ t s w, t < sh.1 → s < zs sh t → w < wy sh t → key = (10, t, ci sh t s w) → X (9, t, ci sh t s w) 1 = -1
def SR (sh : am_Sh) (t n : Nat) (rd : Rd) : Prop := ∀ (c : Nat) (X M : am_M) (j b : Nat) (key : am_K), II sh X → chk sh X → rel sh c nol X M → b < 256 → okk sh key → kup t key → kab sh X key → j + 2 * n + 2 ≤ 64 → c + KK n < 2 ^ 31 → M (20, 0, 0) 23 = nI (j + 1) → M (21, 24, 0) j = 0 → M (21, 25, 0) j = nI t → M (21, 26, 0) j = nI b → M (21, 29, 0) j = 0 →
  ∃ c' M', wkr sh M M' ∧ rel sh c' nol (rd b key X) M' ∧ c' ≤ c + KK n ∧ M' (20, 0, 0) 23 = nI j ∧ mfm t j M M' ∧ ∀ k, k < 4 → M' (21, 21, 0) (4 * t + k) = rd b key X key k
theorem chk_of {X' : am_M} (h : chk sh X) (e : ∀ t, X' (5, t, 0) 2 = X (5, t, 0) 2) : chk sh X' := fun t ht => by rw [e]; exact h t ht
theorem chk_cfr {X' : am_M} {key : am_K} (hk : ¬ key.1 = 5) (h : chk sh X) (f : cfr t key X X') : chk sh X' := chk_of h (fun u => f.1 _ _ (by unfold unch; simp) (fun e => hk (by rw [← e])))
end UF
