-- one step of the abstract machine is a step of the machine
def am_Cx (Ω : am_Ω) (d m : Nat) (p : Program) (e : Env) (R : Room) (s : State) (mid : MethodId) (args : Array Value) (meth : Method) (c : Code) : Prop :=
  CallFix p mid c (am_b m) (am_mL m) s args am_ws (am_y m).cls ∧ va_K (am_D Ω) am_cl (am_tys Ω) s ∧ meth.sig.returnType = am_rt m ∧ meth.locks = false ∧ c.exceptionTable.toList.map (fun h => (h.startPc, h.endPc, h.handlerPc, h.catchType)) = am_hh m ∧ am_in Ω ∧ (d + 8 ≤ R.frames ∧ 64 * d + 300 ≤ R.locals ∧ am_bud m ≤ R.cells ∧ 6 * am_bud m ≤ R.slots) ∧ e.platform.stackTraces = false ∧ am_env Ω s
def am_nx (Ω : am_Ω) (m : Nat) (p : Program) (l : Launch) (e : Env) (R : Room) (s : State) (mid : MethodId) (args : Array Value) (below : List Frame) (meth : Method) (c : Code) (Q : State → Prop) (σ : am_S) : Prop :=
  ∀ (H : Heap) (locs : List Loc) (ls : Array Slot), am_lv Ω (am_mL m) ls σ.2.1 → va_P (am_D Ω) am_cl (am_w Ω σ.2.2.2.1) H → va_S (am_A Ω s.heap.size) s.heap H locs → am_sc Ω σ.2.2.2.1 s → W p l e R s mid args below meth c H locs σ.2.2.2.2 (6 * σ.2.2.2.2) Q (F0 mid σ.1 ls (σ.2.2.1.map (am_c (am_ad Ω))))
theorem am_sc_up {Ω : am_Ω} {M : am_M} {s : State} {k : am_K} {c : Nat ⊕ (Nat × Nat)} (h : am_sc Ω M s) (hk : am_ct (am_sh Ω) k = some c) (hc : ∀ N, c ≠ Sum.inr (5, N)) (j : Nat) (v : Int32) : am_sc Ω (am_up M k j v) s := by
  intro k' N hk'
  have hne : k' ≠ k := fun q => by
    subst q
    rw [hk] at hk'
    exact hc N (Option.some.inj hk')
  rw [am_up_ne M j v hne]
  exact h k' N hk'
theorem am_sc_cp {Ω : am_Ω} {M : am_M} {s : State} {k0 k : am_K} {N : Nat} (h : am_sc Ω M s) (hk : am_ct (am_sh Ω) k = some (Sum.inr (0, N))) (a b n : Nat) : am_sc Ω (am_cp M k0 k a b n) s := by
  intro k' N' hk'
  have hne : k' ≠ k := fun q => by
    subst q
    rw [hk] at hk'
    cases hk'
  rw [am_cp_ne M a b n hne]
  exact h k' N' hk'
section STP
variable {Ω : am_Ω} {d m : Nat} {p : Program} {l : Launch} {e : Env} {R : Room} {s : State} {mid : MethodId} {args : Array Value} {below : List Frame} {meth : Method} {c : Code} {Q : State → Prop} {pc len n : Nat} {L : am_Ls} {S : List am_V} {M : am_M} {σ : am_S}
theorem am_s_ps (hC : am_Cx Ω d m p e R s mid args meth c) {w : Nat} {v : am_V} (row : ∀ (H : Heap) (locs : List Loc) (ls : Array Slot) (rest : List Value), W p l e R s mid args below meth c H locs n (6 * n) Q (F0 mid (pc + w) ls (am_c (am_ad Ω) v :: rest)) → W p l e R s mid args below meth c H locs n (6 * n) Q (F0 mid pc ls rest)) (h : am_ps w len v pc L S M n = some σ) (kk : am_nx Ω m p l e R s mid args below meth c Q σ) : am_nx Ω m p l e R s mid args below meth c Q (pc, L, S, M, n) := by
  obtain ⟨rfl, hr⟩ := am_ps_inv h
  cases hr
  intro H locs ls hl hP hS hs
  exact row H locs ls _ (kk H locs ls hl hP hS hs)
theorem am_s_ldi (hC : am_Cx Ω d m p e R s mid args meth c) {w k : Nat} (row : ∀ (H : Heap) (locs : List Loc) (ls : Array Slot) (rest : List Value) (x : Int32), ls[k]? = some (.val (.int x)) → W p l e R s mid args below meth c H locs n (6 * n) Q (F0 mid (pc + w) ls (.int x :: rest)) → W p l e R s mid args below meth c H locs n (6 * n) Q (F0 mid pc ls rest)) (h : am_ldi w len k pc L S M n = some σ) (kk : am_nx Ω m p l e R s mid args below meth c Q σ) : am_nx Ω m p l e R s mid args below meth c Q (pc, L, S, M, n) := by
  obtain ⟨x, rfl, hx, hr⟩ := am_ldi_inv h
  cases hr
  intro H locs ls hl hP hS hs
  exact row H locs ls _ x (hl.2.2.2.2 k _ hx) (kk H locs ls hl hP hS hs)
theorem am_s_lda (hC : am_Cx Ω d m p e R s mid args meth c) {w k : Nat} (row : ∀ (H : Heap) (locs : List Loc) (ls : Array Slot) (rest : List Value) (x : Nat), ls[k]? = some (.val (.ref x)) → W p l e R s mid args below meth c H locs n (6 * n) Q (F0 mid (pc + w) ls (.ref x :: rest)) → W p l e R s mid args below meth c H locs n (6 * n) Q (F0 mid pc ls rest)) (rowN : ∀ (H : Heap) (locs : List Loc) (ls : Array Slot) (rest : List Value), ls[k]? = some (.val .null) → W p l e R s mid args below meth c H locs n (6 * n) Q (F0 mid (pc + w) ls (.null :: rest)) → W p l e R s mid args below meth c H locs n (6 * n) Q (F0 mid pc ls rest)) (h : am_lda w len k pc L S M n = some σ) (kk : am_nx Ω m p l e R s mid args below meth c Q σ) : am_nx Ω m p l e R s mid args below meth c Q (pc, L, S, M, n) := by
  obtain ⟨x, rfl, hx, hr⟩ := am_lda_inv h
  cases hr
  intro H locs ls hl hP hS hs
  have h1 := hl.2.2.2.2 k _ hx
  have h2 := kk H locs ls hl hP hS hs
  match x, h1, h2 with
  | .inl none, h1, h2 => exact rowN H locs ls _ h1 h2
  | .inl (some y), h1, h2 => exact row H locs ls _ _ h1 h2
  | .inr a, h1, h2 => exact row H locs ls _ _ h1 h2
theorem am_s_sti (hC : am_Cx Ω d m p e R s mid args meth c) {w k : Nat} (row : ∀ (H : Heap) (locs : List Loc) (ls : Array Slot) (rest : List Value) (x : Int32) (lv : List (Nat × Value)), lv_has ls (am_mL m) lv → k < am_mL m → (∀ ls' : Array Slot, lv_has ls' (am_mL m) ((k, Value.int x) :: lv.filter (fun q => !(q.1 == k) && !(q.1 + 1 == k && q.2.category == 2))) → W p l e R s mid args below meth c H locs n (6 * n) Q (F0 mid (pc + w) ls' rest)) → W p l e R s mid args below meth c H locs n (6 * n) Q (F0 mid pc ls (.int x :: rest))) (h : am_sti w len k pc L S M n = some σ) (kk : am_nx Ω m p l e R s mid args below meth c Q σ) : am_nx Ω m p l e R s mid args below meth c Q (pc, L, S, M, n) := by
  obtain ⟨x, S', rfl, rfl, hk, hr⟩ := am_sti_inv h
  cases hr
  intro H locs ls hl hP hS hs
  exact row H locs ls _ x _ (am_lv_has hl) (by rw [← hl.2.1]; exact hk) (fun ls' h' => kk H locs ls' (am_lv_set (v := am_I x) hl hk rfl h') hP hS hs)
theorem am_s_sta (hC : am_Cx Ω d m p e R s mid args meth c) {w k : Nat} (row : ∀ (H : Heap) (locs : List Loc) (ls : Array Slot) (rest : List Value) (x : Nat) (lv : List (Nat × Value)), lv_has ls (am_mL m) lv → k < am_mL m → (∀ ls' : Array Slot, lv_has ls' (am_mL m) ((k, Value.ref x) :: lv.filter (fun q => !(q.1 == k) && !(q.1 + 1 == k && q.2.category == 2))) → W p l e R s mid args below meth c H locs n (6 * n) Q (F0 mid (pc + w) ls' rest)) → W p l e R s mid args below meth c H locs n (6 * n) Q (F0 mid pc ls (.ref x :: rest))) (rowN : ∀ (H : Heap) (locs : List Loc) (ls : Array Slot) (rest : List Value) (lv : List (Nat × Value)), lv_has ls (am_mL m) lv → k < am_mL m → (∀ ls' : Array Slot, lv_has ls' (am_mL m) ((k, Value.null) :: lv.filter (fun q => !(q.1 == k) && !(q.1 + 1 == k && q.2.category == 2))) → W p l e R s mid args below meth c H locs n (6 * n) Q (F0 mid (pc + w) ls' rest)) → W p l e R s mid args below meth c H locs n (6 * n) Q (F0 mid pc ls (.null :: rest))) (h : am_sta w len k pc L S M n = some σ) (kk : am_nx Ω m p l e R s mid args below meth c Q σ) : am_nx Ω m p l e R s mid args below meth c Q (pc, L, S, M, n) := by
  obtain ⟨x, S', rfl, rfl, hk, hr⟩ := am_sta_inv h
  cases hr
  intro H locs ls hl hP hS hs
  have hk' : k < am_mL m := by rw [← hl.2.1]; exact hk
  match x, kk with
  | .inl none, kk => exact rowN H locs ls _ _ (am_lv_has hl) hk' (fun ls' h' => kk H locs ls' (am_lv_set (v := am_R none) hl hk rfl h') hP hS hs)
  | .inl (some y), kk => exact row H locs ls _ _ _ (am_lv_has hl) hk' (fun ls' h' => kk H locs ls' (am_lv_set (v := am_R (some y)) hl hk rfl h') hP hS hs)
  | .inr a, kk => exact row H locs ls _ _ _ (am_lv_has hl) hk' (fun ls' h' => kk H locs ls' (am_lv_set (v := am_X a) hl hk rfl h') hP hS hs)
theorem am_s_inc (hC : am_Cx Ω d m p e R s mid args meth c) {k : Nat} {i : Int} (hd : decode (am_b m) pc = .ok (.iinc k i, len)) (h : am_inc k i len pc L S M n = some σ) (kk : am_nx Ω m p l e R s mid args below meth c Q σ) : am_nx Ω m p l e R s mid args below meth c Q (pc, L, S, M, n) := by
  obtain ⟨x, rfl, hx, hr⟩ := am_inc_inv h
  cases hr
  intro H locs ls hl hP hS hs
  have hk : k < L.length := (List.getElem?_eq_some_iff.mp hx).1
  obtain ⟨q, hq⟩ := List.getElem?_of_mem (am_as_mem (Ω := Ω).mpr ⟨am_I x, hx, rfl⟩)
  exact lv_iinc hC.1.1 hC.1.2.1 hd (am_lv_has hl) hq rfl (by rw [← hl.2.1]; exact hk) rfl (fun ls' h' => kk H locs ls' (am_lv_set (v := am_I (x + Int32.ofInt i)) hl hk rfl h') hP hS hs)
theorem am_s_bin (hC : am_Cx Ω d m p e R s mid args meth c) {f : Int32 → Int32 → Int32} (row : ∀ (H : Heap) (locs : List Loc) (ls : Array Slot) (rest : List Value) (x y : Int32), len = 1 → W p l e R s mid args below meth c H locs n (6 * n) Q (F0 mid (pc + 1) ls (.int (f x y) :: rest)) → W p l e R s mid args below meth c H locs n (6 * n) Q (F0 mid pc ls (.int y :: .int x :: rest))) (h : am_bin f len pc L S M n = some σ) (kk : am_nx Ω m p l e R s mid args below meth c Q σ) : am_nx Ω m p l e R s mid args below meth c Q (pc, L, S, M, n) := by
  obtain ⟨x, y, S', rfl, hl1, hr⟩ := am_bin_inv h
  cases hr
  intro H locs ls hl hP hS hs
  exact row H locs ls _ x y hl1 (kk H locs ls hl hP hS hs)
theorem am_s_div (hC : am_Cx Ω d m p e R s mid args meth c) {f : Int32 → Int32 → Int32} (row : ∀ (H : Heap) (locs : List Loc) (ls : Array Slot) (rest : List Value) (x y : Int32), len = 1 → ¬ y = 0 → W p l e R s mid args below meth c H locs n (6 * n) Q (F0 mid (pc + 1) ls (.int (f x y) :: rest)) → W p l e R s mid args below meth c H locs n (6 * n) Q (F0 mid pc ls (.int y :: .int x :: rest))) (h : am_div f len pc L S M n = some σ) (kk : am_nx Ω m p l e R s mid args below meth c Q σ) : am_nx Ω m p l e R s mid args below meth c Q (pc, L, S, M, n) := by
  obtain ⟨x, y, S', rfl, hl1, hy, hr⟩ := am_div_inv h
  cases hr
  intro H locs ls hl hP hS hs
  exact row H locs ls _ x y hl1 hy (kk H locs ls hl hP hS hs)
theorem am_s_un (hC : am_Cx Ω d m p e R s mid args meth c) {f : Int32 → am_V} (row : ∀ (H : Heap) (locs : List Loc) (ls : Array Slot) (rest : List Value) (x : Int32), len = 1 → W p l e R s mid args below meth c H locs n (6 * n) Q (F0 mid (pc + 1) ls (am_c (am_ad Ω) (f x) :: rest)) → W p l e R s mid args below meth c H locs n (6 * n) Q (F0 mid pc ls (.int x :: rest))) (h : am_un f len pc L S M n = some σ) (kk : am_nx Ω m p l e R s mid args below meth c Q σ) : am_nx Ω m p l e R s mid args below meth c Q (pc, L, S, M, n) := by
  obtain ⟨x, S', rfl, hl1, hr⟩ := am_un_inv h
  cases hr
  intro H locs ls hl hP hS hs
  exact row H locs ls _ x hl1 (kk H locs ls hl hP hS hs)
theorem am_s_lc (hC : am_Cx Ω d m p e R s mid args meth c) (hd : decode (am_b m) pc = .ok (.lcmp, len)) (h : am_lc len pc L S M n = some σ) (kk : am_nx Ω m p l e R s mid args below meth c Q σ) : am_nx Ω m p l e R s mid args below meth c Q (pc, L, S, M, n) := by
  obtain ⟨x, y, S', rfl, rfl, hr⟩ := am_lc_inv h
  cases hr
  intro H locs ls hl hP hS hs
  exact W.lcmp hC.1.1 hC.1.2.1 hd (kk H locs ls hl hP hS hs)
theorem am_s_dup (hC : am_Cx Ω d m p e R s mid args meth c) (hd : decode (am_b m) pc = .ok (.dup, len)) (h : am_dup len pc L S M n = some σ) (kk : am_nx Ω m p l e R s mid args below meth c Q σ) : am_nx Ω m p l e R s mid args below meth c Q (pc, L, S, M, n) := by
  obtain ⟨v, S', rfl, rfl, hv, hr⟩ := am_dup_inv h
  cases hr
  intro H locs ls hl hP hS hs
  exact lv_dup hC.1.1 hC.1.2.1 hd (am_c_cat hv) (kk H locs ls hl hP hS hs)
theorem am_s_pop (hC : am_Cx Ω d m p e R s mid args meth c) (hd : decode (am_b m) pc = .ok (.pop, len)) (h : am_pop len pc L S M n = some σ) (kk : am_nx Ω m p l e R s mid args below meth c Q σ) : am_nx Ω m p l e R s mid args below meth c Q (pc, L, S, M, n) := by
  obtain ⟨v, S', rfl, rfl, hv, hr⟩ := am_pop_inv h
  cases hr
  intro H locs ls hl hP hS hs
  exact lv_pop hC.1.1 hC.1.2.1 hd (am_c_cat hv) (kk H locs ls hl hP hS hs)
theorem am_s_dx1 (hC : am_Cx Ω d m p e R s mid args meth c) (hd : decode (am_b m) pc = .ok (.dup_x1, len)) (h : am_dx1 len pc L S M n = some σ) (kk : am_nx Ω m p l e R s mid args below meth c Q σ) : am_nx Ω m p l e R s mid args below meth c Q (pc, L, S, M, n) := by
  obtain ⟨v, w, S', rfl, rfl, hv, hw, hr⟩ := am_dx1_inv h
  cases hr
  intro H locs ls hl hP hS hs
  exact lv_dup_x1 hC.1.1 hC.1.2.1 hd (am_c_cat hv) (am_c_cat hw) (kk H locs ls hl hP hS hs)
theorem am_s_dx2 (hC : am_Cx Ω d m p e R s mid args meth c) (hd : decode (am_b m) pc = .ok (.dup_x2, len)) (h : am_dx2 len pc L S M n = some σ) (kk : am_nx Ω m p l e R s mid args below meth c Q σ) : am_nx Ω m p l e R s mid args below meth c Q (pc, L, S, M, n) := by
  obtain ⟨v, w, u, S', rfl, rfl, hv, hw, hu, hr⟩ := am_dx2_inv h
  cases hr
  intro H locs ls hl hP hS hs
  exact lv_dup_x2 hC.1.1 hC.1.2.1 hd (am_c_cat hv) (am_c_cat hw) (am_c_cat hu) (kk H locs ls hl hP hS hs)
theorem am_s_d2 (hC : am_Cx Ω d m p e R s mid args meth c) (hd : decode (am_b m) pc = .ok (.dup2, len)) (h : am_d2 len pc L S M n = some σ) (kk : am_nx Ω m p l e R s mid args below meth c Q σ) : am_nx Ω m p l e R s mid args below meth c Q (pc, L, S, M, n) := by
  obtain ⟨v, w, S', rfl, rfl, hv, hw, hr⟩ := am_d2_inv h
  cases hr
  intro H locs ls hl hP hS hs
  exact lv_dup2_11 hC.1.1 hC.1.2.1 hd (am_c_cat hv) (am_c_cat hw) (kk H locs ls hl hP hS hs)
theorem am_s_goto (hC : am_Cx Ω d m p e R s mid args meth c) {off : Int} (hd : decode (am_b m) pc = .ok (.goto off, len)) (h : (if len = 3 then am_jmp off pc L S M n else none) = some σ) (kk : am_nx Ω m p l e R s mid args below meth c Q σ) : am_nx Ω m p l e R s mid args below meth c Q (pc, L, S, M, n) := by
  split at h
  · rename_i hl3
    subst hl3
    obtain ⟨tgt, ht, hr⟩ := am_jmp_inv h
    cases hr
    intro H locs ls hl hP hS hs
    exact lv_goto hC.1.1 hC.1.2.1 hd ht (kk H locs ls hl hP hS hs)
  · cases h
theorem am_s_br {b : Bool} {off : Int} {S' : List am_V} (row : ∀ (H : Heap) (locs : List Loc) (ls : Array Slot) (tgt : Nat), len = 3 → (pc : Int) + off = (tgt : Int) → (b = true → W p l e R s mid args below meth c H locs n (6 * n) Q (F0 mid tgt ls (S'.map (am_c (am_ad Ω))))) → (b = false → W p l e R s mid args below meth c H locs n (6 * n) Q (F0 mid (pc + 3) ls (S'.map (am_c (am_ad Ω))))) → W p l e R s mid args below meth c H locs n (6 * n) Q (F0 mid pc ls (S.map (am_c (am_ad Ω))))) (h : am_br b off len pc L S' M n = some σ) (kk : am_nx Ω m p l e R s mid args below meth c Q σ) : am_nx Ω m p l e R s mid args below meth c Q (pc, L, S, M, n) := by
  obtain ⟨tgt, hl3, ht, hr⟩ := am_br_inv h
  intro H locs ls hl hP hS hs
  refine row H locs ls tgt hl3 ht (fun hb => ?_) (fun hb => ?_)
  · rcases hr with ⟨-, hr⟩ | ⟨hb', -⟩
    · cases hr
      exact kk H locs ls hl hP hS hs
    · rw [hb] at hb'; cases hb'
  · rcases hr with ⟨hb', -⟩ | ⟨-, hr⟩
    · rw [hb] at hb'; cases hb'
    · cases hr
      exact kk H locs ls hl hP hS hs
theorem am_s_if1 (hC : am_Cx Ω d m p e R s mid args meth c) {cn : Jvm.ClassFile.Cond} {off : Int} (hd : decode (am_b m) pc = .ok (.ifCond cn off, len)) (h : am_if1 cn off len pc L S M n = some σ) (kk : am_nx Ω m p l e R s mid args below meth c Q σ) : am_nx Ω m p l e R s mid args below meth c Q (pc, L, S, M, n) := by
  obtain ⟨x, S', rfl, hb⟩ := am_if1_inv h
  refine am_s_br (fun H locs ls tgt hl3 ht kt kf => ?_) hb kk
  subst hl3
  cases cn with
  | eq => exact lv_if_eq hC.1.1 hC.1.2.1 hd ht (fun q => kt (by simp [am_cnd, q])) (fun q => kf (by simp [am_cnd, q]))
  | ne => exact lv_if_ne hC.1.1 hC.1.2.1 hd ht (fun q => kt (by simp [am_cnd, q])) (fun q => kf (by simp [am_cnd, q]))
  | lt => exact lv_if_lt hC.1.1 hC.1.2.1 hd ht (fun q => kt (decide_eq_true q)) (fun q => kf (decide_eq_false q))
  | ge => exact lv_if_ge hC.1.1 hC.1.2.1 hd ht (fun q => kt (decide_eq_true q)) (fun q => kf (decide_eq_false q))
  | gt => exact lv_if_gt hC.1.1 hC.1.2.1 hd ht (fun q => kt (decide_eq_true q)) (fun q => kf (decide_eq_false q))
  | le => exact lv_if_le hC.1.1 hC.1.2.1 hd ht (fun q => kt (decide_eq_true q)) (fun q => kf (decide_eq_false q))
theorem am_s_if2 (hC : am_Cx Ω d m p e R s mid args meth c) {cn : Jvm.ClassFile.Cond} {off : Int} (hd : decode (am_b m) pc = .ok (.if_icmp cn off, len)) (h : am_if2 cn off len pc L S M n = some σ) (kk : am_nx Ω m p l e R s mid args below meth c Q σ) : am_nx Ω m p l e R s mid args below meth c Q (pc, L, S, M, n) := by
  obtain ⟨x, y, S', rfl, hb⟩ := am_if2_inv h
  refine am_s_br (fun H locs ls tgt hl3 ht kt kf => ?_) hb kk
  subst hl3
  cases cn with
  | eq => exact lv_icmp_eq hC.1.1 hC.1.2.1 hd ht (fun q => kt (by simp [am_cnd, q])) (fun q => kf (by simp [am_cnd, q]))
  | ne => exact lv_icmp_ne hC.1.1 hC.1.2.1 hd ht (fun q => kt (by simp [am_cnd, q])) (fun q => kf (by simp [am_cnd, q]))
  | lt => exact lv_icmp_lt hC.1.1 hC.1.2.1 hd ht (fun q => kt (decide_eq_true q)) (fun q => kf (decide_eq_false q))
  | ge => exact lv_icmp_ge hC.1.1 hC.1.2.1 hd ht (fun q => kt (decide_eq_true q)) (fun q => kf (decide_eq_false q))
  | gt => exact lv_icmp_gt hC.1.1 hC.1.2.1 hd ht (fun q => kt (decide_eq_true q)) (fun q => kf (decide_eq_false q))
  | le => exact lv_icmp_le hC.1.1 hC.1.2.1 hd ht (fun q => kt (decide_eq_true q)) (fun q => kf (decide_eq_false q))
theorem am_has_inj {x y : Option am_K} (hin : am_in Ω) (hx : am_has (am_sh Ω) x = true) (hy : am_has (am_sh Ω) y = true) (h : x.map (am_ad Ω) = y.map (am_ad Ω)) : x = y := by
  cases x with
  | none => cases y with
    | none => rfl
    | some b => cases h
  | some a => cases y with
    | none => cases h
    | some b =>
      have ha : (am_ct (am_sh Ω) a).isSome = true := hx
      have hb : (am_ct (am_sh Ω) b).isSome = true := hy
      obtain ⟨c1, h1⟩ := Option.isSome_iff_exists.mp ha
      obtain ⟨c2, h2⟩ := Option.isSome_iff_exists.mp hb
      rw [hin.2.2.2 a b c1 c2 h1 h2 (Option.some.inj h)]
theorem am_s_ifa (hC : am_Cx Ω d m p e R s mid args meth c) {cn : Jvm.ClassFile.ACond} {off : Int} (hd : decode (am_b m) pc = .ok (.if_acmp cn off, len)) (h : am_ifa (am_sh Ω) cn off len pc L S M n = some σ) (kk : am_nx Ω m p l e R s mid args below meth c Q σ) : am_nx Ω m p l e R s mid args below meth c Q (pc, L, S, M, n) := by
  obtain ⟨x, y, S', rfl, hx, hy, hb⟩ := am_ifa_inv h
  have hin : am_in Ω := hC.2.2.2.2.2.1
  refine am_s_br (fun H locs ls tgt hl3 ht kt kf => ?_) hb kk
  subst hl3
  cases cn with
  | eq => exact lv_acmp_eq (rx := x.map (am_ad Ω)) (ry := y.map (am_ad Ω)) hC.1.1 hC.1.2.1 hd ht (fun q => kt (decide_eq_true (am_has_inj hin hx hy q))) (fun q => kf (decide_eq_false (fun z => q (by rw [z]))))
  | ne => exact lv_acmp_ne (rx := x.map (am_ad Ω)) (ry := y.map (am_ad Ω)) hC.1.1 hC.1.2.1 hd ht (fun q => kt (decide_eq_true (fun z => q (by rw [z])))) (fun q => kf (decide_eq_false (fun z => z (am_has_inj hin hx hy q))))
theorem am_s_ifnull (hC : am_Cx Ω d m p e R s mid args meth c) {off : Int} (hd : decode (am_b m) pc = .ok (.ifnull off, len)) (h : am_ifn true off len pc L S M n = some σ) (kk : am_nx Ω m p l e R s mid args below meth c Q σ) : am_nx Ω m p l e R s mid args below meth c Q (pc, L, S, M, n) := by
  obtain ⟨o, S', rfl, hb⟩ := am_ifn_inv h
  refine am_s_br (fun H locs ls tgt hl3 ht kt kf => ?_) hb kk
  subst hl3
  cases o with
  | none => exact lv_ifnullN hC.1.1 hC.1.2.1 hd ht (kt rfl)
  | some k => exact lv_ifnull hC.1.1 hC.1.2.1 hd (kf rfl)
theorem am_s_ifnonnull (hC : am_Cx Ω d m p e R s mid args meth c) {off : Int} (hd : decode (am_b m) pc = .ok (.ifnonnull off, len)) (h : am_ifn false off len pc L S M n = some σ) (kk : am_nx Ω m p l e R s mid args below meth c Q σ) : am_nx Ω m p l e R s mid args below meth c Q (pc, L, S, M, n) := by
  obtain ⟨o, S', rfl, hb⟩ := am_ifn_inv h
  refine am_s_br (fun H locs ls tgt hl3 ht kt kf => ?_) hb kk
  subst hl3
  cases o with
  | none => exact lv_ifnonnullN hC.1.1 hC.1.2.1 hd (kf rfl)
  | some k => exact lv_ifnonnull hC.1.1 hC.1.2.1 hd ht (kt rfl)
theorem am_s_tsw (hC : am_Cx Ω d m p e R s mid args meth c) {df lo hi : Int} {offs : Array Int} (hd : decode (am_b m) pc = .ok (.tableswitch df lo hi offs, len)) (h : am_tsw df lo hi offs pc L S M n = some σ) (kk : am_nx Ω m p l e R s mid args below meth c Q σ) : am_nx Ω m p l e R s mid args below meth c Q (pc, L, S, M, n) := by
  obtain ⟨x, S', rfl, ⟨hx, hj⟩ | ⟨hx, off, ho, hj⟩⟩ := am_tsw_inv h
  · obtain ⟨tgt, ht, hr⟩ := am_jmp_inv hj
    cases hr
    intro H locs ls hl hP hS hs
    exact lv_tableOut hC.1.1 hC.1.2.1 hd hx ht (kk H locs ls hl hP hS hs)
  · obtain ⟨tgt, ht, hr⟩ := am_jmp_inv hj
    cases hr
    intro H locs ls hl hP hS hs
    exact lv_tableIn hC.1.1 hC.1.2.1 hd (fun q => hx (Or.inl q)) (fun q => hx (Or.inr q)) ho ht (kk H locs ls hl hP hS hs)
theorem am_s_lsw (hC : am_Cx Ω d m p e R s mid args meth c) {df : Int} {ps : Array (Int × Int)} (hd : decode (am_b m) pc = .ok (.lookupswitch df ps, len)) (h : am_lsw df ps pc L S M n = some σ) (kk : am_nx Ω m p l e R s mid args below meth c Q σ) : am_nx Ω m p l e R s mid args below meth c Q (pc, L, S, M, n) := by
  obtain ⟨x, S', rfl, hp, hj⟩ := am_lsw_inv h
  obtain ⟨tgt, ht, hr⟩ := am_jmp_inv hj
  cases hr
  intro H locs ls hl hP hS hs
  exact lv_lookup hC.1.1 hC.1.2.1 hd hp rfl ht (kk H locs ls hl hP hS hs)
theorem am_s_gf (hC : am_Cx Ω d m p e R s mid args meth c) {idx : Nat} (hd : decode (am_b m) pc = .ok (.getfield idx, len)) (h : am_gf (am_sh Ω) m idx len pc L S M n = some σ) (kk : am_nx Ω m p l e R s mid args below meth c Q σ) : am_nx Ω m p l e R s mid args below meth c Q (pc, L, S, M, n) := by
  obtain ⟨k, S', ci, j, rfl, hf, rfl, hct, hr⟩ := am_gf_inv h
  cases hr
  obtain ⟨⟨hx, hb, hml, hown, hts⟩, hK, -, -, -, hin, -⟩ := hC
  obtain ⟨C, T, N, ty0, hcl, hN, hj, hw, hlk, -⟩ := am_fact_f hf
  intro H locs ls hl hP hS hs
  obtain ⟨q0, hq, hw0⟩ := am_w_get M (hin.1 k _ hct (fun N h => by cases h))
  rw [am_e_obj hct] at hw0
  exact va_get (D := am_D Ω) (ci := ci) (C := C) (T := T) (N := N) hx hb hts hw hown hK hP q0 hw0 hcl j hj (hts _ hlk) (fun _ h => h) (am_fs_get (by rw [← hN]; exact hj)) hd (kk H locs ls hl hP hS hs)
theorem am_s_pf (hC : am_Cx Ω d m p e R s mid args meth c) {idx : Nat} (hd : decode (am_b m) pc = .ok (.putfield idx, len)) (h : am_pf (am_sh Ω) m idx len pc L S M n = some σ) (kk : am_nx Ω m p l e R s mid args below meth c Q σ) : am_nx Ω m p l e R s mid args below meth c Q (pc, L, S, M, n) := by
  obtain ⟨v, k, S', ci, j, rfl, hf, rfl, hct, hwr, hv, hr⟩ := am_pf_inv h
  cases hr
  obtain ⟨⟨hx, hb, hml, hown, hts⟩, hK, -, -, -, hin, -⟩ := hC
  obtain ⟨C, T, N, ty0, hcl, hN, hj, hw, hlk, hty, hnm, hfin, h0, h1⟩ := am_fact_f hf
  intro H locs ls hl hP hS hs
  have hkd := hin.1 k _ hct (fun N h => by cases h)
  obtain ⟨q0, hq, hw0⟩ := am_w_get M hkd
  rw [am_e_obj hct] at hw0
  have hf2 : am_fk ci j ≠ 2 := by rcases hv with h | ⟨h, -⟩ <;> omega
  have hnf : narrow (ty0 j) (.int v) = .int v ∧ fits (ty0 j) (.int v) = true := by
    rcases hv with hq | ⟨hq, rfl | rfl⟩
    · rw [h0 hq]; exact ⟨rfl, rfl⟩
    · rw [h1 hq]; exact ⟨rfl, rfl⟩
    · rw [h1 hq]; exact ⟨rfl, rfl⟩
  refine va_put (D := am_D Ω) (ci := ci) (v := .int v) (ty := ty0 j) (C := C) (T := T) (N := N) hx hb hts hw ty0 hty hnm hown hK hP (am_w_D M _ hin) hS q0 hw0 hcl j hj (hts _ hlk) (fun _ h => h) (hfin hwr) (hty j hj) hnf.1 hnf.2 (by simp [am_fs, ← hN, hj]) hd (fun H1 locs1 hP1 _ hS1 => ?_)
  rw [am_w_set (M' := am_up M k j v) hin hq (by rw [am_e_obj hct, am_fs_set (by rw [← hN]; exact hj) hf2]) (fun k' hk' => am_e_ne (am_up_ne M j v hk'))] at hP1
  exact kk H1 locs1 ls hl hP1 hS1 (am_sc_up hs hct (fun N h => by cases h) j v)
theorem am_ix_in {i : Int32} {N : Nat} (h : am_ix i N = true) : vp_in i N :=
  (of_decide_eq_true h : ¬ (i < 0 ∨ N ≤ i.toNatClampNeg))
theorem am_s_ald (hC : am_Cx Ω d m p e R s mid args meth c) (hd : decode (am_b m) pc = .ok (.iaload, len)) (h : am_ald (am_sh Ω) 0 len pc L S M n = some σ) (kk : am_nx Ω m p l e R s mid args below meth c Q σ) : am_nx Ω m p l e R s mid args below meth c Q (pc, L, S, M, n) := by
  obtain ⟨i, k, S', u, N, rfl, hct, rfl, hix, hu, hr⟩ := am_ald_inv h
  cases hr
  obtain ⟨⟨hx, hb, hml, hown, hts⟩, hK, -, -, -, hin, -⟩ := hC
  intro H locs ls hl hP hS hs
  rcases hu with rfl | ⟨rfl, -⟩
  · obtain ⟨q0, hq, hw0⟩ := am_w_get M (hin.1 k _ hct (fun N h => by cases h))
    rw [am_e_arr hct] at hw0
    exact va_iald hx hb hK hP q0 0 hw0 rfl (am_ix_in hix) hd (kk H locs ls hl hP hS hs)
  · obtain ⟨h1, h2, h3⟩ := hs k N hct
    exact va_sld hx hb h1 h2 h3 hS (am_ix_in hix) hd (kk H locs ls hl hP hS hs)
theorem am_s_zld (hC : am_Cx Ω d m p e R s mid args meth c) (hd : decode (am_b m) pc = .ok (.baload, len)) (h : am_ald (am_sh Ω) 1 len pc L S M n = some σ) (kk : am_nx Ω m p l e R s mid args below meth c Q σ) : am_nx Ω m p l e R s mid args below meth c Q (pc, L, S, M, n) := by
  obtain ⟨i, k, S', u, N, rfl, hct, rfl, hix, hu, hr⟩ := am_ald_inv h
  cases hr
  obtain ⟨⟨hx, hb, hml, hown, hts⟩, hK, -, -, -, hin, -⟩ := hC
  intro H locs ls hl hP hS hs
  rcases hu with rfl | ⟨-, h0⟩
  · obtain ⟨q0, hq, hw0⟩ := am_w_get M (hin.1 k _ hct (fun N h => by cases h))
    rw [am_e_arr hct] at hw0
    exact va_zald hx hb hK hP q0 1 hw0 rfl (am_ix_in hix) hd (kk H locs ls hl hP hS hs)
  · cases h0
theorem am_s_lld (hC : am_Cx Ω d m p e R s mid args meth c) (hd : decode (am_b m) pc = .ok (.laload, len)) (h : am_lld (am_sh Ω) len pc L S M n = some σ) (kk : am_nx Ω m p l e R s mid args below meth c Q σ) : am_nx Ω m p l e R s mid args below meth c Q (pc, L, S, M, n) := by
  obtain ⟨i, k, S', N, rfl, hct, rfl, hix, hr⟩ := am_lld_inv h
  cases hr
  obtain ⟨⟨hx, hb, hml, hown, hts⟩, hK, -, -, -, hin, -⟩ := hC
  intro H locs ls hl hP hS hs
  obtain ⟨q0, hq, hw0⟩ := am_w_get M (hin.1 k _ hct (fun N h => by cases h))
  rw [am_e_arr hct] at hw0
  exact va_lald hx hb hK hP q0 3 hw0 rfl (am_ix_in hix) hd (kk H locs ls hl hP hS hs)
theorem am_s_rld (hC : am_Cx Ω d m p e R s mid args meth c) (hd : decode (am_b m) pc = .ok (.aaload, len)) (h : am_rld (am_sh Ω) len pc L S M n = some σ) (kk : am_nx Ω m p l e R s mid args below meth c Q σ) : am_nx Ω m p l e R s mid args below meth c Q (pc, L, S, M, n) := by
  obtain ⟨i, k, S', u, N, rfl, hct, rfl, hix, hu, hr⟩ := am_rld_inv h
  cases hr
  obtain ⟨⟨hx, hb, hml, hown, hts⟩, hK, -, -, -, hin, -⟩ := hC
  intro H locs ls hl hP hS hs
  rcases hu with rfl | rfl
  · obtain ⟨q0, hq, hw0⟩ := am_w_get M (hin.1 k _ hct (fun N h => by cases h))
    rw [am_e_arr hct] at hw0
    exact va_aldq hx hb hK hP q0 2 hw0 rfl (am_ix_in hix) hd (kk H locs ls hl hP hS hs)
  · obtain ⟨q0, hq, hw0⟩ := am_w_get M (hin.1 k _ hct (fun N h => by cases h))
    rw [am_e_arr hct] at hw0
    exact va_aldq hx hb hK hP q0 4 hw0 rfl (am_ix_in hix) hd (kk H locs ls hl hP hS hs)
theorem am_s_ist (hC : am_Cx Ω d m p e R s mid args meth c) (hd : decode (am_b m) pc = .ok (.iastore, len)) (h : am_ist (am_sh Ω) len pc L S M n = some σ) (kk : am_nx Ω m p l e R s mid args below meth c Q σ) : am_nx Ω m p l e R s mid args below meth c Q (pc, L, S, M, n) := by
  obtain ⟨x, i, k, S', N, rfl, hct, rfl, hix, hr⟩ := am_ist_inv h
  cases hr
  obtain ⟨⟨hx, hb, hml, hown, hts⟩, hK, -, -, -, hin, -⟩ := hC
  intro H locs ls hl hP hS hs
  obtain ⟨q0, hq, hw0⟩ := am_w_get M (hin.1 k _ hct (fun N h => by cases h))
  rw [am_e_arr hct] at hw0
  refine va_iast hx hb hK hP (am_w_D M _ hin) hS q0 0 hw0 rfl (am_ix_in hix) hd (fun H1 locs1 hP1 _ hS1 => ?_)
  rw [am_w_set (M' := am_up M k i.toNatClampNeg x) hin hq (by rw [am_e_arr hct]; simp only [am_av, am_up_self]) (fun k' hk' => am_e_ne (am_up_ne M _ x hk'))] at hP1
  exact kk H1 locs1 ls hl hP1 hS1 (am_sc_up hs hct (fun N h => by cases h) _ x)
theorem am_s_zst (hC : am_Cx Ω d m p e R s mid args meth c) (hd : decode (am_b m) pc = .ok (.bastore, len)) (h : am_zst (am_sh Ω) len pc L S M n = some σ) (kk : am_nx Ω m p l e R s mid args below meth c Q σ) : am_nx Ω m p l e R s mid args below meth c Q (pc, L, S, M, n) := by
  obtain ⟨x, i, k, S', N, rfl, hct, rfl, hix, h01, hr⟩ := am_zst_inv h
  cases hr
  obtain ⟨⟨hx, hb, hml, hown, hts⟩, hK, -, -, -, hin, -⟩ := hC
  intro H locs ls hl hP hS hs
  obtain ⟨q0, hq, hw0⟩ := am_w_get M (hin.1 k _ hct (fun N h => by cases h))
  rw [am_e_arr hct] at hw0
  have hnar : vp_nar .boolean x = x := by rcases h01 with rfl | rfl <;> rfl
  refine va_zast hx hb hK hP (am_w_D M _ hin) hS q0 1 hw0 rfl (am_ix_in hix) hd (fun H1 locs1 hP1 _ hS1 => ?_)
  rw [hnar, am_w_set (M' := am_up M k i.toNatClampNeg x) hin hq (by rw [am_e_arr hct]; simp only [am_av, am_up_self]) (fun k' hk' => am_e_ne (am_up_ne M _ x hk'))] at hP1
  exact kk H1 locs1 ls hl hP1 hS1 (am_sc_up hs hct (fun N h => by cases h) _ x)
theorem am_s_lst (hC : am_Cx Ω d m p e R s mid args meth c) (hd : decode (am_b m) pc = .ok (.lastore, len)) (h : am_lst (am_sh Ω) len pc L S M n = some σ) (kk : am_nx Ω m p l e R s mid args below meth c Q σ) : am_nx Ω m p l e R s mid args below meth c Q (pc, L, S, M, n) := by
  obtain ⟨x, i, k, S', N, rfl, hct, rfl, hix, hr⟩ := am_lst_inv h
  cases hr
  obtain ⟨⟨hx, hb, hml, hown, hts⟩, hK, -, -, -, hin, -⟩ := hC
  intro H locs ls hl hP hS hs
  obtain ⟨q0, hq, hw0⟩ := am_w_get M (hin.1 k _ hct (fun N h => by cases h))
  rw [am_e_arr hct] at hw0
  have he : (fun j => ((am_up M k i.toNatClampNeg x) k j).toInt64) = vp_updL (fun j => (M k j).toInt64) i.toNatClampNeg x.toInt64 := by
    funext j
    rw [am_up_self]
    by_cases hj : j = i.toNatClampNeg <;> simp [upd, vp_updL, hj]
  refine va_last hx hb hK hP (am_w_D M _ hin) hS q0 3 hw0 rfl (am_ix_in hix) hd (fun H1 locs1 hP1 _ hS1 => ?_)
  rw [am_w_set (M' := am_up M k i.toNatClampNeg x) hin hq (by rw [am_e_arr hct]; simp only [am_av, he]) (fun k' hk' => am_e_ne (am_up_ne M _ x hk'))] at hP1
  exact kk H1 locs1 ls hl hP1 hS1 (am_sc_up hs hct (fun N h => by cases h) _ x)
theorem am_s_len (hC : am_Cx Ω d m p e R s mid args meth c) (hd : decode (am_b m) pc = .ok (.arraylength, len)) (h : am_len (am_sh Ω) len pc L S M n = some σ) (kk : am_nx Ω m p l e R s mid args below meth c Q σ) : am_nx Ω m p l e R s mid args below meth c Q (pc, L, S, M, n) := by
  obtain ⟨k, S', u, N, rfl, hct, rfl, hr⟩ := am_len_inv h
  cases hr
  obtain ⟨⟨hx, hb, hml, hown, hts⟩, hK, -, -, -, hin, -⟩ := hC
  intro H locs ls hl hP hS hs
  by_cases h5 : u = 5
  · subst h5
    obtain ⟨h1, h2, h3⟩ := hs k N hct
    exact va_slen hx hb h1 h2 h3 hS hd (kk H locs ls hl hP hS hs)
  · obtain ⟨q0, hq, hw0⟩ := am_w_get M (hin.1 k _ hct (fun N h => by cases h; exact h5 rfl))
    rw [am_e_arr hct] at hw0
    have hu := am_fact_u hct
    rcases (show u = 0 ∨ u = 1 ∨ u = 2 ∨ u = 3 ∨ u = 4 by omega) with rfl | rfl | rfl | rfl | rfl
    · exact va_alen hx hb hK hP q0 0 hw0 (ty := .int) rfl rfl hd (kk H locs ls hl hP hS hs)
    · exact va_alen hx hb hK hP q0 1 hw0 (ty := .boolean) rfl rfl hd (kk H locs ls hl hP hS hs)
    · exact va_alen hx hb hK hP q0 2 hw0 (ty := .object am_nT) rfl rfl hd (kk H locs ls hl hP hS hs)
    · exact va_alen hx hb hK hP q0 3 hw0 (ty := .long) rfl rfl hd (kk H locs ls hl hP hS hs)
    · exact va_alen hx hb hK hP q0 4 hw0 (ty := .object am_nL) rfl rfl hd (kk H locs ls hl hP hS hs)
theorem am_cats {ad : am_K → Nat} (S : List am_V) : ((S.map (am_c ad)).map fun v => v.category).sum ≤ 2 * S.length := by
  induction S with
  | nil => simp
  | cons v S ih =>
    have hv : (am_c ad v).category ≤ 2 := by
      rcases lv_cat (am_c ad v) with h | h <;> omega
    simp only [List.map_cons, List.sum_cons, List.length_cons]
    omega
theorem am_s_cpy (hC : am_Cx Ω d m p e R s mid args meth c) {idx : Nat} (hd : decode (am_b m) pc = .ok (.invokestatic idx, len)) (hac : am_ac m idx = true) (h : am_cpy (am_sh Ω) len pc L S M n = some σ) (kk : am_nx Ω m p l e R s mid args below meth c Q σ) : am_nx Ω m p l e R s mid args below meth c Q (pc, L, S, M, n) := by
  obtain ⟨cn, dp, k1, sp, k0, S', N0, N1, rfl, hc0, hc1, rfl, h4, h5, h6, h7, h8, h9, hr⟩ := am_cpy_inv h
  cases hr
  obtain ⟨⟨hx, hb, hml, hown, hts⟩, hK, -, -, -, hin, ⟨hR1, hR2, -⟩, -⟩ := hC
  obtain ⟨w1, w2, w3, w4⟩ := am_fact_ac hac
  intro H locs ls hl hP hS hs
  obtain ⟨q0, hq0, hw0⟩ := am_w_get M (hin.1 k0 _ hc0 (fun N h => by cases h))
  obtain ⟨q1, hq1, hw1⟩ := am_w_get M (hin.1 k1 _ hc1 (fun N h => by cases h))
  rw [am_e_arr hc0] at hw0
  rw [am_e_arr hc1] at hw1
  have hcat := am_cats (ad := am_ad Ω) S'
  have hnw : nativeFrameWords "java/lang/System" "arraycopy" 5 ≤ 200 := by decide +kernel
  refine va_copyi (ty := .int) hx hb (by rw [hml]; exact hl.1.symm) hown (hts _ w1) (hts _ w2) (hts _ w3) (hts _ w4) hK hP (am_w_D M _ hin) hS q0 q1 0 0 hw0 hw1 rfl rfl rfl h5 h6 h7 h8 h9 (fun _ _ => rfl) (by omega) (by omega) hd (fun H1 locs1 hP1 _ hS1 => ?_)
  rw [am_w_set (M' := am_cp M k0 k1 sp.toNatClampNeg dp.toNatClampNeg cn.toNatClampNeg) hin hq1 (by rw [am_e_arr hc1]; simp only [am_av, am_cp_self]) (fun k' hk' => am_e_ne (am_cp_ne M _ _ _ hk'))] at hP1
  exact kk H1 locs1 ls hl hP1 hS1 (am_sc_cp hs hc1 _ _ _)
theorem am_step1 (hC : am_Cx Ω d m p e R s mid args meth c) {i : Instr} (hd : decode (am_b m) pc = .ok (i, len)) (h : am_co (am_sh Ω) m i len pc L S M n = some σ) (kk : am_nx Ω m p l e R s mid args below meth c Q σ) : am_nx Ω m p l e R s mid args below meth c Q (pc, L, S, M, n) := by
  cases i with
  | iconst k => exact am_s_ps hC (fun H locs ls rest w => by obtain ⟨rfl, -⟩ := am_ps_inv h; exact lv_iconst hC.1.1 hC.1.2.1 hd rfl w) h kk
  | bipush k => exact am_s_ps hC (fun H locs ls rest w => by obtain ⟨rfl, -⟩ := am_ps_inv h; exact lv_bipush hC.1.1 hC.1.2.1 hd rfl w) h kk
  | sipush k => exact am_s_ps hC (fun H locs ls rest w => by obtain ⟨rfl, -⟩ := am_ps_inv h; exact lv_sipush hC.1.1 hC.1.2.1 hd rfl w) h kk
  | ldc idx =>
    have h' : (match am_kc m idx with
      | some v => am_ps 2 len (am_I v) pc L S M n
      | none => none) = some σ := h
    split at h'
    · rename_i v hv
      exact am_s_ps hC (fun H locs ls rest w => by obtain ⟨rfl, -⟩ := am_ps_inv h'; exact lv_ldc hC.1.1 hC.1.2.1 hC.1.2.2.2.1 (hC.1.2.2.2.2 _ (am_fact_k hv)) hd w) h' kk
    · cases h'
  | ldc_w idx =>
    have h' : (match am_kc m idx with
      | some v => am_ps 3 len (am_I v) pc L S M n
      | none => none) = some σ := h
    split at h'
    · rename_i v hv
      exact am_s_ps hC (fun H locs ls rest w => by obtain ⟨rfl, -⟩ := am_ps_inv h'; exact lv_ldcw hC.1.1 hC.1.2.1 hC.1.2.2.2.1 (hC.1.2.2.2.2 _ (am_fact_k hv)) hd w) h' kk
    · cases h'
  | aconst_null => exact am_s_ps hC (fun H locs ls rest w => by obtain ⟨rfl, -⟩ := am_ps_inv h; exact lv_null hC.1.1 hC.1.2.1 hd w) h kk
  | iload_n k => exact am_s_ldi hC (fun H locs ls rest x hx w => by obtain ⟨_, rfl, -⟩ := am_ldi_inv h; exact lv_iload_n hC.1.1 hC.1.2.1 hd rfl hx w) h kk
  | iload k => exact am_s_ldi hC (fun H locs ls rest x hx w => by obtain ⟨_, rfl, -⟩ := am_ldi_inv h; exact lv_iload hC.1.1 hC.1.2.1 hd hx w) h kk
  | aload_n k => exact am_s_lda hC (fun H locs ls rest x hx w => by obtain ⟨_, rfl, -⟩ := am_lda_inv h; exact lv_aload_n hC.1.1 hC.1.2.1 hd rfl hx w) (fun H locs ls rest hx w => by obtain ⟨_, rfl, -⟩ := am_lda_inv h; exact lv_aload_nN hC.1.1 hC.1.2.1 hd rfl hx w) h kk
  | aload k => exact am_s_lda hC (fun H locs ls rest x hx w => by obtain ⟨_, rfl, -⟩ := am_lda_inv h; exact lv_aload hC.1.1 hC.1.2.1 hd hx w) (fun H locs ls rest hx w => by obtain ⟨_, rfl, -⟩ := am_lda_inv h; exact lv_aloadN hC.1.1 hC.1.2.1 hd hx w) h kk
  | istore_n k => exact am_s_sti hC (fun H locs ls rest x lv hv hk w => by obtain ⟨_, _, -, rfl, -⟩ := am_sti_inv h; exact lv_istore_n hC.1.1 hC.1.2.1 hd rfl hv hk rfl w) h kk
  | istore k => exact am_s_sti hC (fun H locs ls rest x lv hv hk w => by obtain ⟨_, _, -, rfl, -⟩ := am_sti_inv h; exact lv_istore hC.1.1 hC.1.2.1 hd hv hk rfl w) h kk
  | astore_n k => exact am_s_sta hC (fun H locs ls rest x lv hv hk w => by obtain ⟨_, _, -, rfl, -⟩ := am_sta_inv h; exact lv_astore_n hC.1.1 hC.1.2.1 hd rfl hv hk rfl w) (fun H locs ls rest lv hv hk w => by obtain ⟨_, _, -, rfl, -⟩ := am_sta_inv h; exact lv_astore_nN hC.1.1 hC.1.2.1 hd rfl hv hk rfl w) h kk
  | astore k => exact am_s_sta hC (fun H locs ls rest x lv hv hk w => by obtain ⟨_, _, -, rfl, -⟩ := am_sta_inv h; exact lv_astore hC.1.1 hC.1.2.1 hd hv hk rfl w) (fun H locs ls rest lv hv hk w => by obtain ⟨_, _, -, rfl, -⟩ := am_sta_inv h; exact lv_astoreN hC.1.1 hC.1.2.1 hd hv hk rfl w) h kk
  | iinc k i => exact am_s_inc hC hd h kk
  | iadd => exact am_s_bin hC (fun H locs ls rest x y hl w => by subst hl; exact lv_iadd hC.1.1 hC.1.2.1 hd w) h kk
  | isub => exact am_s_bin hC (fun H locs ls rest x y hl w => by subst hl; exact lv_isub hC.1.1 hC.1.2.1 hd w) h kk
  | imul => exact am_s_bin hC (fun H locs ls rest x y hl w => by subst hl; exact lv_imul hC.1.1 hC.1.2.1 hd w) h kk
  | iand => exact am_s_bin hC (fun H locs ls rest x y hl w => by subst hl; exact lv_iand hC.1.1 hC.1.2.1 hd w) h kk
  | ior => exact am_s_bin hC (fun H locs ls rest x y hl w => by subst hl; exact lv_ior hC.1.1 hC.1.2.1 hd w) h kk
  | ixor => exact am_s_bin hC (fun H locs ls rest x y hl w => by subst hl; exact lv_ixor hC.1.1 hC.1.2.1 hd w) h kk
  | ishl => exact am_s_bin hC (fun H locs ls rest x y hl w => by subst hl; exact lv_ishl hC.1.1 hC.1.2.1 hd w) h kk
  | ishr => exact am_s_bin hC (fun H locs ls rest x y hl w => by subst hl; exact lv_ishr hC.1.1 hC.1.2.1 hd w) h kk
  | iushr => exact am_s_bin hC (fun H locs ls rest x y hl w => by subst hl; exact lv_iushr hC.1.1 hC.1.2.1 hd rfl w) h kk
  | idiv => exact am_s_div hC (fun H locs ls rest x y hl hy w => by subst hl; exact lv_idiv hC.1.1 hC.1.2.1 hd hy w) h kk
  | irem => exact am_s_div hC (fun H locs ls rest x y hl hy w => by subst hl; exact lv_irem hC.1.1 hC.1.2.1 hd hy w) h kk
  | ineg => exact am_s_un hC (fun H locs ls rest x hl w => by subst hl; exact lv_ineg hC.1.1 hC.1.2.1 hd w) h kk
  | i2l => exact am_s_un hC (fun H locs ls rest x hl w => by subst hl; exact lv_i2l hC.1.1 hC.1.2.1 hd rfl w) h kk
  | lcmp => exact am_s_lc hC hd h kk
  | dup => exact am_s_dup hC hd h kk
  | dup_x1 => exact am_s_dx1 hC hd h kk
  | dup_x2 => exact am_s_dx2 hC hd h kk
  | dup2 => exact am_s_d2 hC hd h kk
  | pop => exact am_s_pop hC hd h kk
  | goto off => exact am_s_goto hC hd h kk
  | ifCond cn off => exact am_s_if1 hC hd h kk
  | if_icmp cn off => exact am_s_if2 hC hd h kk
  | if_acmp cn off => exact am_s_ifa hC hd h kk
  | ifnull off => exact am_s_ifnull hC hd h kk
  | ifnonnull off => exact am_s_ifnonnull hC hd h kk
  | tableswitch df lo hi offs => exact am_s_tsw hC hd h kk
  | lookupswitch df ps => exact am_s_lsw hC hd h kk
  | getfield idx => exact am_s_gf hC hd h kk
  | putfield idx => exact am_s_pf hC hd h kk
  | iaload => exact am_s_ald hC hd h kk
  | baload => exact am_s_zld hC hd h kk
  | laload => exact am_s_lld hC hd h kk
  | aaload => exact am_s_rld hC hd h kk
  | iastore => exact am_s_ist hC hd h kk
  | bastore => exact am_s_zst hC hd h kk
  | lastore => exact am_s_lst hC hd h kk
  | arraylength => exact am_s_len hC hd h kk
  | _ => exact absurd (show (none : Option am_S) = some σ from h) (by simp)
end STP
