-- the abstract machine, instruction by instruction
def am_ev (sh : am_Sh) (C : Nat → am_M → List am_V → am_O → Prop) (m : Nat) (σ : am_S) (P : am_S ⊕ am_O → Prop) : Prop := ∃ f, am_wp sh C m f σ P
theorem am_ev_stop {sh : am_Sh} {C : Nat → am_M → List am_V → am_O → Prop} {m : Nat} {σ : am_S} {P : am_S ⊕ am_O → Prop} (h : P (Sum.inl σ)) : am_ev sh C m σ P := ⟨0, h⟩
theorem am_ev_step {sh : am_Sh} {C : Nat → am_M → List am_V → am_O → Prop} {m : Nat} {σ σ' : am_S} {P : am_S ⊕ am_O → Prop} (h : am_at sh m σ = some (Sum.inl σ')) (k : am_ev sh C m σ' P) : am_ev sh C m σ P := by
  obtain ⟨f, hf⟩ := k
  exact ⟨f + 1, by unfold am_wp; rw [h]; exact hf⟩
theorem am_ev_end {sh : am_Sh} {C : Nat → am_M → List am_V → am_O → Prop} {m : Nat} {σ : am_S} {o : am_O} {P : am_S ⊕ am_O → Prop} (h : am_at sh m σ = some (Sum.inr (Sum.inl o))) (k : P (Sum.inr o)) : am_ev sh C m σ P :=
  ⟨1, by unfold am_wp; rw [h]; exact k⟩
theorem am_ev_call {sh : am_Sh} {C : Nat → am_M → List am_V → am_O → Prop} {m c pc n : Nat} {as : List am_V} {L : am_Ls} {S : List am_V} {M M' : am_M} {v : Option am_V} {σ : am_S} {P : am_S ⊕ am_O → Prop} (h : am_at sh m σ = some (Sum.inr (Sum.inr (c, as, (pc, L, S, M, n))))) (hc : C c M as (M', Sum.inl v)) (k : am_ev sh C m (pc + 3, L, v.toList ++ S, M', n + am_bud c) P) : am_ev sh C m σ P := by
  obtain ⟨f, hf⟩ := k
  exact ⟨f + 1, by unfold am_wp; rw [h]; exact ⟨_, hc, hf⟩⟩
theorem am_ev_thrown {sh : am_Sh} {C : Nat → am_M → List am_V → am_O → Prop} {m c pc n x : Nat} {as : List am_V} {L : am_Ls} {S : List am_V} {M M' : am_M} {σ : am_S} {P : am_S ⊕ am_O → Prop} (h : am_at sh m σ = some (Sum.inr (Sum.inr (c, as, (pc, L, S, M, n))))) (hc : C c M as (M', Sum.inr x)) (hh : am_hd m pc x = some none) (k : P (Sum.inr (M', Sum.inr x))) : am_ev sh C m σ P :=
  ⟨1, by unfold am_wp; rw [h]; exact ⟨_, hc, by dsimp only; rw [hh]; exact k⟩⟩
theorem am_wp_up {sh : am_Sh} {C : Nat → am_M → List am_V → am_O → Prop} {m : Nat} {P : am_S ⊕ am_O → Prop} (hP : ∀ σ, ¬ P (Sum.inl σ)) : ∀ (f : Nat) (σ : am_S), am_wp sh C m f σ P → ∀ f', f ≤ f' → am_wp sh C m f' σ P := by
  intro f
  induction f with
  | zero => exact fun σ q => absurd q (hP σ)
  | succ f ih =>
    intro σ q f' hf
    obtain ⟨f'', rfl⟩ : ∃ f'', f' = f'' + 1 := ⟨f' - 1, by omega⟩
    unfold am_wp at q ⊢
    cases hat : am_at sh m σ with
    | none => rw [hat] at q; exact q
    | some r =>
      rw [hat] at q
      match r, q with
      | .inl σ', q => exact ih σ' q f'' (by omega)
      | .inr (.inl o), q => exact q
      | .inr (.inr (c, as, σ')), q =>
        obtain ⟨o, hc, q⟩ := q
        refine ⟨o, hc, ?_⟩
        cases ho : o.2 with
        | inl v => rw [ho] at q; exact ih _ q f'' (by omega)
        | inr x =>
          rw [ho] at q
          dsimp only at q ⊢
          cases hh : am_hd m σ'.1 x with
          | none => rw [hh] at q; exact q
          | some oh =>
            rw [hh] at q
            cases oh with
            | none => exact q
            | some hp => exact fun a => ih _ (q a) f'' (by omega)
/-- caught: the same fuel for every address -/
theorem am_ev_caught {sh : am_Sh} {C : Nat → am_M → List am_V → am_O → Prop} {m c pc n x hp : Nat} {as : List am_V} {L : am_Ls} {S : List am_V} {M M' : am_M} {σ : am_S} {P : am_S ⊕ am_O → Prop} (h : am_at sh m σ = some (Sum.inr (Sum.inr (c, as, (pc, L, S, M, n))))) (hc : C c M as (M', Sum.inr x)) (hh : am_hd m pc x = some (some hp)) {f : Nat} (k : ∀ a, am_wp sh C m f (hp, L, [am_X a], M', n + am_bud c) P) : am_ev sh C m σ P :=
  ⟨f + 1, by unfold am_wp; rw [h]; exact ⟨_, hc, by dsimp only; rw [hh]; exact k⟩⟩
theorem am_at_of {sh : am_Sh} {m pc len : Nat} {i : Instr} {L : am_Ls} {S : List am_V} {M : am_M} {n : Nat} (hd : decode (am_b m) pc = .ok (i, len)) : am_at sh m (pc, L, S, M, n) = am_st sh m i len pc L S M n := by
  unfold am_at
  dsimp only
  rw [hd]
theorem am_wp_mono {sh : am_Sh} {C : Nat → am_M → List am_V → am_O → Prop} {m : Nat} {P P' : am_S ⊕ am_O → Prop} (h : ∀ r, P r → P' r) : ∀ (f : Nat) (σ : am_S), am_wp sh C m f σ P → am_wp sh C m f σ P' := by
  intro f
  induction f with
  | zero => exact fun σ q => h _ q
  | succ f ih =>
    intro σ q
    unfold am_wp at q ⊢
    cases hat : am_at sh m σ with
    | none => rw [hat] at q; exact q
    | some r =>
      rw [hat] at q
      match r, q with
      | .inl σ', q => exact ih σ' q
      | .inr (.inl o), q => exact h _ q
      | .inr (.inr (c, as, σ')), q =>
        obtain ⟨o, hc, q⟩ := q
        refine ⟨o, hc, ?_⟩
        cases ho : o.2 with
        | inl v => rw [ho] at q; exact ih _ q
        | inr x =>
          rw [ho] at q
          dsimp only at q ⊢
          cases hh : am_hd m σ'.1 x with
          | none => rw [hh] at q; exact q
          | some oh =>
            rw [hh] at q
            cases oh with
            | none => exact h _ q
            | some hp => exact fun a => ih _ (q a)
section EV
variable {sh : am_Sh} {C : Nat → am_M → List am_V → am_O → Prop} {m pc pc' : Nat} {L : am_Ls} {S : List am_V} {M : am_M} {n : Nat} {P : am_S ⊕ am_O → Prop}
theorem am_e_iconst {k : Int} {v : Int32} (hd : decode (am_b m) pc = .ok (.iconst k, 1)) (hv : Int32.ofInt k = v) (hp : pc + 1 = pc') (kk : am_ev sh C m (pc', L, am_I v :: S, M, n) P) : am_ev sh C m (pc, L, S, M, n) P := by
  subst hv; subst hp
  exact am_ev_step ((am_at_of hd).trans rfl) kk
theorem am_e_bipush {k : Int} {v : Int32} (hd : decode (am_b m) pc = .ok (.bipush k, 2)) (hv : (Int8.ofInt k).toInt32 = v) (hp : pc + 2 = pc') (kk : am_ev sh C m (pc', L, am_I v :: S, M, n) P) : am_ev sh C m (pc, L, S, M, n) P := by
  subst hv; subst hp
  exact am_ev_step ((am_at_of hd).trans rfl) kk
theorem am_e_sipush {k : Int} {v : Int32} (hd : decode (am_b m) pc = .ok (.sipush k, 3)) (hv : (Int16.ofInt k).toInt32 = v) (hp : pc + 3 = pc') (kk : am_ev sh C m (pc', L, am_I v :: S, M, n) P) : am_ev sh C m (pc, L, S, M, n) P := by
  subst hv; subst hp
  exact am_ev_step ((am_at_of hd).trans rfl) kk
theorem am_e_ldc {idx : Nat} {v : Int32} (hd : decode (am_b m) pc = .ok (.ldc idx, 2)) (hv : am_kc m idx = some v) (hp : pc + 2 = pc') (kk : am_ev sh C m (pc', L, am_I v :: S, M, n) P) : am_ev sh C m (pc, L, S, M, n) P := by
  subst hp
  refine am_ev_step ((am_at_of hd).trans ?_) kk
  show (match am_kc m idx with
    | some v => am_ps 2 2 (am_I v) pc L S M n
    | none => none).map Sum.inl = _
  rw [hv]
  rfl
theorem am_e_ldcw {idx : Nat} {v : Int32} (hd : decode (am_b m) pc = .ok (.ldc_w idx, 3)) (hv : am_kc m idx = some v) (hp : pc + 3 = pc') (kk : am_ev sh C m (pc', L, am_I v :: S, M, n) P) : am_ev sh C m (pc, L, S, M, n) P := by
  subst hp
  refine am_ev_step ((am_at_of hd).trans ?_) kk
  show (match am_kc m idx with
    | some v => am_ps 3 3 (am_I v) pc L S M n
    | none => none).map Sum.inl = _
  rw [hv]
  rfl
theorem am_e_null (hd : decode (am_b m) pc = .ok (.aconst_null, 1)) (hp : pc + 1 = pc') (kk : am_ev sh C m (pc', L, am_R none :: S, M, n) P) : am_ev sh C m (pc, L, S, M, n) P := by
  subst hp
  exact am_ev_step ((am_at_of hd).trans rfl) kk
theorem am_e_iload_n {k : Fin 4} {x : Int32} (hd : decode (am_b m) pc = .ok (.iload_n k, 1)) (hl : L[k.val]? = some (some (am_I x))) (hp : pc + 1 = pc') (kk : am_ev sh C m (pc', L, am_I x :: S, M, n) P) : am_ev sh C m (pc, L, S, M, n) P := by
  subst hp
  refine am_ev_step ((am_at_of hd).trans ?_) kk
  show (am_ldi 1 1 k.val pc L S M n).map Sum.inl = _
  unfold am_ldi
  rw [if_pos rfl, hl]
  rfl
theorem am_e_iload {k : Nat} {x : Int32} (hd : decode (am_b m) pc = .ok (.iload k, 2)) (hl : L[k]? = some (some (am_I x))) (hp : pc + 2 = pc') (kk : am_ev sh C m (pc', L, am_I x :: S, M, n) P) : am_ev sh C m (pc, L, S, M, n) P := by
  subst hp
  refine am_ev_step ((am_at_of hd).trans ?_) kk
  show (am_ldi 2 2 k pc L S M n).map Sum.inl = _
  unfold am_ldi
  rw [if_pos rfl, hl]
  rfl
theorem am_e_aload_n {k : Fin 4} {x : Option am_K ⊕ Nat} (hd : decode (am_b m) pc = .ok (.aload_n k, 1)) (hl : L[k.val]? = some (some (Sum.inr (Sum.inr x)))) (hp : pc + 1 = pc') (kk : am_ev sh C m (pc', L, Sum.inr (Sum.inr x) :: S, M, n) P) : am_ev sh C m (pc, L, S, M, n) P := by
  subst hp
  refine am_ev_step ((am_at_of hd).trans ?_) kk
  show (am_lda 1 1 k.val pc L S M n).map Sum.inl = _
  unfold am_lda
  rw [if_pos rfl, hl]
  rfl
theorem am_e_aload {k : Nat} {x : Option am_K ⊕ Nat} (hd : decode (am_b m) pc = .ok (.aload k, 2)) (hl : L[k]? = some (some (Sum.inr (Sum.inr x)))) (hp : pc + 2 = pc') (kk : am_ev sh C m (pc', L, Sum.inr (Sum.inr x) :: S, M, n) P) : am_ev sh C m (pc, L, S, M, n) P := by
  subst hp
  refine am_ev_step ((am_at_of hd).trans ?_) kk
  show (am_lda 2 2 k pc L S M n).map Sum.inl = _
  unfold am_lda
  rw [if_pos rfl, hl]
  rfl
theorem am_e_istore_n {k : Fin 4} {x : Int32} {L' : am_Ls} (hd : decode (am_b m) pc = .ok (.istore_n k, 1)) (hk : k.val < L.length) (hl : L.set k.val (some (am_I x)) = L') (hp : pc + 1 = pc') (kk : am_ev sh C m (pc', L', S, M, n) P) : am_ev sh C m (pc, L, am_I x :: S, M, n) P := by
  subst hp; subst hl
  refine am_ev_step ((am_at_of hd).trans ?_) kk
  show (am_sti 1 1 k.val pc L (am_I x :: S) M n).map Sum.inl = _
  unfold am_sti
  dsimp only
  rw [if_pos ⟨rfl, hk⟩]
  rfl
theorem am_e_istore {k : Nat} {x : Int32} {L' : am_Ls} (hd : decode (am_b m) pc = .ok (.istore k, 2)) (hk : k < L.length) (hl : L.set k (some (am_I x)) = L') (hp : pc + 2 = pc') (kk : am_ev sh C m (pc', L', S, M, n) P) : am_ev sh C m (pc, L, am_I x :: S, M, n) P := by
  subst hp; subst hl
  refine am_ev_step ((am_at_of hd).trans ?_) kk
  show (am_sti 2 2 k pc L (am_I x :: S) M n).map Sum.inl = _
  unfold am_sti
  dsimp only
  rw [if_pos ⟨rfl, hk⟩]
  rfl
theorem am_e_astore_n {k : Fin 4} {x : Option am_K ⊕ Nat} {L' : am_Ls} (hd : decode (am_b m) pc = .ok (.astore_n k, 1)) (hk : k.val < L.length) (hl : L.set k.val (some (Sum.inr (Sum.inr x))) = L') (hp : pc + 1 = pc') (kk : am_ev sh C m (pc', L', S, M, n) P) : am_ev sh C m (pc, L, Sum.inr (Sum.inr x) :: S, M, n) P := by
  subst hp; subst hl
  refine am_ev_step ((am_at_of hd).trans ?_) kk
  show (am_sta 1 1 k.val pc L (Sum.inr (Sum.inr x) :: S) M n).map Sum.inl = _
  unfold am_sta
  dsimp only
  rw [if_pos ⟨rfl, hk⟩]
  rfl
theorem am_e_astore {k : Nat} {x : Option am_K ⊕ Nat} {L' : am_Ls} (hd : decode (am_b m) pc = .ok (.astore k, 2)) (hk : k < L.length) (hl : L.set k (some (Sum.inr (Sum.inr x))) = L') (hp : pc + 2 = pc') (kk : am_ev sh C m (pc', L', S, M, n) P) : am_ev sh C m (pc, L, Sum.inr (Sum.inr x) :: S, M, n) P := by
  subst hp; subst hl
  refine am_ev_step ((am_at_of hd).trans ?_) kk
  show (am_sta 2 2 k pc L (Sum.inr (Sum.inr x) :: S) M n).map Sum.inl = _
  unfold am_sta
  dsimp only
  rw [if_pos ⟨rfl, hk⟩]
  rfl
theorem am_e_iinc {k : Nat} {c : Int} {x v : Int32} {L' : am_Ls} (hd : decode (am_b m) pc = .ok (.iinc k c, 3)) (hl : L[k]? = some (some (am_I x))) (hv : x + Int32.ofInt c = v) (hs : L.set k (some (am_I v)) = L') (hp : pc + 3 = pc') (kk : am_ev sh C m (pc', L', S, M, n) P) : am_ev sh C m (pc, L, S, M, n) P := by
  subst hp; subst hs; subst hv
  refine am_ev_step ((am_at_of hd).trans ?_) kk
  show (am_inc k c 3 pc L S M n).map Sum.inl = _
  unfold am_inc
  rw [if_pos rfl, hl]
  rfl
theorem am_e_iadd {x y : Int32} (hd : decode (am_b m) pc = .ok (.iadd, 1)) (hp : pc + 1 = pc') (kk : am_ev sh C m (pc', L, am_I (x + y) :: S, M, n) P) : am_ev sh C m (pc, L, am_I y :: am_I x :: S, M, n) P := by
  subst hp; exact am_ev_step ((am_at_of hd).trans rfl) kk
theorem am_e_isub {x y : Int32} (hd : decode (am_b m) pc = .ok (.isub, 1)) (hp : pc + 1 = pc') (kk : am_ev sh C m (pc', L, am_I (x - y) :: S, M, n) P) : am_ev sh C m (pc, L, am_I y :: am_I x :: S, M, n) P := by
  subst hp; exact am_ev_step ((am_at_of hd).trans rfl) kk
theorem am_e_imul {x y : Int32} (hd : decode (am_b m) pc = .ok (.imul, 1)) (hp : pc + 1 = pc') (kk : am_ev sh C m (pc', L, am_I (x * y) :: S, M, n) P) : am_ev sh C m (pc, L, am_I y :: am_I x :: S, M, n) P := by
  subst hp; exact am_ev_step ((am_at_of hd).trans rfl) kk
theorem am_e_iand {x y : Int32} (hd : decode (am_b m) pc = .ok (.iand, 1)) (hp : pc + 1 = pc') (kk : am_ev sh C m (pc', L, am_I (x &&& y) :: S, M, n) P) : am_ev sh C m (pc, L, am_I y :: am_I x :: S, M, n) P := by
  subst hp; exact am_ev_step ((am_at_of hd).trans rfl) kk
theorem am_e_ior {x y : Int32} (hd : decode (am_b m) pc = .ok (.ior, 1)) (hp : pc + 1 = pc') (kk : am_ev sh C m (pc', L, am_I (x ||| y) :: S, M, n) P) : am_ev sh C m (pc, L, am_I y :: am_I x :: S, M, n) P := by
  subst hp; exact am_ev_step ((am_at_of hd).trans rfl) kk
theorem am_e_ixor {x y : Int32} (hd : decode (am_b m) pc = .ok (.ixor, 1)) (hp : pc + 1 = pc') (kk : am_ev sh C m (pc', L, am_I (x ^^^ y) :: S, M, n) P) : am_ev sh C m (pc, L, am_I y :: am_I x :: S, M, n) P := by
  subst hp; exact am_ev_step ((am_at_of hd).trans rfl) kk
theorem am_e_ishl {x y : Int32} (hd : decode (am_b m) pc = .ok (.ishl, 1)) (hp : pc + 1 = pc') (kk : am_ev sh C m (pc', L, am_I (x <<< (y &&& 31)) :: S, M, n) P) : am_ev sh C m (pc, L, am_I y :: am_I x :: S, M, n) P := by
  subst hp; exact am_ev_step ((am_at_of hd).trans rfl) kk
theorem am_e_ishr {x y : Int32} (hd : decode (am_b m) pc = .ok (.ishr, 1)) (hp : pc + 1 = pc') (kk : am_ev sh C m (pc', L, am_I (x >>> (y &&& 31)) :: S, M, n) P) : am_ev sh C m (pc, L, am_I y :: am_I x :: S, M, n) P := by
  subst hp; exact am_ev_step ((am_at_of hd).trans rfl) kk
theorem am_e_iushr {x y : Int32} (hd : decode (am_b m) pc = .ok (.iushr, 1)) (hp : pc + 1 = pc') (kk : am_ev sh C m (pc', L, am_I ((x.toUInt32 >>> (y.toUInt32 &&& Int32.toUInt32 31)).toInt32) :: S, M, n) P) : am_ev sh C m (pc, L, am_I y :: am_I x :: S, M, n) P := by
  subst hp; exact am_ev_step ((am_at_of hd).trans rfl) kk
theorem am_e_idiv {x y : Int32} (hd : decode (am_b m) pc = .ok (.idiv, 1)) (hy : ¬ y = 0) (hp : pc + 1 = pc') (kk : am_ev sh C m (pc', L, am_I (x / y) :: S, M, n) P) : am_ev sh C m (pc, L, am_I y :: am_I x :: S, M, n) P := by
  subst hp
  refine am_ev_step ((am_at_of hd).trans ?_) kk
  show (am_div (fun x y => x / y) 1 pc L (am_I y :: am_I x :: S) M n).map Sum.inl = _
  unfold am_div
  dsimp only
  rw [if_pos ⟨rfl, hy⟩]
  rfl
theorem am_e_irem {x y : Int32} (hd : decode (am_b m) pc = .ok (.irem, 1)) (hy : ¬ y = 0) (hp : pc + 1 = pc') (kk : am_ev sh C m (pc', L, am_I (x - x / y * y) :: S, M, n) P) : am_ev sh C m (pc, L, am_I y :: am_I x :: S, M, n) P := by
  subst hp
  refine am_ev_step ((am_at_of hd).trans ?_) kk
  show (am_div (fun x y => x - x / y * y) 1 pc L (am_I y :: am_I x :: S) M n).map Sum.inl = _
  unfold am_div
  dsimp only
  rw [if_pos ⟨rfl, hy⟩]
  rfl
theorem am_e_ineg {x : Int32} (hd : decode (am_b m) pc = .ok (.ineg, 1)) (hp : pc + 1 = pc') (kk : am_ev sh C m (pc', L, am_I (-x) :: S, M, n) P) : am_ev sh C m (pc, L, am_I x :: S, M, n) P := by
  subst hp; exact am_ev_step ((am_at_of hd).trans rfl) kk
theorem am_e_i2l {x : Int32} (hd : decode (am_b m) pc = .ok (.i2l, 1)) (hp : pc + 1 = pc') (kk : am_ev sh C m (pc', L, am_L x :: S, M, n) P) : am_ev sh C m (pc, L, am_I x :: S, M, n) P := by
  subst hp; exact am_ev_step ((am_at_of hd).trans rfl) kk
theorem am_e_lcmp {x y : Int32} (hd : decode (am_b m) pc = .ok (.lcmp, 1)) (hp : pc + 1 = pc') (kk : am_ev sh C m (pc', L, am_I (lg_cmp x.toInt64 y.toInt64) :: S, M, n) P) : am_ev sh C m (pc, L, am_L y :: am_L x :: S, M, n) P := by
  subst hp; exact am_ev_step ((am_at_of hd).trans rfl) kk
theorem am_e_dup {v : am_V} (hd : decode (am_b m) pc = .ok (.dup, 1)) (hv : am_isL v = false) (hp : pc + 1 = pc') (kk : am_ev sh C m (pc', L, v :: v :: S, M, n) P) : am_ev sh C m (pc, L, v :: S, M, n) P := by
  subst hp
  refine am_ev_step ((am_at_of hd).trans ?_) kk
  show (am_dup 1 pc L (v :: S) M n).map Sum.inl = _
  unfold am_dup
  dsimp only
  rw [if_pos ⟨rfl, hv⟩]
  rfl
theorem am_e_pop {v : am_V} (hd : decode (am_b m) pc = .ok (.pop, 1)) (hv : am_isL v = false) (hp : pc + 1 = pc') (kk : am_ev sh C m (pc', L, S, M, n) P) : am_ev sh C m (pc, L, v :: S, M, n) P := by
  subst hp
  refine am_ev_step ((am_at_of hd).trans ?_) kk
  show (am_pop 1 pc L (v :: S) M n).map Sum.inl = _
  unfold am_pop
  dsimp only
  rw [if_pos ⟨rfl, hv⟩]
  rfl
theorem am_e_dup_x1 {v w : am_V} (hd : decode (am_b m) pc = .ok (.dup_x1, 1)) (hv : am_isL v = false) (hw : am_isL w = false) (hp : pc + 1 = pc') (kk : am_ev sh C m (pc', L, v :: w :: v :: S, M, n) P) : am_ev sh C m (pc, L, v :: w :: S, M, n) P := by
  subst hp
  refine am_ev_step ((am_at_of hd).trans ?_) kk
  show (am_dx1 1 pc L (v :: w :: S) M n).map Sum.inl = _
  unfold am_dx1
  dsimp only
  rw [if_pos ⟨rfl, hv, hw⟩]
  rfl
theorem am_e_dup_x2 {v w u : am_V} (hd : decode (am_b m) pc = .ok (.dup_x2, 1)) (hv : am_isL v = false) (hw : am_isL w = false) (hu : am_isL u = false) (hp : pc + 1 = pc') (kk : am_ev sh C m (pc', L, v :: w :: u :: v :: S, M, n) P) : am_ev sh C m (pc, L, v :: w :: u :: S, M, n) P := by
  subst hp
  refine am_ev_step ((am_at_of hd).trans ?_) kk
  show (am_dx2 1 pc L (v :: w :: u :: S) M n).map Sum.inl = _
  unfold am_dx2
  dsimp only
  rw [if_pos ⟨rfl, hv, hw, hu⟩]
  rfl
theorem am_e_dup2 {v w : am_V} (hd : decode (am_b m) pc = .ok (.dup2, 1)) (hv : am_isL v = false) (hw : am_isL w = false) (hp : pc + 1 = pc') (kk : am_ev sh C m (pc', L, v :: w :: v :: w :: S, M, n) P) : am_ev sh C m (pc, L, v :: w :: S, M, n) P := by
  subst hp
  refine am_ev_step ((am_at_of hd).trans ?_) kk
  show (am_d2 1 pc L (v :: w :: S) M n).map Sum.inl = _
  unfold am_d2
  dsimp only
  rw [if_pos ⟨rfl, hv, hw⟩]
  rfl
theorem am_jmp_eq {off : Int} {tgt : Nat} (ht : (pc : Int) + off = (tgt : Int)) : am_jmp off pc L S M n = some (tgt, L, S, M, n) := by
  unfold am_jmp
  rw [ht, if_pos (Int.natCast_nonneg tgt)]
  rfl
theorem am_e_goto {off : Int} (hd : decode (am_b m) pc = .ok (.goto off, 3)) (ht : (pc : Int) + off = (pc' : Int)) (kk : am_ev sh C m (pc', L, S, M, n) P) : am_ev sh C m (pc, L, S, M, n) P := by
  refine am_ev_step ((am_at_of hd).trans ?_) kk
  show (if 3 = 3 then am_jmp off pc L S M n else none).map Sum.inl = _
  rw [if_pos rfl, am_jmp_eq ht]
  rfl
theorem am_br_eq {c : Bool} {off : Int} {tgt : Nat} (ht : (pc : Int) + off = (tgt : Int)) : am_br c off 3 pc L S M n = (if c = true then some (tgt, L, S, M, n) else some (pc + 3, L, S, M, n)) := by
  unfold am_br
  rw [ht, if_pos ⟨rfl, Int.natCast_nonneg tgt⟩]
  rfl
theorem am_ev_br {c : Bool} {off : Int} {tgt : Nat} {S' : List am_V} (hs : am_at sh m (pc, L, S, M, n) = (am_br c off 3 pc L S' M n).map Sum.inl) (ht : (pc : Int) + off = (tgt : Int)) (hp : pc + 3 = pc') (k1 : c = true → am_ev sh C m (tgt, L, S', M, n) P) (k2 : c = false → am_ev sh C m (pc', L, S', M, n) P) : am_ev sh C m (pc, L, S, M, n) P := by
  subst hp
  rw [am_br_eq ht] at hs
  cases c with
  | true => exact am_ev_step hs (k1 rfl)
  | false => exact am_ev_step hs (k2 rfl)
theorem am_jmp_to {off : Int} {tgt : Nat} (ht : (pc : Int) + off = (tgt : Int)) : am_jmp off pc L S M n = some (tgt, L, S, M, n) := by
  unfold am_jmp
  rw [if_pos (show 0 ≤ (pc : Int) + off by omega)]
  have : ((pc : Int) + off).toNat = tgt := by omega
  rw [this]
theorem am_e_lsw {df : Int} {ps : Array (Int × Int)} {len : Nat} {x : Int32} {off : Int} {tgt : Nat} (hd : decode (am_b m) pc = .ok (.lookupswitch df ps, len)) (hp : am_lso ps = true) (ho : Op.lookupswitch.offset ps.toList df x.toInt = off) (ht : (pc : Int) + off = (tgt : Int)) (kk : am_ev sh C m (tgt, L, S, M, n) P) : am_ev sh C m (pc, L, am_I x :: S, M, n) P := by
  subst ho
  refine am_ev_step ((am_at_of hd).trans ?_) kk
  show (am_lsw df ps pc L (am_I x :: S) M n).map Sum.inl = _
  unfold am_lsw
  dsimp only
  rw [if_pos hp, am_jmp_to ht]
  rfl
theorem am_e_tswOut {df lo hi : Int} {offs : Array Int} {len : Nat} {x : Int32} {tgt : Nat} (hd : decode (am_b m) pc = .ok (.tableswitch df lo hi offs, len)) (hx : x.toInt < lo ∨ hi < x.toInt) (ht : (pc : Int) + df = (tgt : Int)) (kk : am_ev sh C m (tgt, L, S, M, n) P) : am_ev sh C m (pc, L, am_I x :: S, M, n) P := by
  refine am_ev_step ((am_at_of hd).trans ?_) kk
  show (am_tsw df lo hi offs pc L (am_I x :: S) M n).map Sum.inl = _
  unfold am_tsw
  dsimp only
  rw [if_pos hx, am_jmp_to ht]
  rfl
theorem am_e_tsw {df lo hi : Int} {offs : Array Int} {len : Nat} {x : Int32} {off : Int} {tgt : Nat} (hd : decode (am_b m) pc = .ok (.tableswitch df lo hi offs, len)) (hx : ¬ (x.toInt < lo ∨ hi < x.toInt)) (ho : offs[(x.toInt - lo).toNat]? = some off) (ht : (pc : Int) + off = (tgt : Int)) (kk : am_ev sh C m (tgt, L, S, M, n) P) : am_ev sh C m (pc, L, am_I x :: S, M, n) P := by
  refine am_ev_step ((am_at_of hd).trans ?_) kk
  show (am_tsw df lo hi offs pc L (am_I x :: S) M n).map Sum.inl = _
  unfold am_tsw
  dsimp only
  rw [if_neg hx, ho]
  dsimp only
  rw [am_jmp_to ht]
  rfl
theorem am_e_if {cn : Jvm.ClassFile.Cond} {x : Int32} {off : Int} {tgt : Nat} (hd : decode (am_b m) pc = .ok (.ifCond cn off, 3)) (ht : (pc : Int) + off = (tgt : Int)) (hp : pc + 3 = pc') (k1 : am_cnd cn x 0 = true → am_ev sh C m (tgt, L, S, M, n) P) (k2 : am_cnd cn x 0 = false → am_ev sh C m (pc', L, S, M, n) P) : am_ev sh C m (pc, L, am_I x :: S, M, n) P :=
  am_ev_br ((am_at_of hd).trans rfl) ht hp k1 k2
theorem am_e_icmp {cn : Jvm.ClassFile.Cond} {x y : Int32} {off : Int} {tgt : Nat} (hd : decode (am_b m) pc = .ok (.if_icmp cn off, 3)) (ht : (pc : Int) + off = (tgt : Int)) (hp : pc + 3 = pc') (k1 : am_cnd cn x y = true → am_ev sh C m (tgt, L, S, M, n) P) (k2 : am_cnd cn x y = false → am_ev sh C m (pc', L, S, M, n) P) : am_ev sh C m (pc, L, am_I y :: am_I x :: S, M, n) P :=
  am_ev_br ((am_at_of hd).trans rfl) ht hp k1 k2
theorem am_e_acmp {cn : Jvm.ClassFile.ACond} {x y : Option am_K} {off : Int} {tgt : Nat} (hd : decode (am_b m) pc = .ok (.if_acmp cn off, 3)) (hx : am_has sh x = true) (hy : am_has sh y = true) (ht : (pc : Int) + off = (tgt : Int)) (hp : pc + 3 = pc') (k1 : am_acn cn x y = true → am_ev sh C m (tgt, L, S, M, n) P) (k2 : am_acn cn x y = false → am_ev sh C m (pc', L, S, M, n) P) : am_ev sh C m (pc, L, am_R y :: am_R x :: S, M, n) P := by
  refine am_ev_br (c := am_acn cn x y) (off := off) (S' := S) ((am_at_of hd).trans ?_) ht hp k1 k2
  show (am_ifa sh cn off 3 pc L (am_R y :: am_R x :: S) M n).map Sum.inl = _
  unfold am_ifa
  dsimp only
  rw [if_pos ⟨hx, hy⟩]
theorem am_e_ifnull {o : Option am_K} {off : Int} {tgt : Nat} (hd : decode (am_b m) pc = .ok (.ifnull off, 3)) (ht : (pc : Int) + off = (tgt : Int)) (hp : pc + 3 = pc') (k1 : o = none → am_ev sh C m (tgt, L, S, M, n) P) (k2 : ∀ k, o = some k → am_ev sh C m (pc', L, S, M, n) P) : am_ev sh C m (pc, L, am_R o :: S, M, n) P := by
  refine am_ev_br (c := o.isNone == true) (off := off) (S' := S) ((am_at_of hd).trans rfl) ht hp (fun h => ?_) (fun h => ?_)
  · cases o with
    | none => exact k1 rfl
    | some k => cases h
  · cases o with
    | none => cases h
    | some k => exact k2 k rfl
theorem am_e_ifnonnull {o : Option am_K} {off : Int} {tgt : Nat} (hd : decode (am_b m) pc = .ok (.ifnonnull off, 3)) (ht : (pc : Int) + off = (tgt : Int)) (hp : pc + 3 = pc') (k1 : ∀ k, o = some k → am_ev sh C m (tgt, L, S, M, n) P) (k2 : o = none → am_ev sh C m (pc', L, S, M, n) P) : am_ev sh C m (pc, L, am_R o :: S, M, n) P := by
  refine am_ev_br (c := o.isNone == false) (off := off) (S' := S) ((am_at_of hd).trans rfl) ht hp (fun h => ?_) (fun h => ?_)
  · cases o with
    | none => cases h
    | some k => exact k1 k rfl
  · cases o with
    | none => exact k2 rfl
    | some k => cases h
theorem am_e_gf {idx ci j : Nat} {k : am_K} {v : am_V} (hd : decode (am_b m) pc = .ok (.getfield idx, 3)) (hf : am_fl m idx = some (ci, j)) (hc : am_ct sh k = some (Sum.inl ci)) (hv : am_fv sh M ci j k = v) (hp : pc + 3 = pc') (kk : am_ev sh C m (pc', L, v :: S, M, n) P) : am_ev sh C m (pc, L, am_R (some k) :: S, M, n) P := by
  subst hp; subst hv
  refine am_ev_step ((am_at_of hd).trans ?_) kk
  show (am_gf sh m idx 3 pc L (am_R (some k) :: S) M n).map Sum.inl = _
  unfold am_gf
  rw [hf]
  dsimp only
  rw [if_pos ⟨rfl, hc⟩]
  rfl
theorem am_e_pf {idx ci j : Nat} {k : am_K} {v : Int32} (hd : decode (am_b m) pc = .ok (.putfield idx, 3)) (hf : am_fl m idx = some (ci, j)) (hc : am_ct sh k = some (Sum.inl ci)) (hw : am_wr ci j = true) (hv : am_fk ci j = 0 ∨ (am_fk ci j = 1 ∧ (v = 0 ∨ v = 1))) (hp : pc + 3 = pc') (kk : am_ev sh C m (pc', L, S, am_up M k j v, n) P) : am_ev sh C m (pc, L, am_I v :: am_R (some k) :: S, M, n) P := by
  subst hp
  refine am_ev_step ((am_at_of hd).trans ?_) kk
  show (am_pf sh m idx 3 pc L (am_I v :: am_R (some k) :: S) M n).map Sum.inl = _
  unfold am_pf
  rw [hf]
  dsimp only
  rw [if_pos ⟨rfl, hc, hw, hv⟩]
  rfl
theorem am_ix_of {i : Int32} {N : Nat} (h : vp_in i N) : am_ix i N = true := decide_eq_true h
theorem am_e_iald {k : am_K} {i : Int32} {N j : Nat} (hd : decode (am_b m) pc = .ok (.iaload, 1)) (hc : am_ct sh k = some (Sum.inr (0, N))) (hi : vp_in i N) (hj : i.toNatClampNeg = j) (hp : pc + 1 = pc') (kk : am_ev sh C m (pc', L, am_I (M k j) :: S, M, n) P) : am_ev sh C m (pc, L, am_I i :: am_R (some k) :: S, M, n) P := by
  subst hp; subst hj
  refine am_ev_step ((am_at_of hd).trans ?_) kk
  show (am_ald sh 0 1 pc L (am_I i :: am_R (some k) :: S) M n).map Sum.inl = _
  unfold am_ald
  dsimp only
  rw [hc]
  dsimp only
  rw [if_pos ⟨rfl, am_ix_of hi, Or.inl rfl⟩]
  rfl
theorem am_e_sald {k : am_K} {i : Int32} {N j : Nat} (hd : decode (am_b m) pc = .ok (.iaload, 1)) (hc : am_ct sh k = some (Sum.inr (5, N))) (hi : vp_in i N) (hj : i.toNatClampNeg = j) (hp : pc + 1 = pc') (kk : am_ev sh C m (pc', L, am_I (M k j) :: S, M, n) P) : am_ev sh C m (pc, L, am_I i :: am_R (some k) :: S, M, n) P := by
  subst hp; subst hj
  refine am_ev_step ((am_at_of hd).trans ?_) kk
  show (am_ald sh 0 1 pc L (am_I i :: am_R (some k) :: S) M n).map Sum.inl = _
  unfold am_ald
  dsimp only
  rw [hc]
  dsimp only
  rw [if_pos ⟨rfl, am_ix_of hi, Or.inr ⟨rfl, rfl⟩⟩]
  rfl
theorem am_e_zald {k : am_K} {i : Int32} {N j : Nat} (hd : decode (am_b m) pc = .ok (.baload, 1)) (hc : am_ct sh k = some (Sum.inr (1, N))) (hi : vp_in i N) (hj : i.toNatClampNeg = j) (hp : pc + 1 = pc') (kk : am_ev sh C m (pc', L, am_I (M k j) :: S, M, n) P) : am_ev sh C m (pc, L, am_I i :: am_R (some k) :: S, M, n) P := by
  subst hp; subst hj
  refine am_ev_step ((am_at_of hd).trans ?_) kk
  show (am_ald sh 1 1 pc L (am_I i :: am_R (some k) :: S) M n).map Sum.inl = _
  unfold am_ald
  dsimp only
  rw [hc]
  dsimp only
  rw [if_pos ⟨rfl, am_ix_of hi, Or.inl rfl⟩]
  rfl
theorem am_e_lald {k : am_K} {i : Int32} {N j : Nat} (hd : decode (am_b m) pc = .ok (.laload, 1)) (hc : am_ct sh k = some (Sum.inr (3, N))) (hi : vp_in i N) (hj : i.toNatClampNeg = j) (hp : pc + 1 = pc') (kk : am_ev sh C m (pc', L, am_L (M k j) :: S, M, n) P) : am_ev sh C m (pc, L, am_I i :: am_R (some k) :: S, M, n) P := by
  subst hp; subst hj
  refine am_ev_step ((am_at_of hd).trans ?_) kk
  show (am_lld sh 1 pc L (am_I i :: am_R (some k) :: S) M n).map Sum.inl = _
  unfold am_lld
  dsimp only
  rw [hc]
  dsimp only
  rw [if_pos ⟨rfl, am_ix_of hi, rfl⟩]
  rfl
theorem am_e_rald {k : am_K} {i : Int32} {N j u : Nat} (hd : decode (am_b m) pc = .ok (.aaload, 1)) (hc : am_ct sh k = some (Sum.inr (u, N))) (hu : u = 2 ∨ u = 4) (hi : vp_in i N) (hj : i.toNatClampNeg = j) {o : Option am_K} (ho : am_rf sh k j = o) (hp : pc + 1 = pc') (kk : am_ev sh C m (pc', L, am_R o :: S, M, n) P) : am_ev sh C m (pc, L, am_I i :: am_R (some k) :: S, M, n) P := by
  subst hp; subst hj; subst ho
  refine am_ev_step ((am_at_of hd).trans ?_) kk
  show (am_rld sh 1 pc L (am_I i :: am_R (some k) :: S) M n).map Sum.inl = _
  unfold am_rld
  dsimp only
  rw [hc]
  dsimp only
  rw [if_pos ⟨rfl, am_ix_of hi, hu⟩]
  rfl
theorem am_e_iast {k : am_K} {i x : Int32} {N j : Nat} (hd : decode (am_b m) pc = .ok (.iastore, 1)) (hc : am_ct sh k = some (Sum.inr (0, N))) (hi : vp_in i N) (hj : i.toNatClampNeg = j) (hp : pc + 1 = pc') (kk : am_ev sh C m (pc', L, S, am_up M k j x, n) P) : am_ev sh C m (pc, L, am_I x :: am_I i :: am_R (some k) :: S, M, n) P := by
  subst hp; subst hj
  refine am_ev_step ((am_at_of hd).trans ?_) kk
  show (am_ist sh 1 pc L (am_I x :: am_I i :: am_R (some k) :: S) M n).map Sum.inl = _
  unfold am_ist
  dsimp only
  rw [hc]
  dsimp only
  rw [if_pos ⟨rfl, am_ix_of hi, rfl⟩]
  rfl
theorem am_e_zast {k : am_K} {i x : Int32} {N j : Nat} (hd : decode (am_b m) pc = .ok (.bastore, 1)) (hc : am_ct sh k = some (Sum.inr (1, N))) (hx : x = 0 ∨ x = 1) (hi : vp_in i N) (hj : i.toNatClampNeg = j) (hp : pc + 1 = pc') (kk : am_ev sh C m (pc', L, S, am_up M k j x, n) P) : am_ev sh C m (pc, L, am_I x :: am_I i :: am_R (some k) :: S, M, n) P := by
  subst hp; subst hj
  refine am_ev_step ((am_at_of hd).trans ?_) kk
  show (am_zst sh 1 pc L (am_I x :: am_I i :: am_R (some k) :: S) M n).map Sum.inl = _
  unfold am_zst
  dsimp only
  rw [hc]
  dsimp only
  rw [if_pos ⟨rfl, am_ix_of hi, rfl, hx⟩]
  rfl
theorem am_e_last {k : am_K} {i x : Int32} {N j : Nat} (hd : decode (am_b m) pc = .ok (.lastore, 1)) (hc : am_ct sh k = some (Sum.inr (3, N))) (hi : vp_in i N) (hj : i.toNatClampNeg = j) (hp : pc + 1 = pc') (kk : am_ev sh C m (pc', L, S, am_up M k j x, n) P) : am_ev sh C m (pc, L, am_L x :: am_I i :: am_R (some k) :: S, M, n) P := by
  subst hp; subst hj
  refine am_ev_step ((am_at_of hd).trans ?_) kk
  show (am_lst sh 1 pc L (am_L x :: am_I i :: am_R (some k) :: S) M n).map Sum.inl = _
  unfold am_lst
  dsimp only
  rw [hc]
  dsimp only
  rw [if_pos ⟨rfl, am_ix_of hi, rfl⟩]
  rfl
theorem am_e_len {k : am_K} {u N : Nat} (hd : decode (am_b m) pc = .ok (.arraylength, 1)) (hc : am_ct sh k = some (Sum.inr (u, N))) (hp : pc + 1 = pc') (kk : am_ev sh C m (pc', L, am_I (nI N) :: S, M, n) P) : am_ev sh C m (pc, L, am_R (some k) :: S, M, n) P := by
  subst hp
  refine am_ev_step ((am_at_of hd).trans ?_) kk
  show (am_len sh 1 pc L (am_R (some k) :: S) M n).map Sum.inl = _
  unfold am_len
  dsimp only
  rw [hc]
  rfl
theorem am_e_copy {idx : Nat} {k0 k1 : am_K} {c sp dp : Int32} {N0 N1 a b q : Nat} (hd : decode (am_b m) pc = .ok (.invokestatic idx, 3)) (hac : am_ac m idx = true) (h0 : am_ct sh k0 = some (Sum.inr (0, N0))) (h1 : am_ct sh k1 = some (Sum.inr (0, N1))) (hs : S.length ≤ 4) (hsp : ¬ sp < 0) (hdp : ¬ dp < 0) (hcn : ¬ c < 0) (ha : sp.toNatClampNeg = a) (hb : dp.toNatClampNeg = b) (hq : c.toNatClampNeg = q) (hN0 : a + q ≤ N0) (hN1 : b + q ≤ N1) (hp : pc + 3 = pc') (kk : am_ev sh C m (pc', L, S, am_cp M k0 k1 a b q, n) P) : am_ev sh C m (pc, L, am_I c :: am_I dp :: am_R (some k1) :: am_I sp :: am_R (some k0) :: S, M, n) P := by
  subst hp; subst ha; subst hb; subst hq
  refine am_ev_step ((am_at_of hd).trans ?_) kk
  show (if am_ac m idx = true then (am_cpy sh 3 pc L (am_I c :: am_I dp :: am_R (some k1) :: am_I sp :: am_R (some k0) :: S) M n).map Sum.inl else _) = _
  rw [if_pos hac]
  unfold am_cpy
  dsimp only
  rw [h0, h1]
  show Option.map Sum.inl (if 3 = 3 ∧ S.length ≤ 4 ∧ ¬ sp < 0 ∧ ¬ dp < 0 ∧ ¬ c < 0 ∧ sp.toNatClampNeg + c.toNatClampNeg ≤ N0 ∧ dp.toNatClampNeg + c.toNatClampNeg ≤ N1 then am_go (pc + 3) L S (am_cp M k0 k1 sp.toNatClampNeg dp.toNatClampNeg c.toNatClampNeg) n else none) = _
  rw [if_pos ⟨rfl, hs, hsp, hdp, hcn, hN0, hN1⟩]
  rfl
theorem am_inv_eq {kind idx c k : Nat} (hml : am_ml m idx = some (c, k, kind)) (h : k ≤ S.length ∧ S.length ≤ k + 4 ∧ n + am_bud c ≤ am_bud m ∧ (kind = 0 ∨ am_rcv sh c (S.take k).reverse = true)) : am_inv sh kind m idx 3 pc L S M n = some (Sum.inr (Sum.inr (c, (S.take k).reverse, (pc, L, S.drop k, M, n)))) := by
  unfold am_inv
  rw [hml]
  dsimp only
  rw [if_pos ⟨rfl, rfl, h⟩]
theorem am_e_callV {idx c k : Nat} {as S' : List am_V} {v : Option am_V} {M' : am_M} {n' : Nat} (hd : decode (am_b m) pc = .ok (.invokevirtual idx, 3)) (hml : am_ml m idx = some (c, k, 1)) (h : k ≤ S.length ∧ S.length ≤ k + 4 ∧ n + am_bud c ≤ am_bud m ∧ (1 = 0 ∨ am_rcv sh c (S.take k).reverse = true)) (has : (S.take k).reverse = as) (hS' : v.toList ++ S.drop k = S') (hn : n + am_bud c = n') (hc : C c M as (M', Sum.inl v)) (hp : pc + 3 = pc') (kk : am_ev sh C m (pc', L, S', M', n') P) : am_ev sh C m (pc, L, S, M, n) P := by
  subst hp; subst has; subst hS'; subst hn
  exact am_ev_call ((am_at_of hd).trans (am_inv_eq hml h)) hc kk
theorem am_e_callS {idx c k : Nat} {as S' : List am_V} {v : Option am_V} {M' : am_M} {n' : Nat} (hd : decode (am_b m) pc = .ok (.invokestatic idx, 3)) (hac : am_ac m idx = false) (hml : am_ml m idx = some (c, k, 0)) (h : k ≤ S.length ∧ S.length ≤ k + 4 ∧ n + am_bud c ≤ am_bud m ∧ (0 = 0 ∨ am_rcv sh c (S.take k).reverse = true)) (has : (S.take k).reverse = as) (hS' : v.toList ++ S.drop k = S') (hn : n + am_bud c = n') (hc : C c M as (M', Sum.inl v)) (hp : pc + 3 = pc') (kk : am_ev sh C m (pc', L, S', M', n') P) : am_ev sh C m (pc, L, S, M, n) P := by
  subst hp; subst has; subst hS'; subst hn
  refine am_ev_call (Eq.trans (am_at_of hd) ?_) hc kk
  show (if am_ac m idx = true then _ else am_inv sh 0 m idx 3 pc L S M n) = _
  rw [if_neg (by rw [hac]; decide)]
  exact am_inv_eq hml h
theorem am_e_thrV {idx c k x : Nat} {as : List am_V} {M' : am_M} (hd : decode (am_b m) pc = .ok (.invokevirtual idx, 3)) (hml : am_ml m idx = some (c, k, 1)) (h : k ≤ S.length ∧ S.length ≤ k + 4 ∧ n + am_bud c ≤ am_bud m ∧ (1 = 0 ∨ am_rcv sh c (S.take k).reverse = true)) (has : (S.take k).reverse = as) (hc : C c M as (M', Sum.inr x)) (hh : am_hd m pc x = some none) (kk : P (Sum.inr (M', Sum.inr x))) : am_ev sh C m (pc, L, S, M, n) P := by
  subst has
  exact am_ev_thrown ((am_at_of hd).trans (am_inv_eq hml h)) hc hh kk
theorem am_e_thrS {idx c k x : Nat} {as : List am_V} {M' : am_M} (hd : decode (am_b m) pc = .ok (.invokestatic idx, 3)) (hac : am_ac m idx = false) (hml : am_ml m idx = some (c, k, 0)) (h : k ≤ S.length ∧ S.length ≤ k + 4 ∧ n + am_bud c ≤ am_bud m ∧ (0 = 0 ∨ am_rcv sh c (S.take k).reverse = true)) (has : (S.take k).reverse = as) (hc : C c M as (M', Sum.inr x)) (hh : am_hd m pc x = some none) (kk : P (Sum.inr (M', Sum.inr x))) : am_ev sh C m (pc, L, S, M, n) P := by
  subst has
  refine am_ev_thrown (pc := pc) (L := L) (S := S.drop k) (n := n) (Eq.trans (am_at_of hd) ?_) hc hh kk
  show (if am_ac m idx = true then _ else am_inv sh 0 m idx 3 pc L S M n) = _
  rw [if_neg (by rw [hac]; decide)]
  exact am_inv_eq hml h
theorem am_e_iret {v : Int32} (hd : decode (am_b m) pc = .ok (.ireturn, 1)) (hn : n ≤ am_bud m) (hr : am_rt m = some .int ∨ (am_rt m = some .boolean ∧ (v = 0 ∨ v = 1))) (kk : P (Sum.inr (M, Sum.inl (some (am_I v))))) : am_ev sh C m (pc, L, [am_I v], M, n) P := by
  refine am_ev_end (Eq.trans (am_at_of hd) ?_) kk
  show am_iret m 1 [am_I v] M n = _
  unfold am_iret
  dsimp only
  rw [if_pos ⟨rfl, hn, hr⟩]
theorem am_e_aret {o : Option am_K} (hd : decode (am_b m) pc = .ok (.areturn, 1)) (hn : n ≤ am_bud m) (hr : am_ra m = true) (kk : P (Sum.inr (M, Sum.inl (some (am_R o))))) : am_ev sh C m (pc, L, [am_R o], M, n) P := by
  refine am_ev_end (Eq.trans (am_at_of hd) ?_) kk
  show am_aret m 1 [am_R o] M n = _
  unfold am_aret
  dsimp only
  rw [if_pos ⟨rfl, hn, hr⟩]
theorem am_e_vret (hd : decode (am_b m) pc = .ok (.return_, 1)) (hn : n ≤ am_bud m) (hr : am_rt m = none) (kk : P (Sum.inr (M, Sum.inl none))) : am_ev sh C m (pc, L, [], M, n) P := by
  refine am_ev_end (Eq.trans (am_at_of hd) ?_) kk
  show am_vret m 1 [] M n = _
  unfold am_vret
  rw [if_pos ⟨rfl, rfl, hn, hr⟩]
theorem am_e_throw {idx x : Nat} (hd : decode (am_b m) pc = .ok (.new idx, 3)) (hx : am_th m pc = some x) (hn : n + 1 ≤ am_bud m) (kk : P (Sum.inr (M, Sum.inr x))) : am_ev sh C m (pc, L, [], M, n) P := by
  refine am_ev_end (Eq.trans (am_at_of hd) ?_) kk
  show am_thr m pc [] M n = _
  unfold am_thr
  rw [hx]
  dsimp only
  rw [if_pos ⟨rfl, hn⟩]
end EV
