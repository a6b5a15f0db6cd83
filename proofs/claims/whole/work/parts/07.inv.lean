-- what a step says, read backwards
theorem am_jmp_inv {off : Int} {pc : Nat} {L : am_Ls} {S : List am_V} {M : am_M} {n : Nat} {r : am_S} (h : am_jmp off pc L S M n = some r) : ∃ tgt : Nat, (pc : Int) + off = (tgt : Int) ∧ r = (tgt, L, S, M, n) := by
  unfold am_jmp at h
  split at h
  · rename_i h0
    exact ⟨((pc : Int) + off).toNat, (Int.toNat_of_nonneg h0).symm, (Option.some.inj h).symm⟩
  · cases h
theorem am_br_inv {c : Bool} {off : Int} {len pc : Nat} {L : am_Ls} {S : List am_V} {M : am_M} {n : Nat} {r : am_S} (h : am_br c off len pc L S M n = some r) : ∃ tgt : Nat, len = 3 ∧ (pc : Int) + off = (tgt : Int) ∧ ((c = true ∧ r = (tgt, L, S, M, n)) ∨ (c = false ∧ r = (pc + 3, L, S, M, n))) := by
  unfold am_br at h
  split at h
  · rename_i hl
    refine ⟨((pc : Int) + off).toNat, hl.1, (Int.toNat_of_nonneg hl.2).symm, ?_⟩
    split at h
    · rename_i hc
      exact Or.inl ⟨hc, (Option.some.inj h).symm⟩
    · rename_i hc
      exact Or.inr ⟨by simpa using hc, (Option.some.inj h).symm⟩
  · cases h
theorem am_ps_inv {k len : Nat} {v : am_V} {pc : Nat} {L : am_Ls} {S : List am_V} {M : am_M} {n : Nat} {r : am_S} (h : am_ps k len v pc L S M n = some r) : len = k ∧ r = (pc + k, L, v :: S, M, n) := by
  unfold am_ps at h
  split at h
  · rename_i hl; exact ⟨hl, (Option.some.inj h).symm⟩
  · cases h
theorem am_ldi_inv {w len k pc : Nat} {L : am_Ls} {S : List am_V} {M : am_M} {n : Nat} {r : am_S} (h : am_ldi w len k pc L S M n = some r) : ∃ x, len = w ∧ L[k]? = some (some (am_I x)) ∧ r = (pc + w, L, am_I x :: S, M, n) := by
  unfold am_ldi at h
  split at h
  · rename_i hl
    split at h
    · rename_i x hx; exact ⟨x, hl, hx, (Option.some.inj h).symm⟩
    · cases h
  · cases h
theorem am_lda_inv {w len k pc : Nat} {L : am_Ls} {S : List am_V} {M : am_M} {n : Nat} {r : am_S} (h : am_lda w len k pc L S M n = some r) : ∃ x, len = w ∧ L[k]? = some (some (Sum.inr (Sum.inr x))) ∧ r = (pc + w, L, Sum.inr (Sum.inr x) :: S, M, n) := by
  unfold am_lda at h
  split at h
  · rename_i hl
    split at h
    · rename_i x hx; exact ⟨x, hl, hx, (Option.some.inj h).symm⟩
    · cases h
  · cases h
theorem am_sti_inv {w len k pc : Nat} {L : am_Ls} {S : List am_V} {M : am_M} {n : Nat} {r : am_S} (h : am_sti w len k pc L S M n = some r) : ∃ x S', S = am_I x :: S' ∧ len = w ∧ k < L.length ∧ r = (pc + w, L.set k (some (am_I x)), S', M, n) := by
  unfold am_sti at h
  split at h
  · split at h
    · rename_i hl; exact ⟨_, _, rfl, hl.1, hl.2, (Option.some.inj h).symm⟩
    · cases h
  · cases h
theorem am_sta_inv {w len k pc : Nat} {L : am_Ls} {S : List am_V} {M : am_M} {n : Nat} {r : am_S} (h : am_sta w len k pc L S M n = some r) : ∃ x S', S = Sum.inr (Sum.inr x) :: S' ∧ len = w ∧ k < L.length ∧ r = (pc + w, L.set k (some (Sum.inr (Sum.inr x))), S', M, n) := by
  unfold am_sta at h
  split at h
  · split at h
    · rename_i hl; exact ⟨_, _, rfl, hl.1, hl.2, (Option.some.inj h).symm⟩
    · cases h
  · cases h
theorem am_inc_inv {k : Nat} {c : Int} {len pc : Nat} {L : am_Ls} {S : List am_V} {M : am_M} {n : Nat} {r : am_S} (h : am_inc k c len pc L S M n = some r) : ∃ x, len = 3 ∧ L[k]? = some (some (am_I x)) ∧ r = (pc + 3, L.set k (some (am_I (x + Int32.ofInt c))), S, M, n) := by
  unfold am_inc at h
  split at h
  · rename_i hl
    split at h
    · rename_i x hx; exact ⟨x, hl, hx, (Option.some.inj h).symm⟩
    · cases h
  · cases h
theorem am_bin_inv {f : Int32 → Int32 → Int32} {len pc : Nat} {L : am_Ls} {S : List am_V} {M : am_M} {n : Nat} {r : am_S} (h : am_bin f len pc L S M n = some r) : ∃ x y S', S = am_I y :: am_I x :: S' ∧ len = 1 ∧ r = (pc + 1, L, am_I (f x y) :: S', M, n) := by
  unfold am_bin at h
  split at h
  · split at h
    · rename_i hl; exact ⟨_, _, _, rfl, hl, (Option.some.inj h).symm⟩
    · cases h
  · cases h
theorem am_div_inv {f : Int32 → Int32 → Int32} {len pc : Nat} {L : am_Ls} {S : List am_V} {M : am_M} {n : Nat} {r : am_S} (h : am_div f len pc L S M n = some r) : ∃ x y S', S = am_I y :: am_I x :: S' ∧ len = 1 ∧ ¬ y = 0 ∧ r = (pc + 1, L, am_I (f x y) :: S', M, n) := by
  unfold am_div at h
  split at h
  · split at h
    · rename_i hl; exact ⟨_, _, _, rfl, hl.1, hl.2, (Option.some.inj h).symm⟩
    · cases h
  · cases h
theorem am_un_inv {f : Int32 → am_V} {len pc : Nat} {L : am_Ls} {S : List am_V} {M : am_M} {n : Nat} {r : am_S} (h : am_un f len pc L S M n = some r) : ∃ x S', S = am_I x :: S' ∧ len = 1 ∧ r = (pc + 1, L, f x :: S', M, n) := by
  unfold am_un at h
  split at h
  · split at h
    · rename_i hl; exact ⟨_, _, rfl, hl, (Option.some.inj h).symm⟩
    · cases h
  · cases h
theorem am_lc_inv {len pc : Nat} {L : am_Ls} {S : List am_V} {M : am_M} {n : Nat} {r : am_S} (h : am_lc len pc L S M n = some r) : ∃ x y S', S = am_L y :: am_L x :: S' ∧ len = 1 ∧ r = (pc + 1, L, am_I (lg_cmp x.toInt64 y.toInt64) :: S', M, n) := by
  unfold am_lc at h
  split at h
  · split at h
    · rename_i hl; exact ⟨_, _, _, rfl, hl, (Option.some.inj h).symm⟩
    · cases h
  · cases h
theorem am_dup_inv {len pc : Nat} {L : am_Ls} {S : List am_V} {M : am_M} {n : Nat} {r : am_S} (h : am_dup len pc L S M n = some r) : ∃ v S', S = v :: S' ∧ len = 1 ∧ am_isL v = false ∧ r = (pc + 1, L, v :: v :: S', M, n) := by
  unfold am_dup at h
  split at h
  · split at h
    · rename_i hl; exact ⟨_, _, rfl, hl.1, hl.2, (Option.some.inj h).symm⟩
    · cases h
  · cases h
theorem am_pop_inv {len pc : Nat} {L : am_Ls} {S : List am_V} {M : am_M} {n : Nat} {r : am_S} (h : am_pop len pc L S M n = some r) : ∃ v S', S = v :: S' ∧ len = 1 ∧ am_isL v = false ∧ r = (pc + 1, L, S', M, n) := by
  unfold am_pop at h
  split at h
  · split at h
    · rename_i hl; exact ⟨_, _, rfl, hl.1, hl.2, (Option.some.inj h).symm⟩
    · cases h
  · cases h
theorem am_dx1_inv {len pc : Nat} {L : am_Ls} {S : List am_V} {M : am_M} {n : Nat} {r : am_S} (h : am_dx1 len pc L S M n = some r) : ∃ v w S', S = v :: w :: S' ∧ len = 1 ∧ am_isL v = false ∧ am_isL w = false ∧ r = (pc + 1, L, v :: w :: v :: S', M, n) := by
  unfold am_dx1 at h
  split at h
  · split at h
    · rename_i hl; exact ⟨_, _, _, rfl, hl.1, hl.2.1, hl.2.2, (Option.some.inj h).symm⟩
    · cases h
  · cases h
theorem am_dx2_inv {len pc : Nat} {L : am_Ls} {S : List am_V} {M : am_M} {n : Nat} {r : am_S} (h : am_dx2 len pc L S M n = some r) : ∃ v w u S', S = v :: w :: u :: S' ∧ len = 1 ∧ am_isL v = false ∧ am_isL w = false ∧ am_isL u = false ∧ r = (pc + 1, L, v :: w :: u :: v :: S', M, n) := by
  unfold am_dx2 at h
  split at h
  · split at h
    · rename_i hl; exact ⟨_, _, _, _, rfl, hl.1, hl.2.1, hl.2.2.1, hl.2.2.2, (Option.some.inj h).symm⟩
    · cases h
  · cases h
theorem am_d2_inv {len pc : Nat} {L : am_Ls} {S : List am_V} {M : am_M} {n : Nat} {r : am_S} (h : am_d2 len pc L S M n = some r) : ∃ v w S', S = v :: w :: S' ∧ len = 1 ∧ am_isL v = false ∧ am_isL w = false ∧ r = (pc + 1, L, v :: w :: v :: w :: S', M, n) := by
  unfold am_d2 at h
  split at h
  · split at h
    · rename_i hl; exact ⟨_, _, _, rfl, hl.1, hl.2.1, hl.2.2, (Option.some.inj h).symm⟩
    · cases h
  · cases h
theorem am_if1_inv {c : Jvm.ClassFile.Cond} {off : Int} {len pc : Nat} {L : am_Ls} {S : List am_V} {M : am_M} {n : Nat} {r : am_S} (h : am_if1 c off len pc L S M n = some r) : ∃ x S', S = am_I x :: S' ∧ am_br (am_cnd c x 0) off len pc L S' M n = some r := by
  unfold am_if1 at h
  split at h
  · exact ⟨_, _, rfl, h⟩
  · cases h
theorem am_if2_inv {c : Jvm.ClassFile.Cond} {off : Int} {len pc : Nat} {L : am_Ls} {S : List am_V} {M : am_M} {n : Nat} {r : am_S} (h : am_if2 c off len pc L S M n = some r) : ∃ x y S', S = am_I y :: am_I x :: S' ∧ am_br (am_cnd c x y) off len pc L S' M n = some r := by
  unfold am_if2 at h
  split at h
  · exact ⟨_, _, _, rfl, h⟩
  · cases h
theorem am_ifa_inv {sh : am_Sh} {c : Jvm.ClassFile.ACond} {off : Int} {len pc : Nat} {L : am_Ls} {S : List am_V} {M : am_M} {n : Nat} {r : am_S} (h : am_ifa sh c off len pc L S M n = some r) : ∃ x y S', S = am_R y :: am_R x :: S' ∧ am_has sh x = true ∧ am_has sh y = true ∧ am_br (am_acn c x y) off len pc L S' M n = some r := by
  unfold am_ifa at h
  split at h
  · split at h
    · rename_i hl; exact ⟨_, _, _, rfl, hl.1, hl.2, h⟩
    · cases h
  · cases h
theorem am_ifn_inv {b : Bool} {off : Int} {len pc : Nat} {L : am_Ls} {S : List am_V} {M : am_M} {n : Nat} {r : am_S} (h : am_ifn b off len pc L S M n = some r) : ∃ o S', S = am_R o :: S' ∧ am_br (o.isNone == b) off len pc L S' M n = some r := by
  unfold am_ifn at h
  split at h
  · exact ⟨_, _, rfl, h⟩
  · cases h
theorem am_tsw_inv {d lo hi : Int} {offs : Array Int} {pc : Nat} {L : am_Ls} {S : List am_V} {M : am_M} {n : Nat} {r : am_S} (h : am_tsw d lo hi offs pc L S M n = some r) : ∃ x S', S = am_I x :: S' ∧ (((x.toInt < lo ∨ hi < x.toInt) ∧ am_jmp d pc L S' M n = some r) ∨ (¬ (x.toInt < lo ∨ hi < x.toInt) ∧ ∃ off, offs[(x.toInt - lo).toNat]? = some off ∧ am_jmp off pc L S' M n = some r)) := by
  unfold am_tsw at h
  split at h
  · split at h
    · rename_i hl; exact ⟨_, _, rfl, Or.inl ⟨hl, h⟩⟩
    · rename_i hl
      split at h
      · rename_i off ho; exact ⟨_, _, rfl, Or.inr ⟨hl, off, ho, h⟩⟩
      · cases h
  · cases h
theorem am_lsw_inv {d : Int} {ps : Array (Int × Int)} {pc : Nat} {L : am_Ls} {S : List am_V} {M : am_M} {n : Nat} {r : am_S} (h : am_lsw d ps pc L S M n = some r) : ∃ x S', S = am_I x :: S' ∧ am_lso ps = true ∧ am_jmp (Op.lookupswitch.offset ps.toList d x.toInt) pc L S' M n = some r := by
  unfold am_lsw at h
  split at h
  · split at h
    · rename_i hl; exact ⟨_, _, rfl, hl, h⟩
    · cases h
  · cases h
theorem am_gf_inv {sh : am_Sh} {m idx len pc : Nat} {L : am_Ls} {S : List am_V} {M : am_M} {n : Nat} {r : am_S} (h : am_gf sh m idx len pc L S M n = some r) : ∃ k S' ci j, S = am_R (some k) :: S' ∧ am_fl m idx = some (ci, j) ∧ len = 3 ∧ am_ct sh k = some (Sum.inl ci) ∧ r = (pc + 3, L, am_fv sh M ci j k :: S', M, n) := by
  unfold am_gf at h
  split at h
  · rename_i hf
    split at h
    · rename_i hl; exact ⟨_, _, _, _, rfl, hf, hl.1, hl.2, (Option.some.inj h).symm⟩
    · cases h
  · cases h
theorem am_pf_inv {sh : am_Sh} {m idx len pc : Nat} {L : am_Ls} {S : List am_V} {M : am_M} {n : Nat} {r : am_S} (h : am_pf sh m idx len pc L S M n = some r) : ∃ v k S' ci j, S = am_I v :: am_R (some k) :: S' ∧ am_fl m idx = some (ci, j) ∧ len = 3 ∧ am_ct sh k = some (Sum.inl ci) ∧ am_wr ci j = true ∧ (am_fk ci j = 0 ∨ (am_fk ci j = 1 ∧ (v = 0 ∨ v = 1))) ∧ r = (pc + 3, L, S', am_up M k j v, n) := by
  unfold am_pf at h
  split at h
  · rename_i hf
    split at h
    · rename_i hl; exact ⟨_, _, _, _, _, rfl, hf, hl.1, hl.2.1, hl.2.2.1, hl.2.2.2, (Option.some.inj h).symm⟩
    · cases h
  · cases h
theorem am_ald_inv {sh : am_Sh} {t len pc : Nat} {L : am_Ls} {S : List am_V} {M : am_M} {n : Nat} {r : am_S} (h : am_ald sh t len pc L S M n = some r) : ∃ i k S' u N, S = am_I i :: am_R (some k) :: S' ∧ am_ct sh k = some (Sum.inr (u, N)) ∧ len = 1 ∧ am_ix i N = true ∧ (u = t ∨ (u = 5 ∧ t = 0)) ∧ r = (pc + 1, L, am_I (M k i.toNatClampNeg) :: S', M, n) := by
  unfold am_ald at h
  split at h
  · split at h
    · rename_i hc
      split at h
      · rename_i hl; exact ⟨_, _, _, _, _, rfl, hc, hl.1, hl.2.1, hl.2.2, (Option.some.inj h).symm⟩
      · cases h
    · cases h
  · cases h
theorem am_lld_inv {sh : am_Sh} {len pc : Nat} {L : am_Ls} {S : List am_V} {M : am_M} {n : Nat} {r : am_S} (h : am_lld sh len pc L S M n = some r) : ∃ i k S' N, S = am_I i :: am_R (some k) :: S' ∧ am_ct sh k = some (Sum.inr (3, N)) ∧ len = 1 ∧ am_ix i N = true ∧ r = (pc + 1, L, am_L (M k i.toNatClampNeg) :: S', M, n) := by
  unfold am_lld at h
  split at h
  · split at h
    · rename_i hc
      split at h
      · rename_i hl
        obtain ⟨h1, h2, rfl⟩ := hl
        exact ⟨_, _, _, _, rfl, hc, h1, h2, (Option.some.inj h).symm⟩
      · cases h
    · cases h
  · cases h
theorem am_rld_inv {sh : am_Sh} {len pc : Nat} {L : am_Ls} {S : List am_V} {M : am_M} {n : Nat} {r : am_S} (h : am_rld sh len pc L S M n = some r) : ∃ i k S' u N, S = am_I i :: am_R (some k) :: S' ∧ am_ct sh k = some (Sum.inr (u, N)) ∧ len = 1 ∧ am_ix i N = true ∧ (u = 2 ∨ u = 4) ∧ r = (pc + 1, L, am_R (am_rf sh k i.toNatClampNeg) :: S', M, n) := by
  unfold am_rld at h
  split at h
  · split at h
    · rename_i hc
      split at h
      · rename_i hl; exact ⟨_, _, _, _, _, rfl, hc, hl.1, hl.2.1, hl.2.2, (Option.some.inj h).symm⟩
      · cases h
    · cases h
  · cases h
theorem am_ist_inv {sh : am_Sh} {len pc : Nat} {L : am_Ls} {S : List am_V} {M : am_M} {n : Nat} {r : am_S} (h : am_ist sh len pc L S M n = some r) : ∃ x i k S' N, S = am_I x :: am_I i :: am_R (some k) :: S' ∧ am_ct sh k = some (Sum.inr (0, N)) ∧ len = 1 ∧ am_ix i N = true ∧ r = (pc + 1, L, S', am_up M k i.toNatClampNeg x, n) := by
  unfold am_ist at h
  split at h
  · split at h
    · rename_i hc
      split at h
      · rename_i hl
        obtain ⟨h1, h2, rfl⟩ := hl
        exact ⟨_, _, _, _, _, rfl, hc, h1, h2, (Option.some.inj h).symm⟩
      · cases h
    · cases h
  · cases h
theorem am_zst_inv {sh : am_Sh} {len pc : Nat} {L : am_Ls} {S : List am_V} {M : am_M} {n : Nat} {r : am_S} (h : am_zst sh len pc L S M n = some r) : ∃ x i k S' N, S = am_I x :: am_I i :: am_R (some k) :: S' ∧ am_ct sh k = some (Sum.inr (1, N)) ∧ len = 1 ∧ am_ix i N = true ∧ (x = 0 ∨ x = 1) ∧ r = (pc + 1, L, S', am_up M k i.toNatClampNeg x, n) := by
  unfold am_zst at h
  split at h
  · split at h
    · rename_i hc
      split at h
      · rename_i hl
        obtain ⟨h1, h2, rfl, h3⟩ := hl
        exact ⟨_, _, _, _, _, rfl, hc, h1, h2, h3, (Option.some.inj h).symm⟩
      · cases h
    · cases h
  · cases h
theorem am_lst_inv {sh : am_Sh} {len pc : Nat} {L : am_Ls} {S : List am_V} {M : am_M} {n : Nat} {r : am_S} (h : am_lst sh len pc L S M n = some r) : ∃ x i k S' N, S = am_L x :: am_I i :: am_R (some k) :: S' ∧ am_ct sh k = some (Sum.inr (3, N)) ∧ len = 1 ∧ am_ix i N = true ∧ r = (pc + 1, L, S', am_up M k i.toNatClampNeg x, n) := by
  unfold am_lst at h
  split at h
  · split at h
    · rename_i hc
      split at h
      · rename_i hl
        obtain ⟨h1, h2, rfl⟩ := hl
        exact ⟨_, _, _, _, _, rfl, hc, h1, h2, (Option.some.inj h).symm⟩
      · cases h
    · cases h
  · cases h
theorem am_len_inv {sh : am_Sh} {len pc : Nat} {L : am_Ls} {S : List am_V} {M : am_M} {n : Nat} {r : am_S} (h : am_len sh len pc L S M n = some r) : ∃ k S' u N, S = am_R (some k) :: S' ∧ am_ct sh k = some (Sum.inr (u, N)) ∧ len = 1 ∧ r = (pc + 1, L, am_I (Int32.ofNat N) :: S', M, n) := by
  unfold am_len at h
  split at h
  · split at h
    · rename_i hc
      split at h
      · rename_i hl; exact ⟨_, _, _, _, rfl, hc, hl, (Option.some.inj h).symm⟩
      · cases h
    · cases h
  · cases h
theorem am_cpy_inv {sh : am_Sh} {len pc : Nat} {L : am_Ls} {S : List am_V} {M : am_M} {n : Nat} {r : am_S} (h : am_cpy sh len pc L S M n = some r) : ∃ c dp k1 sp k0 S' N0 N1, S = am_I c :: am_I dp :: am_R (some k1) :: am_I sp :: am_R (some k0) :: S' ∧ am_ct sh k0 = some (Sum.inr (0, N0)) ∧ am_ct sh k1 = some (Sum.inr (0, N1)) ∧ len = 3 ∧ S'.length ≤ 4 ∧ ¬ sp < 0 ∧ ¬ dp < 0 ∧ ¬ c < 0 ∧ sp.toNatClampNeg + c.toNatClampNeg ≤ N0 ∧ dp.toNatClampNeg + c.toNatClampNeg ≤ N1 ∧ r = (pc + 3, L, S', am_cp M k0 k1 sp.toNatClampNeg dp.toNatClampNeg c.toNatClampNeg, n) := by
  unfold am_cpy at h
  split at h
  · split at h
    · rename_i h0 h1
      split at h
      · rename_i hl
        obtain ⟨a1, a2, a3, a4, a5, a6, a7⟩ := hl
        exact ⟨_, _, _, _, _, _, _, _, rfl, h0, h1, a1, a2, a3, a4, a5, a6, a7, (Option.some.inj h).symm⟩
      · cases h
    · cases h
  · cases h
theorem am_inv_inv {sh : am_Sh} {kind m idx len pc : Nat} {L : am_Ls} {S : List am_V} {M : am_M} {n : Nat} {r : am_S ⊕ (am_O ⊕ am_C)} (h : am_inv sh kind m idx len pc L S M n = some r) : ∃ c k, am_ml m idx = some (c, k, kind) ∧ len = 3 ∧ k ≤ S.length ∧ S.length ≤ k + 4 ∧ n + am_bud c ≤ am_bud m ∧ (kind = 0 ∨ am_rcv sh c (S.take k).reverse = true) ∧ r = Sum.inr (Sum.inr (c, (S.take k).reverse, (pc, L, S.drop k, M, n))) := by
  unfold am_inv at h
  split at h
  · rename_i c k kd hm
    split at h
    · rename_i hl
      obtain ⟨a1, rfl, a3, a4, a5, a6⟩ := hl
      exact ⟨c, k, hm, a1, a3, a4, a5, a6, (Option.some.inj h).symm⟩
    · cases h
  · cases h
theorem am_iret_inv {m len : Nat} {S : List am_V} {M : am_M} {n : Nat} {r : am_S ⊕ (am_O ⊕ am_C)} (h : am_iret m len S M n = some r) : ∃ v, S = [am_I v] ∧ len = 1 ∧ n ≤ am_bud m ∧ (am_rt m = some .int ∨ (am_rt m = some .boolean ∧ (v = 0 ∨ v = 1))) ∧ r = Sum.inr (Sum.inl (M, Sum.inl (some (am_I v)))) := by
  unfold am_iret at h
  split at h
  · split at h
    · rename_i hl; exact ⟨_, rfl, hl.1, hl.2.1, hl.2.2, (Option.some.inj h).symm⟩
    · cases h
  · cases h
theorem am_aret_inv {m len : Nat} {S : List am_V} {M : am_M} {n : Nat} {r : am_S ⊕ (am_O ⊕ am_C)} (h : am_aret m len S M n = some r) : ∃ o, S = [am_R o] ∧ len = 1 ∧ n ≤ am_bud m ∧ am_ra m = true ∧ r = Sum.inr (Sum.inl (M, Sum.inl (some (am_R o)))) := by
  unfold am_aret at h
  split at h
  · split at h
    · rename_i hl; exact ⟨_, rfl, hl.1, hl.2.1, hl.2.2, (Option.some.inj h).symm⟩
    · cases h
  · cases h
theorem am_vret_inv {m len : Nat} {S : List am_V} {M : am_M} {n : Nat} {r : am_S ⊕ (am_O ⊕ am_C)} (h : am_vret m len S M n = some r) : S = [] ∧ len = 1 ∧ n ≤ am_bud m ∧ am_rt m = none ∧ r = Sum.inr (Sum.inl (M, Sum.inl none)) := by
  unfold am_vret at h
  split at h
  · rename_i hl; exact ⟨hl.2.1, hl.1, hl.2.2.1, hl.2.2.2, (Option.some.inj h).symm⟩
  · cases h
theorem am_thr_inv {m pc : Nat} {S : List am_V} {M : am_M} {n : Nat} {r : am_S ⊕ (am_O ⊕ am_C)} (h : am_thr m pc S M n = some r) : ∃ x, am_th m pc = some x ∧ S = [] ∧ n + 1 ≤ am_bud m ∧ r = Sum.inr (Sum.inl (M, Sum.inr x)) := by
  unfold am_thr at h
  split at h
  · rename_i x hx
    split at h
    · rename_i hl; exact ⟨x, hx, hl.1, hl.2, (Option.some.inj h).symm⟩
    · cases h
  · cases h
