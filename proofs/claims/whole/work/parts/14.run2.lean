section RUN2
variable {Ω : am_Ω} {d m : Nat} {p : Program} {l : Launch} {e : Env} {R : Room} {s : State} {mid : MethodId} {args : Array Value} {below : List Frame} {meth : Method} {c : Code} {Q : State → Prop} {pc len n : Nat} {L : am_Ls} {S : List am_V} {M : am_M} {σ : am_S}
theorem am_rcv_inv {sh : am_Sh} {cal : Nat} {as : List am_V} (h : am_rcv sh cal as = true) : ∃ k as', as = am_R (some k) :: as' ∧ am_ct sh k = some (Sum.inl (am_rc cal)) := by
  unfold am_rcv at h
  split at h
  · exact ⟨_, _, rfl, of_decide_eq_true h⟩
  · cases h
theorem am_len_of {x : Option MethodDescriptor} {f : MethodDescriptor → Nat} {k : Nat} (h : x.map f = some k) {sig : MethodDescriptor} (hs : x = some sig) : f sig = k := by
  subst hs
  exact Option.some.inj h
set_option maxHeartbeats 1000000 in
theorem am_s_callS (hC : am_Cx Ω (d + 1) m p e R s mid args meth c) {idx cal k : Nat} (hd : decode (am_b m) pc = .ok (.invokestatic idx, 3)) (hml : am_ml m idx = some (cal, k, 0)) (hk1 : k ≤ S.length) (hk2 : S.length ≤ k + 4) (hbud : n + am_bud cal ≤ am_bud m) {o : am_O} (hSd : am_Sd l Ω d cal M (S.take k).reverse o) (haf : am_af Ω m p l e R s mid args below meth c Q cal o pc L (S.drop k) n) : am_nx Ω m p l e R s mid args below meth c Q (pc, L, S, M, n) := by
  intro H locs ls hl hP hS hs T hT X
  subst hT
  obtain ⟨hcp, hlk, ⟨-, hst, hpn⟩ | ⟨h01, -⟩⟩ := am_fact_m hml
  · obtain ⟨⟨hx, hb, hmL, hown, hts⟩, hrest⟩ := hC
    obtain ⟨mk, hnamed⟩ : ∃ mk, s.methodNamed? (am_y cal) = some mk := by
      obtain ⟨-, -, -, -, ⟨-, hw⟩ | hw⟩ := hcp
      · exact Cond.code_named (hts _ hw)
      · obtain ⟨mk, -, -, hn, -⟩ := Cond.codeWith_spec (hts _ hw)
        exact ⟨mk, hn⟩
    obtain ⟨mt, ck, hm1, hm2, hm3, hm4, hm5, hm6, hm7, hm8⟩ := am_callee hts hcp hnamed
    have hstatic : mt.isStatic = true := Cond.static_spec hnamed hm1 (hts _ hst)
    obtain ⟨kP, hkP, -⟩ := className_of_methodNamed hnamed
    have hinitP : kP.init = .initialized := Cond.initialized_spec (findClass_of_methodNamed hnamed) hkP (hts _ hcp.2.2.1)
    have hlen : ((S.take k).reverse.map (am_c (am_ad Ω))).length = mt.sig.parameters.length := by
      rw [am_len_of hpn hm8]
      simp [hk1]
    have hstk : S.map (am_c (am_ad Ω)) = ((S.take k).reverse.map (am_c (am_ad Ω))).reverse ++ (S.drop k).map (am_c (am_ad Ω)) := by
      rw [List.map_reverse, List.reverse_reverse, ← List.map_append, List.take_append_drop]
    obtain ⟨vm', X1, hstep⟩ := X.invokestatic hx hown (hts _ hlk) hnamed hm1 hstatic hkP hinitP hcp.2.2.2.1 (g := F0 mid pc ls (S.map (am_c (am_ad Ω)))) rfl (argsL := (S.take k).reverse.map (am_c (am_ad Ω))) (rest := (S.drop k).map (am_c (am_ad Ω))) hlen hstk (by rw [hb]; exact hd)
    obtain ⟨T', locs', X', hP', hS', hsc', hG⟩ := am_core X1 ⟨⟨hx, hb, hmL, hown, hts⟩, hrest⟩ hSd hP hS hs hnamed (rest := S.drop k) (by simp; omega) hbud hl.1 hd hcp
    refine am_behind ⟨⟨hx, hb, hmL, hown, hts⟩, hrest⟩ hl hbud X' hP' hS' hsc' (T := T) (G := Q) (rest := S.drop k) (A0 := T.setTop (F0 mid pc ls (S.map (am_c (am_ad Ω))))) ?_ haf
    cases ho : o.2 with
    | inl v =>
      rw [ho] at hG
      exact fun target h => hstep target (fun acts => hG acts target h)
    | inr x =>
      rw [ho] at hG
      obtain ⟨a, ce, g1, g2, g3, g4, hG⟩ := hG
      exact ⟨a, ce, g1, g2, g3, g4, fun target h => hstep target (fun acts => hG acts target h)⟩
  · cases h01
set_option maxHeartbeats 1000000 in
theorem am_s_callV (hC : am_Cx Ω (d + 1) m p e R s mid args meth c) {idx cal k : Nat} (hd : decode (am_b m) pc = .ok (.invokevirtual idx, 3)) (hml : am_ml m idx = some (cal, k, 1)) (hk1 : k ≤ S.length) (hk2 : S.length ≤ k + 4) (hbud : n + am_bud cal ≤ am_bud m) (hrcv : am_rcv (am_sh Ω) cal (S.take k).reverse = true) {o : am_O} (hSd : am_Sd l Ω d cal M (S.take k).reverse o) (haf : am_af Ω m p l e R s mid args below meth c Q cal o pc L (S.drop k) n) : am_nx Ω m p l e R s mid args below meth c Q (pc, L, S, M, n) := by
  intro H locs ls hl hP hS hs T hT X
  subst hT
  obtain ⟨hcp, hlk, ⟨h01, -⟩ | ⟨-, hin, hsel, ⟨TT, NN, hcl⟩, hpn⟩⟩ := am_fact_m hml
  · cases h01
  · obtain ⟨⟨hx, hb, hmL, hown, hts⟩, hK, hrest⟩ := hC
    obtain ⟨kb, as', has, hct⟩ := am_rcv_inv hrcv
    have hin0 : am_in Ω := hrest.2.2.2.1
    obtain ⟨q0, hq, hw0⟩ := am_w_get M (hin0.1 kb _ hct (fun N h => by cases h))
    rw [am_e_obj hct] at hw0
    obtain ⟨cellB, hcB, hoB, hclB⟩ := va_recv hK hP hcl hw0
    obtain ⟨mk, methM, hnamed, hmethM, hstM, habM⟩ := Cond.instanceMethod_spec (hts _ hin)
    obtain ⟨mt, ck, hm1, hm2, hm3, hm4, hm5, hm6, hm7, hm8⟩ := am_callee hts hcp hnamed
    cases hmethM.symm.trans hm1
    obtain ⟨c2, r2, m2, q1, q2, q3, q4, kP, hkP, hkPi⟩ := Cond.selects_spec (hts _ hsel)
    cases hclB.symm.trans q1
    cases (State.methodFound?_of_named hnamed hcp.2.2.2.1).symm.trans q2
    cases hnamed.symm.trans q3
    have hselP : selectMethod e.platform s.vm cellB.cls mk = .method mk := by rw [Launch.admits_selectMethod X.admits]; exact q4
    have hk : k = as'.length + 1 := by
      have h1 := congrArg List.length has
      simp only [List.length_reverse, List.length_take, List.length_cons] at h1
      omega
    have hlen : (as'.map (am_c (am_ad Ω))).length = methM.sig.parameters.length := by
      have := am_len_of hpn hm8
      rw [List.length_map]
      omega
    have hstk : S.map (am_c (am_ad Ω)) = (as'.map (am_c (am_ad Ω))).reverse ++ Value.ref (am_ad Ω kb) :: (S.drop k).map (am_c (am_ad Ω)) := by
      have h1 : S.take k = as'.reverse ++ [am_R (some kb)] := by
        have h2 := congrArg List.reverse has
        rw [List.reverse_reverse, List.reverse_cons] at h2
        exact h2
      conv => lhs; rw [← List.take_append_drop k S, h1]
      simp only [List.map_append, List.map_reverse, List.map_cons, List.map_nil, List.append_assoc, List.cons_append, List.nil_append]
      rfl
    have harg : ((S.take k).reverse.map (am_c (am_ad Ω))).toArray = (Value.ref (am_ad Ω kb) :: as'.map (am_c (am_ad Ω))).toArray := by
      rw [has]
      rfl
    obtain ⟨vm', X1, hstep⟩ := X.invokevirtual hx hown (hts _ hlk) hnamed hmethM hstM hkP hkPi hcp.2.2.2.1 (a := am_ad Ω kb) (cell := cellB) hcB
      (fun z h => by rw [h] at hoB; cases hoB) hselP hmethM habM hkP hkPi (g := F0 mid pc ls (S.map (am_c (am_ad Ω)))) rfl (argsL := as'.map (am_c (am_ad Ω))) (rest := (S.drop k).map (am_c (am_ad Ω))) hlen hstk (by rw [hb]; exact hd)
    obtain ⟨T', locs', X', hP', hS', hsc', hG⟩ := am_core X1 ⟨⟨hx, hb, hmL, hown, hts⟩, hK, hrest⟩ hSd hP hS hs hnamed (rest := S.drop k) (by simp; omega) hbud hl.1 hd hcp
    refine am_behind ⟨⟨hx, hb, hmL, hown, hts⟩, hK, hrest⟩ hl hbud X' hP' hS' hsc' (T := T) (G := Q) (rest := S.drop k) (A0 := T.setTop (F0 mid pc ls (S.map (am_c (am_ad Ω))))) ?_ haf
    rw [harg] at hG
    cases ho : o.2 with
    | inl v =>
      rw [ho] at hG
      exact fun target h => hstep target (fun acts => hG acts target h)
    | inr x =>
      rw [ho] at hG
      obtain ⟨a, ce, g1, g2, g3, g4, hG⟩ := hG
      exact ⟨a, ce, g1, g2, g3, g4, fun target h => hstep target (fun acts => hG acts target h)⟩
theorem am_call1 (hC : am_Cx Ω (d + 1) m p e R s mid args meth c) {i : Instr} (hd : decode (am_b m) pc = .ok (i, len)) {cal : Nat} {as : List am_V} {σ' : am_S} (h : am_st (am_sh Ω) m i len pc L S M n = some (Sum.inr (Sum.inr (cal, as, σ')))) {o : am_O} (hSd : am_Sd l Ω d cal σ'.2.2.2.1 as o) (haf : am_af Ω m p l e R s mid args below meth c Q cal o σ'.1 σ'.2.1 σ'.2.2.1 σ'.2.2.2.2) : am_nx Ω m p l e R s mid args below meth c Q (pc, L, S, M, n) := by
  have hco : (am_co (am_sh Ω) m i len pc L S M n).map (Sum.inl (β := am_O ⊕ am_C)) = some (Sum.inr (Sum.inr (cal, as, σ'))) → False := fun q => by
    cases hq : am_co (am_sh Ω) m i len pc L S M n with
    | none => rw [hq] at q; cases q
    | some z => rw [hq] at q; cases q
  cases i with
  | invokevirtual idx =>
    obtain ⟨c', k, hml, rfl, hk1, hk2, hbud, hr, he⟩ := am_inv_inv (kind := 1) (idx := idx) h
    cases he
    rcases hr with h01 | hr
    · cases h01
    · exact am_s_callV hC hd hml hk1 hk2 hbud hr hSd haf
  | invokestatic idx =>
    have h' : (if am_ac m idx = true then (am_cpy (am_sh Ω) len pc L S M n).map Sum.inl else am_inv (am_sh Ω) 0 m idx len pc L S M n) = some (Sum.inr (Sum.inr (cal, as, σ'))) := h
    split at h'
    · cases hq : am_cpy (am_sh Ω) len pc L S M n with
      | none => rw [hq] at h'; cases h'
      | some z => rw [hq] at h'; cases h'
    · obtain ⟨c', k, hml, rfl, hk1, hk2, hbud, hr, he⟩ := am_inv_inv h'
      cases he
      exact am_s_callS hC hd hml hk1 hk2 hbud hSd haf
  | ireturn => obtain ⟨v, -, -, -, -, hr⟩ := am_iret_inv (r := Sum.inr (Sum.inr (cal, as, σ'))) h; cases hr
  | areturn => obtain ⟨v, -, -, -, -, hr⟩ := am_aret_inv (r := Sum.inr (Sum.inr (cal, as, σ'))) h; cases hr
  | return_ => obtain ⟨-, -, -, -, hr⟩ := am_vret_inv (r := Sum.inr (Sum.inr (cal, as, σ'))) h; cases hr
  | new idx => obtain ⟨x, -, -, -, hr⟩ := am_thr_inv (r := Sum.inr (Sum.inr (cal, as, σ'))) h; cases hr
  | _ => exact (hco h).elim
/-- THE WALK: what the abstract machine comes to, the machine comes to -/
theorem am_W (hC : am_Cx Ω (d + 1) m p e R s mid args meth c) {Cr : Nat → am_M → List am_V → am_O → Prop} (hCr : ∀ cal M as o, Cr cal M as o → am_Sd l Ω d cal M as o) {P : am_S ⊕ am_O → Prop} (hP : ∀ σ, P (Sum.inl σ) → am_nx Ω m p l e R s mid args below meth c Q σ) (hfin : ∀ o, P (Sum.inr o) → ∀ (t : State) (oc : Outcome), t.status = .running → Ended t below oc → am_Q Ω o (am_bud m) s oc t → Q t) : ∀ (f : Nat) (σ : am_S), am_wp (am_sh Ω) Cr m f σ P → am_nx Ω m p l e R s mid args below meth c Q σ := by
  intro f
  induction f with
  | zero => exact fun σ h => hP σ h
  | succ f ih =>
    intro σ h
    obtain ⟨pc, L, S, M, n⟩ := σ
    unfold am_wp at h
    cases hat : am_at (am_sh Ω) m (pc, L, S, M, n) with
    | none => rw [hat] at h; exact h.elim
    | some r =>
      rw [hat] at h
      unfold am_at at hat
      dsimp only at hat
      cases hd : decode (am_b m) pc with
      | error z => rw [hd] at hat; cases hat
      | ok il =>
        obtain ⟨i, len⟩ := il
        rw [hd] at hat
        dsimp only at hat
        match r, h, hat with
        | .inl σ', h, hat =>
          have hk := ih σ' h
          by_cases hac : ∃ idx, i = .invokestatic idx
          · obtain ⟨idx, rfl⟩ := hac
            have h' : (if am_ac m idx = true then (am_cpy (am_sh Ω) len pc L S M n).map Sum.inl else am_inv (am_sh Ω) 0 m idx len pc L S M n) = some (Sum.inl σ') := hat
            split at h'
            · rename_i hac
              cases hq : am_cpy (am_sh Ω) len pc L S M n with
              | none => rw [hq] at h'; cases h'
              | some z =>
                rw [hq] at h'
                cases h'
                exact am_s_cpy hC hd hac hq hk
            · obtain ⟨c', k, -, -, -, -, -, -, he⟩ := am_inv_inv h'
              cases he
          · have hq : am_co (am_sh Ω) m i len pc L S M n = some σ' := by
              have hmp : (am_co (am_sh Ω) m i len pc L S M n).map (Sum.inl (β := am_O ⊕ am_C)) = some (Sum.inl σ') := by
                cases i with
                | invokestatic idx => exact absurd ⟨idx, rfl⟩ hac
                | invokevirtual idx => obtain ⟨c', k, -, -, -, -, -, -, he⟩ := am_inv_inv (kind := 1) (idx := idx) (r := Sum.inl σ') hat; cases he
                | ireturn => obtain ⟨v, -, -, -, -, hr⟩ := am_iret_inv (r := Sum.inl σ') hat; cases hr
                | areturn => obtain ⟨v, -, -, -, -, hr⟩ := am_aret_inv (r := Sum.inl σ') hat; cases hr
                | return_ => obtain ⟨-, -, -, -, hr⟩ := am_vret_inv (r := Sum.inl σ') hat; cases hr
                | new idx => obtain ⟨x, -, -, -, hr⟩ := am_thr_inv (r := Sum.inl σ') hat; cases hr
                | _ => exact hat
              cases hz : am_co (am_sh Ω) m i len pc L S M n with
              | none => rw [hz] at hmp; cases hmp
              | some z => rw [hz] at hmp; cases hmp; rfl
            exact am_step1 hC hd hq hk
        | .inr (.inl o), h, hat =>
          by_cases hnew : ∃ idx, i = .new idx
          · obtain ⟨idx, rfl⟩ := hnew
            exact am_s_thr hC hat (hfin o h)
          · exact am_fin1 hC hd (fun idx q => hnew ⟨idx, q⟩) hat (hfin o h)
        | .inr (.inr (cal, as, σ')), h, hat =>
          obtain ⟨o, hcr, h⟩ := h
          refine am_call1 hC hd hat (hCr _ _ _ _ hcr) ?_
          unfold am_af
          cases ho : o.2 with
          | inl v =>
            rw [ho] at h
            exact ih _ h
          | inr x =>
            rw [ho] at h
            dsimp only at h ⊢
            cases hh : am_hd m σ'.1 x with
            | none => rw [hh] at h; exact h
            | some oh =>
              rw [hh] at h
              cases oh with
              | none => exact hfin _ h
              | some hp => exact fun a => ih _ (h a)
theorem am_ent_get {ad : am_K → Nat} {as : List am_V} {N i : Nat} {z : Slot} (h : (((as.map (am_c ad)).map Slot.val ++ List.replicate N Slot.unset).toArray)[i]? = some z) : (∃ v, as[i]? = some v ∧ z = .val (am_c ad v)) ∨ z = Slot.unset := by
  rw [List.getElem?_toArray] at h
  by_cases hi : i < as.length
  · rw [List.getElem?_append_left (by simpa using hi)] at h
    simp only [List.getElem?_map] at h
    cases ha : as[i]? with
    | none => rw [ha] at h; cases h
    | some v => rw [ha] at h; cases h; exact Or.inl ⟨v, rfl, rfl⟩
  · rw [List.getElem?_append_right (by simpa using hi)] at h
    exact Or.inr (List.eq_of_mem_replicate (List.mem_of_getElem? h))
theorem am_ent_at {m : Nat} {as : List am_V} {i : Nat} {v : am_V} (h : (am_ent m as)[i]? = some (some v)) : as[i]? = some v := by
  unfold am_ent at h
  by_cases hi : i < as.length
  · rw [List.getElem?_append_left (by simpa using hi), List.getElem?_map] at h
    cases ha : as[i]? with
    | none => rw [ha] at h; cases h
    | some w => rw [ha] at h; cases h; rfl
  · rw [List.getElem?_append_right (by simpa using hi)] at h
    cases List.eq_of_mem_replicate (List.mem_of_getElem? h)
theorem am_ent_lv {m : Nat} {as : List am_V} (hlen : as.length ≤ am_mL m) (hnl : ∀ v ∈ as, am_isL v = false) : am_lv Ω (am_mL m) (((as.map (am_c (am_ad Ω))).map Slot.val ++ List.replicate (am_mL m - (as.map (am_c (am_ad Ω))).length) Slot.unset).toArray) (am_ent m as) := by
  refine ⟨by simp; omega, by simp [am_ent]; omega, ⟨fun i v h hc => ?_, fun i h => ?_⟩, fun i v h => ?_, fun i v h => ?_⟩
  · rcases am_ent_get h with ⟨w, hw, he⟩ | he
    · cases he
      have := am_c_cat (ad := am_ad Ω) (hnl w (List.mem_of_getElem? hw))
      omega
    · cases he
  · rcases am_ent_get h with ⟨w, hw, he⟩ | he <;> cases he
  · exact hnl v (List.mem_of_getElem? (am_ent_at h))
  · have ha := am_ent_at h
    have hi : i < as.length := (List.getElem?_eq_some_iff.mp ha).1
    rw [List.getElem?_toArray, List.getElem?_append_left (by simpa using hi)]
    simp [List.getElem?_map, ha]
theorem am_ent_eq {ad : am_K → Nat} {m : Nat} {mid : MethodId} {as : List am_V} (hnl : ∀ v ∈ as, am_isL v = false) : entryFrame mid (as.map (am_c ad)).toArray (am_mL m) = F0 mid 0 (((as.map (am_c ad)).map Slot.val ++ List.replicate (am_mL m - (as.map (am_c ad)).length) Slot.unset).toArray) [] :=
  entry_eq mid _ (fun v hv => by
    obtain ⟨w, hw, rfl⟩ := List.mem_map.mp hv
    exact am_c_cat (hnl w hw)) _
/-- every call that the abstract machine makes, the machine makes -/
theorem am_sound (l : Launch) (Ω : am_Ω) : ∀ (d cal : Nat) (M : am_M) (as : List am_V) (o : am_O), am_cr (am_sh Ω) d cal M as o → am_Sd l Ω d cal M as o := by
  intro d
  induction d with
  | zero => exact fun _ _ _ _ h => h.elim
  | succ d ih =>
    intro cal M as o h
    obtain ⟨hlen, hnl, f, hf⟩ := h
    intro p e R s mid args below meth c T X hC hT hargs hP hs
    have hw := am_W (Q := fun t => ∃ oc, t.status = .running ∧ Ended t below oc ∧ am_Q Ω o (am_bud cal) s oc t) (l := l) (below := below) hC (fun cal M as o h => ih cal M as o h) (P := fun r => r = Sum.inr o) (fun σ q => by cases q) (fun o' q t oc h1 h2 h3 => ⟨oc, h1, h2, by cases q; exact h3⟩) f _ hf
    have hent := am_ent_lv (Ω := Ω) (m := cal) hlen hnl
    subst hargs
    obtain ⟨t, st, oc, h1, h2, h3⟩ := hw s.heap [] _ hent hP va_S.rf hs T hT X
    refine ⟨t, oc, ?_, h1, h2, h3⟩
    rw [am_ent_eq hnl]
    exact st
end RUN2
