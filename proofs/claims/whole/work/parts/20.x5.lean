-- the making of a tier
section XE
def y_ti : MethodName := ⟨"CacheLadder$Tier", "<init>", "(IIIIZ)V"⟩
abbrev b_ti : ByteArray := prog_3_method_1_code
theorem kw_ti : Cond.code y_ti b_ti 7 none ∈ am_ws := am_in1 235 (by decide +kernel) (by decide +kernel)
theorem kw_236 : Cond.methodLink "CacheLadder$Tier" 3 objectInit ∈ am_ws := am_in1 236 (by decide +kernel) (by decide +kernel)
theorem kw_237 : Cond.classLink "CacheLadder$Tier" 32 "CacheLadder$Line" ∈ am_ws := am_in1 237 (by decide +kernel) (by decide +kernel)
theorem kw_239 : Cond.instantiable "CacheLadder$Line" 7 ∈ am_ws := am_in1 239 (by decide +kernel) (by decide +kernel)
theorem kw_241 : Cond.instanceMethod y_li ∈ am_ws := am_in1 241 (by decide +kernel) (by decide +kernel)
theorem kw_271 : Cond.fieldLink "CacheLadder$Tier" 15 "CacheLadder$Tier" "sets" "I" ∈ am_ws := am_in1 271 (by decide +kernel) (by decide +kernel)
theorem kw_273 : Cond.fieldLink "CacheLadder$Tier" 19 "CacheLadder$Tier" "ways" "I" ∈ am_ws := am_in1 273 (by decide +kernel) (by decide +kernel)
theorem kw_275 : Cond.fieldLink "CacheLadder$Tier" 22 "CacheLadder$Tier" "choosing" "I" ∈ am_ws := am_in1 275 (by decide +kernel) (by decide +kernel)
theorem kw_276 : Cond.fieldLink "CacheLadder$Tier" 25 "CacheLadder$Tier" "writing" "I" ∈ am_ws := am_in1 276 (by decide +kernel) (by decide +kernel)
theorem kw_278 : Cond.fieldLink "CacheLadder$Tier" 28 "CacheLadder$Tier" "closed" "Z" ∈ am_ws := am_in1 278 (by decide +kernel) (by decide +kernel)
theorem kw_280 : Cond.fieldLink "CacheLadder$Tier" 34 "CacheLadder$Tier" "lines" "[LCacheLadder$Line;" ∈ am_ws := am_in1 280 (by decide +kernel) (by decide +kernel)
theorem kw_282 : Cond.fieldLink "CacheLadder$Tier" 39 "CacheLadder$Tier" "hands" "[I" ∈ am_ws := am_in1 282 (by decide +kernel) (by decide +kernel)
theorem kw_283 : Cond.fieldLink "CacheLadder$Tier" 9 "CacheLadder$Tier" "counts" "[I" ∈ am_ws := am_in1 283 (by decide +kernel) (by decide +kernel)
theorem kd_ti_0 : decode b_ti 0 = .ok (.aload_n 0, 1) := by decide +kernel
theorem kd_ti_1 : decode b_ti 1 = .ok (.invokespecial 3, 3) := by decide +kernel
theorem kd_ti_4 : decode b_ti 4 = .ok (.aload_n 0, 1) := by decide +kernel
theorem kd_ti_5 : decode b_ti 5 = .ok (.bipush 6, 2) := by decide +kernel
theorem kd_ti_7 : decode b_ti 7 = .ok (.newarray .int, 2) := by decide +kernel
theorem kd_ti_9 : decode b_ti 9 = .ok (.putfield 9, 3) := by decide +kernel
theorem kd_ti_12 : decode b_ti 12 = .ok (.aload_n 0, 1) := by decide +kernel
theorem kd_ti_13 : decode b_ti 13 = .ok (.iload_n 1, 1) := by decide +kernel
theorem kd_ti_14 : decode b_ti 14 = .ok (.putfield 15, 3) := by decide +kernel
theorem kd_ti_17 : decode b_ti 17 = .ok (.aload_n 0, 1) := by decide +kernel
theorem kd_ti_18 : decode b_ti 18 = .ok (.iload_n 2, 1) := by decide +kernel
theorem kd_ti_19 : decode b_ti 19 = .ok (.putfield 19, 3) := by decide +kernel
theorem kd_ti_22 : decode b_ti 22 = .ok (.aload_n 0, 1) := by decide +kernel
theorem kd_ti_23 : decode b_ti 23 = .ok (.iload_n 3, 1) := by decide +kernel
theorem kd_ti_24 : decode b_ti 24 = .ok (.putfield 22, 3) := by decide +kernel
theorem kd_ti_27 : decode b_ti 27 = .ok (.aload_n 0, 1) := by decide +kernel
theorem kd_ti_28 : decode b_ti 28 = .ok (.iload 4, 2) := by decide +kernel
theorem kd_ti_30 : decode b_ti 30 = .ok (.putfield 25, 3) := by decide +kernel
theorem kd_ti_33 : decode b_ti 33 = .ok (.aload_n 0, 1) := by decide +kernel
theorem kd_ti_34 : decode b_ti 34 = .ok (.iload 5, 2) := by decide +kernel
theorem kd_ti_36 : decode b_ti 36 = .ok (.putfield 28, 3) := by decide +kernel
theorem kd_ti_39 : decode b_ti 39 = .ok (.aload_n 0, 1) := by decide +kernel
theorem kd_ti_40 : decode b_ti 40 = .ok (.iload_n 1, 1) := by decide +kernel
theorem kd_ti_41 : decode b_ti 41 = .ok (.iload_n 2, 1) := by decide +kernel
theorem kd_ti_42 : decode b_ti 42 = .ok (.imul, 1) := by decide +kernel
theorem kd_ti_43 : decode b_ti 43 = .ok (.anewarray 32, 3) := by decide +kernel
theorem kd_ti_46 : decode b_ti 46 = .ok (.putfield 34, 3) := by decide +kernel
theorem kd_ti_49 : decode b_ti 49 = .ok (.iconst 0, 1) := by decide +kernel
theorem kd_ti_50 : decode b_ti 50 = .ok (.istore 6, 2) := by decide +kernel
theorem kd_ti_52 : decode b_ti 52 = .ok (.iload 6, 2) := by decide +kernel
theorem kd_ti_54 : decode b_ti 54 = .ok (.aload_n 0, 1) := by decide +kernel
theorem kd_ti_55 : decode b_ti 55 = .ok (.getfield 34, 3) := by decide +kernel
theorem kd_ti_58 : decode b_ti 58 = .ok (.arraylength, 1) := by decide +kernel
theorem kd_ti_59 : decode b_ti 59 = .ok (.if_icmp .ge 23, 3) := by decide +kernel
theorem kd_ti_62 : decode b_ti 62 = .ok (.aload_n 0, 1) := by decide +kernel
theorem kd_ti_63 : decode b_ti 63 = .ok (.getfield 34, 3) := by decide +kernel
theorem kd_ti_66 : decode b_ti 66 = .ok (.iload 6, 2) := by decide +kernel
theorem kd_ti_68 : decode b_ti 68 = .ok (.new 32, 3) := by decide +kernel
theorem kd_ti_71 : decode b_ti 71 = .ok (.dup, 1) := by decide +kernel
theorem kd_ti_72 : decode b_ti 72 = .ok (.invokespecial 38, 3) := by decide +kernel
theorem kd_ti_75 : decode b_ti 75 = .ok (.aastore, 1) := by decide +kernel
theorem kd_ti_76 : decode b_ti 76 = .ok (.iinc 6 1, 3) := by decide +kernel
theorem kd_ti_79 : decode b_ti 79 = .ok (.goto (-27), 3) := by decide +kernel
theorem kd_ti_82 : decode b_ti 82 = .ok (.aload_n 0, 1) := by decide +kernel
theorem kd_ti_83 : decode b_ti 83 = .ok (.iload_n 1, 1) := by decide +kernel
theorem kd_ti_84 : decode b_ti 84 = .ok (.newarray .int, 2) := by decide +kernel
theorem kd_ti_86 : decode b_ti 86 = .ok (.putfield 39, 3) := by decide +kernel
theorem kd_ti_89 : decode b_ti 89 = .ok (.return_, 1) := by decide +kernel
theorem va_D_app2 {A : Nat → Prop} {ws : va_W} {q u z : Nat} {e e1 e2 : va_E} (hD : va_D A (ws ++ [(q, e)])) (hlt : ∀ (k : Nat) (x : Nat × va_E), (ws ++ [(q, e)])[k]? = some x → x.1 < z) (hu : z ≤ u) (hA : A u) : va_D A (ws ++ [(q, e1), (u, e2)]) := by
  have key : ∀ (i : Nat) (x : Nat × va_E), (ws ++ [(q, e1), (u, e2)])[i]? = some x → (∃ x', (ws ++ [(q, e)])[i]? = some x' ∧ x'.1 = x.1) ∨ (i = ws.length + 1 ∧ x.1 = u) := by
    intro i x h
    rcases Nat.lt_trichotomy i ws.length with hl | hl | hl
    · rw [List.getElem?_append_left hl] at h
      exact Or.inl ⟨x, by rw [List.getElem?_append_left hl]; exact h, rfl⟩
    · subst hl
      rw [List.getElem?_append_right (Nat.le_refl _), Nat.sub_self] at h
      cases h
      exact Or.inl ⟨(q, e), by rw [List.getElem?_append_right (Nat.le_refl _), Nat.sub_self]; rfl, rfl⟩
    · rw [List.getElem?_append_right (by omega)] at h
      have h2 : i - ws.length < 2 := (List.getElem?_eq_some_iff.mp h).1
      rw [show i - ws.length = 1 by omega] at h
      cases h
      exact Or.inr ⟨by omega, rfl⟩
  refine ⟨fun i j x y hi hj hxy => ?_, fun k x hx => ?_⟩
  · rcases key i x hi with ⟨x', a1, a2⟩ | ⟨a1, a2⟩ <;> rcases key j y hj with ⟨y', b1, b2⟩ | ⟨b1, b2⟩
    · exact hD.1 i j x' y' a1 b1 (by rw [a2, b2]; exact hxy)
    · have := hlt i x' a1
      omega
    · have := hlt j y' b1
      omega
    · omega
  · rcases key k x hx with ⟨x', a1, a2⟩ | ⟨a1, a2⟩
    · rw [← a2]; exact hD.2 k x' a1
    · rw [a2]; exact hA
def lnw (cI : ClassId) (ps : List (Nat × Nat)) : va_W := ps.flatMap (fun q => [(q.1, .inr (0, [.ref q.2, .int (-1), .int 0, .int 0, .int 0, .int 0, .int 0])), (q.2, .inl (cI, 4, .inl (fun _ => 0)))])
def lnf (ps : List (Nat × Nat)) : Nat → Option Nat := fun j => (ps[j]?).map (fun q => q.1)
theorem lnf_push (ps : List (Nat × Nat)) (q u : Nat) : va_up (lnf ps) ps.length (some q) = lnf (ps ++ [(q, u)]) := by
  funext j
  unfold va_up lnf
  by_cases e : j = ps.length
  · subst e
    simp
  · rw [if_neg e]
    by_cases hl : j < ps.length
    · rw [List.getElem?_append_left hl]
    · rw [List.getElem?_eq_none (by omega), List.getElem?_eq_none (by simp; omega)]
theorem lnw_push (cI : ClassId) (ps : List (Nat × Nat)) (q u : Nat) : lnw cI (ps ++ [(q, u)]) = lnw cI ps ++ [(q, .inr (0, [.ref u, .int (-1), .int 0, .int 0, .int 0, .int 0, .int 0])), (u, .inl (cI, 4, .inl (fun _ => 0)))] := by
  unfold lnw
  rw [List.flatMap_append]
  rfl
abbrev tiw (cI cL : ClassId) (a q8 q6 N : Nat) (x1 x2 x3 x4 x5 : Int32) (v7 : Value) (ps : List (Nat × Nat)) : va_W := (a, .inr (1, [.int x1, .int x2, .int x3, .int x4, .int x5, .ref q6, v7, .ref q8, .int 0])) :: (q8, .inl (cI, 6, .inl (fun _ => 0))) :: (q6, .inl (cL, N, .inr (.inr (.inr (.inr (lnf ps)))))) :: lnw cI ps
theorem k_hws {s : State} {args : Array Value} (hts : ∀ w ∈ am_ws, w.before args s = true) {w0 : Cond} (h0 : w0 ∈ am_ws) : ∀ w ∈ w0 :: am_ws, ∀ (a' : Array Value) (U : State), s.WarmedH U.vm → w.before a' U = true := fun w hw a' U hW => by
  have h : w ∈ am_ws := by
    rcases List.mem_cons.mp hw with e | e
    · rw [e]; exact h0
    · exact e
  exact word_at hW (am_good w h) (hts w h)
set_option maxHeartbeats 4000000 in
set_option maxRecDepth 100000 in
theorem ti_loop {p : Program} {l : Launch} {e : Env} {R : Room} {s : State} {m : MethodId} {args : Array Value} {below : List Frame} {meth : Method} {c : Code} {Q : State → Prop} {A : Nat → Prop} {D : va_G} {tys : List (ClassId × FieldType)} {cI cL : ClassId} {a q8 q6 N : Nat} {x1 x2 x3 x4 x5 : Int32}
    (hx : p.tables.exec = Jvm.exec) (hb : c.code = b_ti) (hml : c.maxLocals = 7) (hown : s.vm.findClass "CacheLadder$Tier" = some m.cls) (hts : ∀ w ∈ am_ws, w.before args s = true) (hK : va_K D am_cl tys s) (h0 : tys[0]? = some (cI, .int)) (h4 : tys[4]? = some (cL, .object am_nL)) (htk : am_tk s) (hRc : 131 ≤ R.cells) (hRs : 790 ≤ R.slots) (hRf : 2 ≤ R.frames) (hRl : 32 ≤ R.locals) (hA : ∀ q, s.heap.size ≤ q → A q) (hN : N ≤ 64)
    (kk : ∀ (ps : List (Nat × Nat)) (H : Heap) (locs : List Loc) (cells slots : Nat) (ls : Array Slot), ps.length = N → cells ≤ 2 + 2 * N → slots ≤ 70 + 11 * N → va_P D am_cl (tiw cI cL a q8 q6 N x1 x2 x3 x4 x5 .null ps) H → va_D A (tiw cI cL a q8 q6 N x1 x2 x3 x4 x5 .null ps) → va_S A s.heap H locs → lv_has ls 7 [(0, .ref a), (1, .int x1)] → W p l e R s m args below meth c H locs cells slots Q (F0 m 82 ls [])) :
    ∀ (k : Nat) (ps : List (Nat × Nat)) (H : Heap) (locs : List Loc) (cells slots : Nat) (ls : Array Slot), ps.length + k = N → cells ≤ 2 + 2 * ps.length → slots ≤ 70 + 11 * ps.length → va_P D am_cl (tiw cI cL a q8 q6 N x1 x2 x3 x4 x5 .null ps) H → va_D A (tiw cI cL a q8 q6 N x1 x2 x3 x4 x5 .null ps) → va_S A s.heap H locs → lv_has ls 7 [(6, .int (nI ps.length)), (0, .ref a), (1, .int x1)] → W p l e R s m args below meth c H locs cells slots Q (F0 m 52 ls []) := by
  intro k
  induction k with
  | zero =>
    intro ps H locs cells slots ls hk hc1 hc2 hP hD hS hl
    refine lv_iload hx hb kd_ti_52 (lv_at hl 0 rfl) ?_
    refine lv_aload_n hx hb kd_ti_54 rfl (lv_at hl 1 rfl) ?_
    refine va_get (D := D) (ci := 1) (v := .ref q6) (C := am_cn 1) (T := am_FTi) (N := 9) hx hb hts am_u_1 hown hK hP 0 rfl rfl 5 (by decide) (hts _ kw_280) (fun _ h9 => h9) rfl kd_ti_55 ?_
    refine va_alen hx hb hK hP 2 4 rfl h4 (v := nI N) rfl kd_ti_58 ?_
    refine lv_icmp_ge (tgt := 82) hx hb kd_ti_59 (by decide) (fun _ => ?_) (fun q => absurd (nI_le (by omega) (by omega)) q)
    exact kk ps H locs cells slots ls (by omega) (by omega) (by omega) hP hD hS (lv_sub hl [1, 2] rfl)
  | succ k ih =>
    intro ps H locs cells slots ls hk hc1 hc2 hP hD hS hl
    refine lv_iload hx hb kd_ti_52 (lv_at hl 0 rfl) ?_
    refine lv_aload_n hx hb kd_ti_54 rfl (lv_at hl 1 rfl) ?_
    refine va_get (D := D) (ci := 1) (v := .ref q6) (C := am_cn 1) (T := am_FTi) (N := 9) hx hb hts am_u_1 hown hK hP 0 rfl rfl 5 (by decide) (hts _ kw_280) (fun _ h9 => h9) rfl kd_ti_55 ?_
    refine va_alen hx hb hK hP 2 4 rfl h4 (v := nI N) rfl kd_ti_58 ?_
    refine lv_icmp_ge (tgt := 82) hx hb kd_ti_59 (by decide) (fun q => absurd q (nI_ge (by omega) (by omega))) (fun _ => ?_)
    refine lv_aload_n hx hb kd_ti_62 rfl (lv_at hl 1 rfl) ?_
    refine va_get (D := D) (ci := 1) (v := .ref q6) (C := am_cn 1) (T := am_FTi) (N := 9) hx hb hts am_u_1 hown hK hP 0 rfl rfl 5 (by decide) (hts _ kw_280) (fun _ h9 => h9) rfl kd_ti_63 ?_
    refine lv_iload hx hb kd_ti_66 (lv_at hl 0 rfl) ?_
    refine va_new (ci := 0) (fs := [.null, .int 0, .int 0, .int 0, .int 0, .int 0, .int 0]) (C := am_cn 0) (T := am_FLi) (N := 7) hx hb hts am_u_0 (am_T 0) am_y_0 hown (hts _ kw_237) (hts _ kw_239) (hts _ am_i_0) hK hP hD hS hA rfl (fun j hj => by rcases (show j = 0 ∨ j = 1 ∨ j = 2 ∨ j = 3 ∨ j = 4 ∨ j = 5 ∨ j = 6 by omega) with rfl | rfl | rfl | rfl | rfl | rfl | rfl <;> rfl) (by omega) (by omega) kd_ti_68 (fun q H2 hP2 hD2 hS2 => ?_)
    refine lv_dup hx hb kd_ti_71 rfl ?_
    have hlt : ∀ (j : Nat) (x : Nat × va_E), (tiw cI cL a q8 q6 N x1 x2 x3 x4 x5 .null ps ++ [(q, .inr (0, [.null, .int 0, .int 0, .int 0, .int 0, .int 0, .int 0]))])[j]? = some x → x.1 < H2.size := fun j x hx2 => (hP2 j x hx2).lt
    have hqi : (tiw cI cL a q8 q6 N x1 x2 x3 x4 x5 .null ps ++ [(q, .inr (0, [.null, .int 0, .int 0, .int 0, .int 0, .int 0, .int 0]))])[(tiw cI cL a q8 q6 N x1 x2 x3 x4 x5 .null ps).length]? = some (q, .inr (0, [.null, .int 0, .int 0, .int 0, .int 0, .int 0, .int 0])) := by
      rw [List.getElem?_append_right (Nat.le_refl _), Nat.sub_self]
      rfl
    have hAq : A q := hD2.2 _ _ hqi
    have hPl : va_P D am_cl [(q, .inr (0, [.null, .int 0, .int 0, .int 0, .int 0, .int 0, .int 0]))] H2 := fun j x hj => by
      have h1 : j < 1 := (List.getElem?_eq_some_iff.mp hj).1
      rw [show j = 0 by omega] at hj
      cases hj
      exact hP2 _ _ hqi
    have hF : ∀ z, va_A [(q, .inr (0, []))] H2.size z → A z := fun z hz => by
      rcases hz with ⟨j, e9, hz⟩ | hz
      · have h1 : j < 1 := (List.getElem?_eq_some_iff.mp hz).1
        rw [show j = 0 by omega] at hz
        cases hz
        exact hAq
      · exact hA z (Nat.le_trans hS2.1 hz)
    refine va_callv (va_runIN (host := "CacheLadder") (n := 0) (As := []) (rest := [.ref q, .int (nI ps.length), .ref q6]) ⟨hx, hb, hml, hown, hts⟩ (c_li l D tys cI h0 q H2.size) ⟨⟨⟨rfl, rfl, hRf, hRl, k_hws hts kw_li, List.mem_cons_self⟩, hts _ kw_li, hts _ am_i_0, ⟨by decide, by decide⟩, fun sig h => by rw [show parseMethodDescriptor y_li.desc = some ⟨[], none⟩ from by decide +kernel] at h; cases h; rfl, va_Nw.use rfl htk.2⟩, rfl, hts _ kw_241⟩ ⟨fun a9 U g mk q9 => by obtain ⟨q0, q1, qP, qK⟩ := q9; exact ⟨q0, q1, qP, va_K.moved (u := U) (U := U.calling g mk a9) (Vm.Alike.refl U.vm) qK⟩, fun U hU hW => ⟨rfl, by rw [hU], by rw [hU]; exact hPl, va_K.moved hW.alike hK⟩⟩ rfl rfl hl.1 rfl (lv_room (Nat.le_of_ble_eq_true rfl)) kd_ti_72 ⟨by omega, by omega⟩) hS2 (fun z _ h => hF z h) hF (fun u t H3 locs3 ht hvm hu hB hz1 hk1 hS3 => ?_)
    rw [ht] at hB
    have hkeep : ∀ (j : Nat) (x : Nat × va_E), (tiw cI cL a q8 q6 N x1 x2 x3 x4 x5 .null ps)[j]? = some x → H3[x.1]? = H2[x.1]? := fun j x hj => by
      have hjl : j < (tiw cI cL a q8 q6 N x1 x2 x3 x4 x5 .null ps).length := (List.getElem?_eq_some_iff.mp hj).1
      have hj2 : (tiw cI cL a q8 q6 N x1 x2 x3 x4 x5 .null ps ++ [(q, .inr (0, [.null, .int 0, .int 0, .int 0, .int 0, .int 0, .int 0]))])[j]? = some x := by rw [List.getElem?_append_left hjl]; exact hj
      refine hk1 x.1 (hlt j x hj2) (fun hz => ?_)
      rcases hz with ⟨i9, e9, hz⟩ | hz
      · have h1 : i9 < 1 := (List.getElem?_eq_some_iff.mp hz).1
        rw [show i9 = 0 by omega] at hz
        have e1 : q = x.1 := congrArg Prod.fst (Option.some.inj hz)
        have := hD2.1 j _ x _ hj2 hqi e1.symm
        omega
      · exact absurd (hlt j x hj2) (by omega)
    have hPo : va_P D am_cl (tiw cI cL a q8 q6 N x1 x2 x3 x4 x5 .null ps) H2 := fun j x hj => hP2 j x (by rw [List.getElem?_append_left (List.getElem?_eq_some_iff.mp hj).1]; exact hj)
    have hP3 : va_P D am_cl (tiw cI cL a q8 q6 N x1 x2 x3 x4 x5 .null ps ++ [(q, .inr (0, [.ref u, .int (-1), .int 0, .int 0, .int 0, .int 0, .int 0])), (u, .inl (cI, 4, .inl (fun _ => 0)))]) H3 := va_P.app (hPo.kept hkeep) hB
    have hD3 : va_D A (tiw cI cL a q8 q6 N x1 x2 x3 x4 x5 .null ps ++ [(q, .inr (0, [.ref u, .int (-1), .int 0, .int 0, .int 0, .int 0, .int 0])), (u, .inl (cI, 4, .inl (fun _ => 0)))]) := va_D_app2 hD2 hlt hu (hA u (Nat.le_trans hS2.1 hu))
    refine va_astq hx hb hK hP3 hD3 hS3 2 4 (tiw cI cL a q8 q6 N x1 x2 x3 x4 x5 .null ps).length 0 (r := (am_cn 0, am_FLi, 7)) rfl h4 (by rw [List.getElem?_append_right (Nat.le_refl _), Nat.sub_self]; rfl) rfl (vp_in_nI (by omega) (by omega)) kd_ti_75 (fun H4 locs4 hP4 hD4 hS4 => ?_)
    rw [nI_clamp (by omega), lnf_push ps q u] at hP4 hD4
    have eW : (tiw cI cL a q8 q6 N x1 x2 x3 x4 x5 .null ps ++ ([(q, .inr (0, [.ref u, .int (-1), .int 0, .int 0, .int 0, .int 0, .int 0])), (u, .inl (cI, 4, .inl (fun _ => 0)))] : va_W)).set 2 (q6, .inl (cL, N, .inr (.inr (.inr (.inr (lnf (ps ++ [(q, u)]))))))) = tiw cI cL a q8 q6 N x1 x2 x3 x4 x5 .null (ps ++ [(q, u)]) := by
      unfold tiw
      rw [lnw_push]
      rfl
    rw [eW] at hP4 hD4
    have hlen : (ps ++ [(q, u)]).length = ps.length + 1 := by simp
    refine lv_iinc (k := 0) (v := nI (ps.length + 1)) (lv' := [(6, .int (nI (ps.length + 1))), (0, .ref a), (1, .int x1)]) hx hb kd_ti_76 hl rfl (nI_1 ps.length) (by decide) rfl (fun ls' hl' => ?_)
    refine lv_goto (tgt := 52) hx hb kd_ti_79 (by decide) ?_
    exact ih (ps ++ [(q, u)]) H4 locs4 (cells + 1 + 1) (slots + 7 + 4) ls' (by rw [hlen]; omega) (by rw [hlen]; omega) (by rw [hlen]; omega) hP4 hD4 hS4 (by rw [hlen]; exact hl')
end XE
