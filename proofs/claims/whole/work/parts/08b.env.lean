-- what the start says beyond the tables: which exceptions aren't which, two statics, the texts
def am_od : List MethodName := [⟨"java/lang/RuntimeException", "<init>", "(Ljava/lang/String;)V"⟩, ⟨"java/lang/Exception", "<init>", "(Ljava/lang/String;)V"⟩, ⟨"java/lang/Throwable", "<init>", "(Ljava/lang/String;)V"⟩]
def am_tx (is : Nat) : String := match is with
  | 31 => "no such sets or ways"
  | 36 => "no such choosing or writing"
  | 44 => "there are four tiers"
  | 53 => "a word was read or written before"
  | 71 => "fewer than one word"
  | 75 => "no such last word"
  | 85 => "no such number of accesses"
  | 87 => "no such span"
  | 125 => "no such count"
  | 142 => "no such way"
  | 178 => "no such word"
  | 180 => "no such tier"
  | 185 => "no such set"
  | 187 => "no such block"
  | _ => ""
def am_env (Ω : am_Ω) (s : State) : Prop := (∀ q ∈ am_np, va_Nc (am_xn q.1) (am_xn q.2) s) ∧ vx_Zq Bundle.tN "UNASSIGNED_STACK" Bundle.steD (am_A Ω s.heap.size) s s.heap ∧ vx_Zq Bundle.tN "SUPPRESSED_SENTINEL" Bundle.listD (am_A Ω s.heap.size) s s.heap ∧ (∀ t ∈ am_tt, ∃ a, vk_R (am_cn 2) t.2.2.2.2.1 (am_tx t.2.2.2.2.1) a s) ∧ (∀ x, x < 4 → va_Nw (.castable (am_xn x) (am_xn x)) s) ∧ (∀ y ∈ am_od, va_Nw (.declares y) s)
theorem am_A_mono {Ω : am_Ω} {z z' : Nat} (h : z ≤ z') {q : Nat} (hq : am_A Ω z' q) : am_A Ω z q := by
  rcases hq with h1 | h1
  · exact Or.inl h1
  · exact Or.inr (Nat.le_trans h h1)
theorem am_env_moved {Ω : am_Ω} {s U : State} {locs : List Loc} (h : am_env Ω s) (hS : va_S (am_A Ω s.heap.size) s.heap U.heap locs) (hW : s.WarmedH U.vm) : am_env Ω U := by
  obtain ⟨h1, h2, h3, h4, h5, h6⟩ := h
  refine ⟨fun q hq => (h1 q hq).moved hW.alike, ?_, ?_, fun t ht => ?_, fun x hx => ?_, fun y hy => (h6 y hy).warmD hW⟩
  · exact ((h2.kept hS.2.1).moved hW.alike).narrow (fun q hq => am_A_mono hS.1 hq)
  · exact ((h3.kept hS.2.1).moved hW.alike).narrow (fun q hq => am_A_mono hS.1 hq)
  · obtain ⟨a, ha⟩ := h4 t ht
    exact ⟨a, ha.warm hW⟩
  · exact va_tabs rfl (rfl : (s.setVm U.vm).vm = U.vm) (by rw [Cond.castable_setVm hW.alike]; exact h5 x hx)
def am_up2 : List String := ["java/lang/RuntimeException", "java/lang/Exception"]
/-- the words of a throw: good ones of the tables, or 'castable', or 'declares' -/
def am_tw (w : Cond) : Bool := ((tables_1.take 340).contains w && goodWord w) || ((List.range 4).any fun x => decide (w = .castable (am_xn x) (am_xn x))) || (am_od.any fun y => decide (w = .declares y))
theorem am_tw_0 : (vx_atS (am_cn 2) 33 (am_xn 0) am_up2).all am_tw = true := by decide +kernel
theorem am_tw_1 : (vx_atS (am_cn 2) 46 (am_xn 1) am_up2).all am_tw = true := by decide +kernel
theorem am_tw_2 : (vx_atS (am_cn 2) 55 (am_xn 2) am_up2).all am_tw = true := by decide +kernel
theorem am_tw_3 : (vx_atS (am_cn 2) 77 (am_xn 3) am_up2).all am_tw = true := by decide +kernel
