/-! the tables of the abstract machine: written by program (wip/whole/gen) out of the Statement's own tables and javap's listing -/
abbrev am_K : Type := Nat × Nat × Nat
abbrev am_V : Type := Int32 ⊕ (Int32 ⊕ (Option am_K ⊕ Nat))
abbrev am_M : Type := am_K → Nat → Int32
/-- how many tiers; how many lines a tier has; how many sets; how long the script is -/
abbrev am_Sh : Type := Nat × (Nat → Nat) × (Nat → Nat) × Nat
def am_FLi : u_T := fun k => match k with
  | 0 => ("CacheLadder$Line", "words", "[I", true)
  | 1 => ("CacheLadder$Line", "block", "I", false)
  | 2 => ("CacheLadder$Line", "dirtyBits", "I", false)
  | 3 => ("CacheLadder$Line", "placedAt", "I", false)
  | 4 => ("CacheLadder$Line", "usedAt", "I", false)
  | 5 => ("CacheLadder$Line", "uses", "I", false)
  | _ => ("CacheLadder$Line", "marked", "Z", false)
def am_TLi : Nat → FieldType := fun k => match k with
  | 0 => .array .int
  | 1 => .int
  | 2 => .int
  | 3 => .int
  | 4 => .int
  | 5 => .int
  | _ => .boolean
def am_FTi : u_T := fun k => match k with
  | 0 => ("CacheLadder$Tier", "sets", "I", true)
  | 1 => ("CacheLadder$Tier", "ways", "I", true)
  | 2 => ("CacheLadder$Tier", "choosing", "I", true)
  | 3 => ("CacheLadder$Tier", "writing", "I", true)
  | 4 => ("CacheLadder$Tier", "closed", "Z", true)
  | 5 => ("CacheLadder$Tier", "lines", "[LCacheLadder$Line;", true)
  | 6 => ("CacheLadder$Tier", "hands", "[I", true)
  | 7 => ("CacheLadder$Tier", "counts", "[I", true)
  | _ => ("CacheLadder$Tier", "time", "I", false)
def am_TTi : Nat → FieldType := fun k => match k with
  | 0 => .int
  | 1 => .int
  | 2 => .int
  | 3 => .int
  | 4 => .boolean
  | 5 => .array (.object "CacheLadder$Line")
  | 6 => .array .int
  | 7 => .array .int
  | _ => .int
def am_FCL : u_T := fun k => match k with
  | 0 => ("CacheLadder", "store", "[I", true)
  | 1 => ("CacheLadder", "ladder", "[LCacheLadder$Tier;", true)
  | 2 => ("CacheLadder", "answered", "[I", true)
  | 3 => ("CacheLadder", "given", "[I", true)
  | 4 => ("CacheLadder", "height", "I", false)
  | 5 => ("CacheLadder", "loadCount", "I", false)
  | 6 => ("CacheLadder", "storeCount", "I", false)
  | _ => ("CacheLadder", "accessed", "Z", false)
def am_TCL : Nat → FieldType := fun k => match k with
  | 0 => .array .int
  | 1 => .array (.object "CacheLadder$Tier")
  | 2 => .array .int
  | 3 => .array .int
  | 4 => .int
  | 5 => .int
  | 6 => .int
  | _ => .boolean
def am_FMo : u_T := fun k => match k with
  | 0 => ("CacheLadderModel", "code", "I", false)
  | 1 => ("CacheLadderModel", "tierCount", "I", false)
  | 2 => ("CacheLadderModel", "begun", "Z", false)
  | 3 => ("CacheLadderModel", "setsOf", "[I", true)
  | 4 => ("CacheLadderModel", "waysOf", "[I", true)
  | 5 => ("CacheLadderModel", "choosing", "[I", true)
  | 6 => ("CacheLadderModel", "writing", "[I", true)
  | 7 => ("CacheLadderModel", "closed", "[Z", true)
  | 8 => ("CacheLadderModel", "counts", "[I", true)
  | 9 => ("CacheLadderModel", "hands", "[I", true)
  | 10 => ("CacheLadderModel", "blockOf", "[I", true)
  | 11 => ("CacheLadderModel", "dirtyOf", "[I", true)
  | 12 => ("CacheLadderModel", "placed", "[I", true)
  | 13 => ("CacheLadderModel", "used", "[I", true)
  | 14 => ("CacheLadderModel", "uses", "[I", true)
  | 15 => ("CacheLadderModel", "marked", "[Z", true)
  | 16 => ("CacheLadderModel", "lineWords", "[I", true)
  | 17 => ("CacheLadderModel", "clock", "I", false)
  | 18 => ("CacheLadderModel", "store", "[I", true)
  | 19 => ("CacheLadderModel", "loads", "I", false)
  | 20 => ("CacheLadderModel", "stores", "I", false)
  | 21 => ("CacheLadderModel", "answers", "[I", true)
  | 22 => ("CacheLadderModel", "writes", "[I", true)
  | 23 => ("CacheLadderModel", "jobs", "I", false)
  | 24 => ("CacheLadderModel", "job", "[I", true)
  | 25 => ("CacheLadderModel", "jobTier", "[I", true)
  | 26 => ("CacheLadderModel", "jobBlock", "[I", true)
  | 27 => ("CacheLadderModel", "jobMask", "[I", true)
  | 28 => ("CacheLadderModel", "jobLine", "[I", true)
  | 29 => ("CacheLadderModel", "stage", "[I", true)
  | _ => ("CacheLadderModel", "before", "[I", true)
def am_TMo : Nat → FieldType := fun k => match k with
  | 0 => .int
  | 1 => .int
  | 2 => .boolean
  | 3 => .array .int
  | 4 => .array .int
  | 5 => .array .int
  | 6 => .array .int
  | 7 => .array .boolean
  | 8 => .array .int
  | 9 => .array .int
  | 10 => .array .int
  | 11 => .array .int
  | 12 => .array .int
  | 13 => .array .int
  | 14 => .array .int
  | 15 => .array .boolean
  | 16 => .array .int
  | 17 => .int
  | 18 => .array .int
  | 19 => .int
  | 20 => .int
  | 21 => .array .int
  | 22 => .array .int
  | 23 => .int
  | 24 => .array .int
  | 25 => .array .int
  | 26 => .array .int
  | 27 => .array .int
  | 28 => .array .int
  | 29 => .array .int
  | _ => .array .int
def am_cn (c : Nat) : String := match c with
  | 0 => "CacheLadder$Line"
  | 1 => "CacheLadder$Tier"
  | 2 => "CacheLadder"
  | 3 => "CacheLadderModel"
  | 4 => "CacheLadderLaw"
  | _ => "java/lang/Integer"
abbrev am_nT : String := "CacheLadder$Tier"
abbrev am_nL : String := "CacheLadder$Line"
def am_F (ci : Nat) : u_T := match ci with
  | 0 => am_FLi
  | 1 => am_FTi
  | 2 => am_FCL
  | _ => am_FMo
def am_T (ci : Nat) : Nat → FieldType := match ci with
  | 0 => am_TLi
  | 1 => am_TTi
  | 2 => am_TCL
  | _ => am_TMo
def am_nf (ci : Nat) : Nat := match ci with
  | 0 => 7
  | 1 => 9
  | 2 => 8
  | _ => 31
abbrev am_cl : List vw_C := [(am_cn 0, am_FLi, 7), (am_cn 1, am_FTi, 9), (am_cn 2, am_FCL, 8), (am_cn 3, am_FMo, 31)]
def am_fk (ci j : Nat) : Nat := match am_T ci j with
  | .int => 0
  | .boolean => 1
  | _ => 2
def am_wr (ci j : Nat) : Bool := !(am_F ci j).2.2.2
/-- the reference's arrays, by their fields -/
def am_mk (j : Nat) : Option (Nat ⊕ (Nat × Nat)) := match j with
  | 3 => some (Sum.inr (0, 4))
  | 4 => some (Sum.inr (0, 4))
  | 5 => some (Sum.inr (0, 4))
  | 6 => some (Sum.inr (0, 4))
  | 7 => some (Sum.inr (1, 4))
  | 8 => some (Sum.inr (0, 24))
  | 9 => some (Sum.inr (0, 64))
  | 10 => some (Sum.inr (0, 256))
  | 11 => some (Sum.inr (0, 256))
  | 12 => some (Sum.inr (0, 256))
  | 13 => some (Sum.inr (0, 256))
  | 14 => some (Sum.inr (0, 256))
  | 15 => some (Sum.inr (1, 256))
  | 16 => some (Sum.inr (0, 1024))
  | 18 => some (Sum.inr (0, 1024))
  | 21 => some (Sum.inr (0, 20))
  | 22 => some (Sum.inr (0, 20))
  | 24 => some (Sum.inr (0, 64))
  | 25 => some (Sum.inr (0, 64))
  | 26 => some (Sum.inr (0, 64))
  | 27 => some (Sum.inr (0, 64))
  | 28 => some (Sum.inr (0, 64))
  | 29 => some (Sum.inr (0, 64))
  | 30 => some (Sum.inr (0, 1024))
  | _ => none
/-- which keys there are, and what their cells are: an object of the class numbered so, or an array: kind 0 int, 1 boolean, 2 tiers, 3 long, 4 lines, 5 the script; how long -/
def am_ct (sh : am_Sh) (k : am_K) : Option (Nat ⊕ (Nat × Nat)) := match k with
  | (0, a, b) => if a = 0 ∧ b = 0 then some (Sum.inl 2) else none
  | (1, a, b) => if a = 0 ∧ b = 0 then some (Sum.inr (0, 1024)) else none
  | (2, a, b) => if a = 0 ∧ b = 0 then some (Sum.inr (2, 4)) else none
  | (3, a, b) => if a = 0 ∧ b = 0 then some (Sum.inr (0, 4)) else none
  | (4, a, b) => if a = 0 ∧ b = 0 then some (Sum.inr (0, 4)) else none
  | (5, t, b) => if t < sh.1 ∧ b = 0 then some (Sum.inl 1) else none
  | (6, t, b) => if t < sh.1 ∧ b = 0 then some (Sum.inr (4, sh.2.1 t)) else none
  | (7, t, b) => if t < sh.1 ∧ b = 0 then some (Sum.inr (0, sh.2.2.1 t)) else none
  | (8, t, b) => if t < sh.1 ∧ b = 0 then some (Sum.inr (0, 6)) else none
  | (9, t, i) => if t < sh.1 ∧ i < sh.2.1 t then some (Sum.inl 0) else none
  | (10, t, i) => if t < sh.1 ∧ i < sh.2.1 t then some (Sum.inr (0, 4)) else none
  | (20, a, b) => if a = 0 ∧ b = 0 then some (Sum.inl 3) else none
  | (21, j, b) => if b = 0 then am_mk j else none
  | (30, a, b) => if a = 0 ∧ b = 0 then some (Sum.inr (3, 1)) else none
  | (31, a, b) => if a = 0 ∧ b = 0 then some (Sum.inr (5, sh.2.2.2)) else none
  | _ => none
/-- which cell a reference in a cell's field, or at an array's place, leads to -/
def am_rf (sh : am_Sh) (k : am_K) (j : Nat) : Option am_K := match k with
  | (0, _, _) => (match j with
    | 0 => some (1, 0, 0)
    | 1 => some (2, 0, 0)
    | 2 => some (3, 0, 0)
    | 3 => some (4, 0, 0)
    | _ => none)
  | (2, _, _) => if j < sh.1 then some (5, j, 0) else none
  | (5, t, _) => (match j with
    | 5 => some (6, t, 0)
    | 6 => some (7, t, 0)
    | 7 => some (8, t, 0)
    | _ => none)
  | (6, t, _) => if j < sh.2.1 t then some (9, t, j) else none
  | (9, t, i) => (match j with
    | 0 => some (10, t, i)
    | _ => none)
  | (20, _, _) => some (21, j, 0)
  | _ => none
abbrev am_Row : Type := MethodName × ByteArray × Nat × Option FieldType × List (Nat × Nat × Nat × Nat) × Nat × Nat × Nat
/-- a method: name, bytes, locals, what it answers, handlers, the number of its own class, of the receiver's (99: static), how many exceptions it may make -/
def am_tb : List am_Row := [
  (⟨"CacheLadder$Line", "go", "()V"⟩, prog_2_method_3_code, 1, none, [], 0, 0, 0),
  (⟨"CacheLadder$Line", "isThere", "()Z"⟩, prog_2_method_2_code, 1, some .boolean, [], 0, 0, 0),
  (⟨"CacheLadder$Tier", "find", "(I)LCacheLadder$Line;"⟩, prog_3_method_5_code, 3, some (.object "CacheLadder$Line"), [], 1, 1, 0),
  (⟨"CacheLadder$Tier", "wayOf", "(I)I"⟩, prog_3_method_4_code, 4, some .int, [], 1, 1, 0),
  (⟨"CacheLadder$Tier", "setOf", "(I)I"⟩, prog_3_method_2_code, 2, some .int, [], 1, 1, 0),
  (⟨"CacheLadder$Tier", "at", "(II)LCacheLadder$Line;"⟩, prog_3_method_3_code, 3, some (.object "CacheLadder$Line"), [], 1, 1, 0),
  (⟨"CacheLadder$Tier", "lose", "()V"⟩, prog_3_method_16_code, 2, none, [], 1, 1, 0),
  (⟨"CacheLadder$Tier", "freeIn", "(I)LCacheLadder$Line;"⟩, prog_3_method_6_code, 3, some (.object "CacheLadder$Line"), [], 1, 1, 0),
  (⟨"CacheLadder$Tier", "choose", "(I)LCacheLadder$Line;"⟩, prog_3_method_7_code, 2, some (.object "CacheLadder$Line"), [], 1, 1, 0),
  (⟨"CacheLadder$Tier", "turnHand", "(I)LCacheLadder$Line;"⟩, prog_3_method_11_code, 4, some (.object "CacheLadder$Line"), [], 1, 1, 0),
  (⟨"CacheLadder$Tier", "wayAfter", "(I)I"⟩, prog_3_method_13_code, 2, some .int, [], 1, 1, 0),
  (⟨"CacheLadder$Tier", "firstToGo", "(I)LCacheLadder$Line;"⟩, prog_3_method_9_code, 4, some (.object "CacheLadder$Line"), [], 1, 1, 0),
  (⟨"CacheLadder$Tier", "goesBefore", "(LCacheLadder$Line;LCacheLadder$Line;)Z"⟩, prog_3_method_10_code, 3, some .boolean, [], 1, 1, 0),
  (⟨"CacheLadder$Tier", "noteUse", "(LCacheLadder$Line;)V"⟩, prog_3_method_15_code, 2, none, [], 1, 1, 0),
  (⟨"CacheLadder$Tier", "place", "(LCacheLadder$Line;I)V"⟩, prog_3_method_14_code, 3, none, [], 1, 1, 0),
  (⟨"CacheLadder$Tier", "foresee", "(I)LCacheLadder$Line;"⟩, prog_3_method_8_code, 2, some (.object "CacheLadder$Line"), [], 1, 1, 0),
  (⟨"CacheLadder$Tier", "aheadOfHand", "(I)LCacheLadder$Line;"⟩, prog_3_method_12_code, 4, some (.object "CacheLadder$Line"), [], 1, 1, 0),
  (⟨"CacheLadder", "crash", "()I"⟩, prog_1_method_11_code, 4, some .int, [], 2, 2, 0),
  (⟨"CacheLadder", "uppermost", "(I)LCacheLadder$Line;"⟩, prog_1_method_29_code, 4, some (.object "CacheLadder$Line"), [], 2, 2, 0),
  (⟨"CacheLadder", "wordsUnlikeStore", "(LCacheLadder$Line;)I"⟩, prog_1_method_30_code, 4, some .int, [], 2, 2, 0),
  (⟨"CacheLadder", "traffic", "(Z)I"⟩, prog_1_method_13_code, 2, some .int, [], 2, 2, 0),
  (⟨"CacheLadder", "tiers", "()I"⟩, prog_1_method_18_code, 1, some .int, [], 2, 2, 0),
  (⟨"CacheLadder", "astray", "()I"⟩, prog_1_method_19_code, 5, some .int, [], 2, 2, 0),
  (⟨"CacheLadder", "standsWrong", "(ILCacheLadder$Line;)Z"⟩, prog_1_method_42_code, 3, some .boolean, [], 2, 2, 0),
  (⟨"CacheLadder", "isMissedBelow", "(II)Z"⟩, prog_1_method_43_code, 4, some .boolean, [], 2, 2, 0),
  (⟨"CacheLadder", "tier", "(IIIIZ)I"⟩, prog_1_method_2_code, 6, some .int, [], 2, 2, 1),
  (⟨"CacheLadder", "isSets", "(I)Z"⟩, prog_1_method_20_code, 1, some .boolean, [], 2, 99, 0),
  (⟨"CacheLadder", "read", "(I)I"⟩, prog_1_method_3_code, 2, some .int, [], 2, 2, 1),
  (⟨"CacheLadder", "needWord", "(I)V"⟩, prog_1_method_21_code, 1, none, [], 2, 99, 1),
  (⟨"CacheLadder", "readWord", "(I)I"⟩, prog_1_method_27_code, 2, some .int, [], 2, 2, 0),
  (⟨"CacheLadder", "blockOf", "(I)I"⟩, prog_1_method_25_code, 1, some .int, [], 2, 99, 0),
  (⟨"CacheLadder", "readAt", "(II[I)V"⟩, prog_1_method_31_code, 6, none, [], 2, 2, 0),
  (⟨"CacheLadder", "fetch", "(IIZ)LCacheLadder$Line;"⟩, prog_1_method_32_code, 5, some (.object "CacheLadder$Line"), [], 2, 2, 0),
  (⟨"CacheLadder", "makeRoom", "(II)LCacheLadder$Line;"⟩, prog_1_method_33_code, 7, some (.object "CacheLadder$Line"), [], 2, 2, 0),
  (⟨"CacheLadder", "leave", "(ILCacheLadder$Line;)V"⟩, prog_1_method_34_code, 3, none, [], 2, 2, 0),
  (⟨"CacheLadder", "gatherFromAbove", "(ILCacheLadder$Line;)V"⟩, prog_1_method_35_code, 5, none, [], 2, 2, 0),
  (⟨"CacheLadder", "copyWords", "(I[I[II)V"⟩, prog_1_method_26_code, 5, none, [], 2, 99, 0),
  (⟨"CacheLadder", "writeDirty", "(ILCacheLadder$Line;)I"⟩, prog_1_method_36_code, 4, some .int, [], 2, 2, 0),
  (⟨"CacheLadder", "writeBelow", "(III[I)V"⟩, prog_1_method_37_code, 5, none, [], 2, 2, 0),
  (⟨"CacheLadder", "writeAt", "(III[I)V"⟩, prog_1_method_38_code, 5, none, [], 2, 2, 0),
  (⟨"CacheLadder", "writeAround", "(III[I)V"⟩, prog_1_method_39_code, 6, none, [], 2, 2, 0),
  (⟨"CacheLadder", "writeInLine", "(III[I)V"⟩, prog_1_method_40_code, 7, none, [], 2, 2, 0),
  (⟨"CacheLadder", "closedBelow", "(I)Z"⟩, prog_1_method_41_code, 3, some .boolean, [], 2, 2, 0),
  (⟨"CacheLadder", "write", "(II)V"⟩, prog_1_method_4_code, 3, none, [], 2, 2, 1),
  (⟨"CacheLadder", "writeWord", "(II)V"⟩, prog_1_method_28_code, 3, none, [], 2, 2, 0),
  (⟨"CacheLadder", "fill", "(IIII)V"⟩, prog_1_method_5_code, 10, none, [], 2, 2, 2),
  (⟨"CacheLadder", "run", "(III)I"⟩, prog_1_method_6_code, 8, some .int, [], 2, 2, 1),
  (⟨"CacheLadder", "peek", "(I)I"⟩, prog_1_method_7_code, 3, some .int, [], 2, 2, 1),
  (⟨"CacheLadder", "stored", "(I)I"⟩, prog_1_method_8_code, 2, some .int, [], 2, 2, 1),
  (⟨"CacheLadder", "flush", "(I)I"⟩, prog_1_method_9_code, 5, some .int, [], 2, 2, 1),
  (⟨"CacheLadder", "needTier", "(I)V"⟩, prog_1_method_22_code, 2, none, [], 2, 2, 1),
  (⟨"CacheLadder", "empty", "(I)I"⟩, prog_1_method_10_code, 5, some .int, [], 2, 2, 1),
  (⟨"CacheLadder", "count", "(II)I"⟩, prog_1_method_12_code, 3, some .int, [], 2, 2, 2),
  (⟨"CacheLadder", "line", "(III)I"⟩, prog_1_method_14_code, 4, some .int, [], 2, 2, 3),
  (⟨"CacheLadder", "needSet", "(II)V"⟩, prog_1_method_23_code, 3, none, [], 2, 2, 2),
  (⟨"CacheLadder", "way", "(II)I"⟩, prog_1_method_15_code, 3, some .int, [], 2, 2, 2),
  (⟨"CacheLadder", "needBlock", "(II)V"⟩, prog_1_method_24_code, 3, none, [], 2, 2, 2),
  (⟨"CacheLadder", "dirty", "(II)I"⟩, prog_1_method_16_code, 4, some .int, [], 2, 2, 2),
  (⟨"CacheLadder", "next", "(II)I"⟩, prog_1_method_17_code, 3, some .int, [], 2, 2, 2),
  (⟨"java/lang/Integer", "bitCount", "(I)I"⟩, prog_10_method_49_code, 1, some .int, [], 5, 99, 0),
  (⟨"CacheLadderModel", "thrown", "()I"⟩, prog_5_method_2_code, 1, some .int, [], 3, 3, 0),
  (⟨"CacheLadderModel", "tier", "(IIIIZ)I"⟩, prog_5_method_26_code, 7, some .int, [], 3, 3, 0),
  (⟨"CacheLadderModel", "in", "(III)Z"⟩, prog_5_method_3_code, 3, some .boolean, [], 3, 99, 0),
  (⟨"CacheLadderModel", "read", "(I)I"⟩, prog_5_method_29_code, 2, some .int, [], 3, 3, 0),
  (⟨"CacheLadderModel", "readWord", "(I)I"⟩, prog_5_method_27_code, 2, some .int, [], 3, 3, 0),
  (⟨"CacheLadderModel", "push", "(IIIII)V"⟩, prog_5_method_13_code, 6, none, [], 3, 3, 0),
  (⟨"CacheLadderModel", "workOff", "()V"⟩, prog_5_method_14_code, 2, none, [], 3, 3, 0),
  (⟨"CacheLadderModel", "stepRead", "(I)V"⟩, prog_5_method_18_code, 5, none, [], 3, 3, 0),
  (⟨"CacheLadderModel", "find", "(II)I"⟩, prog_5_method_6_code, 6, some .int, [], 3, 3, 0),
  (⟨"CacheLadderModel", "firstOf", "(II)I"⟩, prog_5_method_5_code, 3, some .int, [], 3, 3, 0),
  (⟨"CacheLadderModel", "makeRoom", "(I)V"⟩, prog_5_method_15_code, 5, none, [], 3, 3, 0),
  (⟨"CacheLadderModel", "freeIn", "(II)I"⟩, prog_5_method_9_code, 6, some .int, [], 3, 3, 0),
  (⟨"CacheLadderModel", "choice", "(II)I"⟩, prog_5_method_11_code, 10, some .int, [], 3, 3, 0),
  (⟨"CacheLadderModel", "goesBefore", "(III)Z"⟩, prog_5_method_10_code, 4, some .boolean, [], 3, 3, 0),
  (⟨"CacheLadderModel", "moveHand", "(II)V"⟩, prog_5_method_12_code, 5, none, [], 3, 3, 0),
  (⟨"CacheLadderModel", "use", "(I)V"⟩, prog_5_method_7_code, 2, none, [], 3, 3, 0),
  (⟨"CacheLadderModel", "answerLine", "(II)V"⟩, prog_5_method_16_code, 4, none, [], 3, 3, 0),
  (⟨"CacheLadderModel", "fillLine", "(IZ)V"⟩, prog_5_method_17_code, 6, none, [], 3, 3, 0),
  (⟨"CacheLadderModel", "place", "(II)V"⟩, prog_5_method_8_code, 3, none, [], 3, 3, 0),
  (⟨"CacheLadderModel", "stepWrite", "(I)V"⟩, prog_5_method_23_code, 7, none, [], 3, 3, 0),
  (⟨"CacheLadderModel", "storeWords", "(II)V"⟩, prog_5_method_20_code, 4, none, [], 3, 3, 0),
  (⟨"CacheLadderModel", "beginWrite", "(I)V"⟩, prog_5_method_22_code, 4, none, [], 3, 3, 0),
  (⟨"CacheLadderModel", "isWatched", "(I)Z"⟩, prog_5_method_21_code, 4, some .boolean, [], 3, 3, 0),
  (⟨"CacheLadderModel", "goDown", "(III[II)V"⟩, prog_5_method_19_code, 7, none, [], 3, 3, 0),
  (⟨"CacheLadderModel", "bitsOf", "(I)I"⟩, prog_5_method_4_code, 1, some .int, [], 3, 99, 0),
  (⟨"CacheLadderModel", "stepLeave", "(I)V"⟩, prog_5_method_25_code, 5, none, [], 3, 3, 0),
  (⟨"CacheLadderModel", "gather", "(II)V"⟩, prog_5_method_24_code, 7, none, [], 3, 3, 0),
  (⟨"CacheLadderModel", "write", "(II)V"⟩, prog_5_method_30_code, 3, none, [], 3, 3, 0),
  (⟨"CacheLadderModel", "writeWord", "(II)V"⟩, prog_5_method_28_code, 3, none, [], 3, 3, 0),
  (⟨"CacheLadderModel", "fill", "(IIII)V"⟩, prog_5_method_31_code, 8, none, [], 3, 3, 0),
  (⟨"CacheLadderModel", "run", "(III)I"⟩, prog_5_method_32_code, 8, some .int, [], 3, 3, 0),
  (⟨"CacheLadderModel", "peek", "(I)I"⟩, prog_5_method_34_code, 2, some .int, [], 3, 3, 0),
  (⟨"CacheLadderModel", "newest", "(I)I"⟩, prog_5_method_33_code, 5, some .int, [], 3, 3, 0),
  (⟨"CacheLadderModel", "stored", "(I)I"⟩, prog_5_method_35_code, 2, some .int, [], 3, 3, 0),
  (⟨"CacheLadderModel", "flush", "(I)I"⟩, prog_5_method_38_code, 4, some .int, [], 3, 3, 0),
  (⟨"CacheLadderModel", "isTier", "(I)Z"⟩, prog_5_method_36_code, 2, some .boolean, [], 3, 3, 0),
  (⟨"CacheLadderModel", "each", "(II)I"⟩, prog_5_method_37_code, 7, some .int, [], 3, 3, 0),
  (⟨"CacheLadderModel", "empty", "(I)I"⟩, prog_5_method_39_code, 2, some .int, [], 3, 3, 0),
  (⟨"CacheLadderModel", "crash", "()I"⟩, prog_5_method_40_code, 3, some .int, [], 3, 3, 0),
  (⟨"CacheLadderModel", "count", "(II)I"⟩, prog_5_method_41_code, 3, some .int, [], 3, 3, 0),
  (⟨"CacheLadderModel", "traffic", "(Z)I"⟩, prog_5_method_42_code, 2, some .int, [], 3, 3, 0),
  (⟨"CacheLadderModel", "line", "(III)I"⟩, prog_5_method_43_code, 4, some .int, [], 3, 3, 0),
  (⟨"CacheLadderModel", "way", "(II)I"⟩, prog_5_method_44_code, 4, some .int, [], 3, 3, 0),
  (⟨"CacheLadderModel", "dirty", "(II)I"⟩, prog_5_method_45_code, 4, some .int, [], 3, 3, 0),
  (⟨"CacheLadderModel", "next", "(II)I"⟩, prog_5_method_46_code, 3, some .int, [], 3, 3, 0),
  (⟨"CacheLadderModel", "tiers", "()I"⟩, prog_5_method_47_code, 1, some .int, [], 3, 3, 0),
  (⟨"CacheLadderModel", "astray", "()I"⟩, prog_5_method_48_code, 1, some .int, [], 3, 3, 0),
  (⟨"CacheLadderLaw", "tier", "(LCacheLadder;IIIIZ[J)I"⟩, method_3_code, 8, some .int, [(0, 16, 19, 13), (0, 16, 23, 15), (0, 16, 27, 17)], 4, 99, 1),
  (⟨"CacheLadderLaw", "read", "(LCacheLadder;I[J)I"⟩, method_4_code, 4, some .int, [(0, 9, 12, 23)], 4, 99, 1),
  (⟨"CacheLadderLaw", "write", "(LCacheLadder;II)I"⟩, method_5_code, 4, some .int, [(0, 6, 9, 23)], 4, 99, 1),
  (⟨"CacheLadderLaw", "fill", "(LCacheLadder;IIII)I"⟩, method_6_code, 6, some .int, [(0, 9, 12, 13), (0, 9, 16, 23)], 4, 99, 2),
  (⟨"CacheLadderLaw", "run", "(LCacheLadder;III[J)I"⟩, method_7_code, 6, some .int, [(0, 12, 15, 13)], 4, 99, 1),
  (⟨"CacheLadderLaw", "peek", "(LCacheLadder;I[J)I"⟩, method_8_code, 4, some .int, [(0, 9, 12, 23)], 4, 99, 1),
  (⟨"CacheLadderLaw", "stored", "(LCacheLadder;I[J)I"⟩, method_9_code, 4, some .int, [(0, 9, 12, 23)], 4, 99, 1),
  (⟨"CacheLadderLaw", "flush", "(LCacheLadder;I[J)I"⟩, method_10_code, 4, some .int, [(0, 9, 12, 23)], 4, 99, 1),
  (⟨"CacheLadderLaw", "empty", "(LCacheLadder;I[J)I"⟩, method_11_code, 4, some .int, [(0, 9, 12, 23)], 4, 99, 1),
  (⟨"CacheLadderLaw", "count", "(LCacheLadder;II[J)I"⟩, method_12_code, 5, some .int, [(0, 10, 13, 23), (0, 10, 17, 13)], 4, 99, 2),
  (⟨"CacheLadderLaw", "line", "(LCacheLadder;III[J)I"⟩, method_13_code, 6, some .int, [(0, 12, 15, 23)], 4, 99, 3),
  (⟨"CacheLadderLaw", "way", "(LCacheLadder;II[J)I"⟩, method_14_code, 5, some .int, [(0, 10, 13, 23)], 4, 99, 2),
  (⟨"CacheLadderLaw", "dirty", "(LCacheLadder;II[J)I"⟩, method_15_code, 5, some .int, [(0, 10, 13, 23)], 4, 99, 2),
  (⟨"CacheLadderLaw", "next", "(LCacheLadder;II[J)I"⟩, method_16_code, 5, some .int, [(0, 10, 13, 23)], 4, 99, 2),
  (⟨"CacheLadderLaw", "law", "([I)Z"⟩, code, 7, some .boolean, [], 4, 99, 8)]
def am_row (m : Nat) : am_Row := am_tb.getD m (⟨"", "", ""⟩, ⟨#[]⟩, 0, none, [], 99, 99, 0)
def am_y (m : Nat) : MethodName := (am_row m).1
def am_b (m : Nat) : ByteArray := (am_row m).2.1
def am_mL (m : Nat) : Nat := (am_row m).2.2.1
def am_rt (m : Nat) : Option FieldType := (am_row m).2.2.2.1
def am_hh (m : Nat) : List (Nat × Nat × Nat × Nat) := (am_row m).2.2.2.2.1
def am_oc (m : Nat) : Nat := (am_row m).2.2.2.2.2.1
def am_rc (m : Nat) : Nat := (am_row m).2.2.2.2.2.2.1
def am_bud (m : Nat) : Nat := (am_row m).2.2.2.2.2.2.2
def am_ra (m : Nat) : Bool := match am_rt m with
  | some (.object _) => true
  | _ => false
/-- a class's field references: the entry; the class, the field -/
def am_ft (oc : Nat) : List (Nat × Nat × Nat) := match oc with
  | 0 => [(9, 0, 0), (15, 0, 1), (19, 0, 2)]
  | 1 => [(50, 0, 1), (89, 0, 2), (80, 0, 3), (74, 0, 4), (77, 0, 5), (86, 0, 6), (15, 1, 0), (19, 1, 1), (22, 1, 2), (25, 1, 3), (28, 1, 4), (34, 1, 5), (39, 1, 6), (9, 1, 7), (96, 1, 8)]
  | 2 => [(9, 2, 0), (15, 2, 1), (19, 2, 2), (22, 2, 3), (38, 2, 4), (133, 2, 5), (130, 2, 6), (47, 2, 7), (94, 0, 0), (148, 0, 1), (160, 0, 2), (182, 1, 0), (139, 1, 1), (236, 1, 3), (220, 1, 4), (102, 1, 5), (127, 1, 7)]
  | 3 => [(83, 3, 0), (131, 3, 1), (177, 3, 2), (7, 3, 3), (13, 3, 4), (16, 3, 5), (19, 3, 6), (22, 3, 7), (26, 3, 8), (29, 3, 9), (32, 3, 10), (35, 3, 11), (38, 3, 12), (41, 3, 13), (44, 3, 14), (47, 3, 15), (50, 3, 16), (91, 3, 17), (53, 3, 18), (134, 3, 19), (154, 3, 20), (56, 3, 21), (59, 3, 22), (102, 3, 23), (62, 3, 24), (65, 3, 25), (68, 3, 26), (71, 3, 27), (74, 3, 28), (77, 3, 29), (80, 3, 30)]
  | _ => []
/-- a class's method references: the entry; the callee, how many values it takes, 0 static, 1 on an object -/
def am_mt (oc : Nat) : List (Nat × Nat × Nat × Nat) := match oc with
  | 1 => [(53, 3, 2, 1), (42, 4, 2, 1), (46, 5, 3, 1), (99, 0, 1, 1), (56, 1, 1, 1), (60, 9, 2, 1), (83, 10, 2, 1), (64, 11, 2, 1), (70, 12, 3, 1), (92, 13, 2, 1), (67, 16, 2, 1)]
  | 2 => [(90, 18, 2, 1), (157, 2, 2, 1), (118, 19, 2, 1), (122, 6, 1, 1), (106, 1, 1, 1), (169, 23, 3, 1), (248, 24, 3, 1), (154, 3, 2, 1), (25, 26, 1, 0), (173, 59, 1, 0), (59, 28, 1, 0), (63, 29, 2, 1), (78, 30, 1, 0), (189, 31, 4, 1), (199, 32, 4, 1), (207, 33, 3, 1), (214, 4, 2, 1), (163, 7, 2, 1), (217, 8, 2, 1), (114, 34, 3, 1), (223, 35, 3, 1), (229, 36, 4, 0), (226, 0, 1, 1), (110, 37, 3, 1), (233, 38, 5, 1), (81, 39, 5, 1), (239, 40, 5, 1), (242, 41, 5, 1), (245, 42, 2, 1), (203, 13, 2, 1), (210, 14, 3, 1), (67, 44, 3, 1), (99, 50, 2, 1), (136, 54, 3, 1), (144, 5, 3, 1), (151, 56, 3, 1), (166, 15, 2, 1)]
  | 3 => [(174, 62, 3, 0), (184, 64, 2, 1), (124, 65, 6, 1), (181, 66, 1, 1), (105, 67, 2, 1), (137, 68, 3, 1), (87, 69, 3, 1), (140, 70, 2, 1), (114, 71, 3, 1), (117, 72, 3, 1), (98, 73, 4, 1), (120, 74, 3, 1), (94, 75, 2, 1), (143, 76, 3, 1), (146, 77, 3, 1), (128, 78, 3, 1), (108, 79, 2, 1), (157, 80, 3, 1), (160, 81, 2, 1), (163, 82, 2, 1), (167, 83, 6, 1), (150, 84, 1, 0), (111, 85, 2, 1), (171, 86, 3, 1), (187, 88, 3, 1), (191, 92, 2, 1), (194, 95, 2, 1), (197, 96, 3, 1)]
  | 4 => [(107, 17, 1, 1), (115, 20, 2, 1), (132, 21, 1, 1), (136, 22, 1, 1), (69, 107, 7, 0), (7, 25, 6, 1), (79, 108, 3, 0), (19, 27, 2, 1), (83, 109, 3, 0), (25, 43, 3, 1), (87, 110, 5, 0), (29, 45, 5, 1), (91, 111, 5, 0), (33, 46, 4, 1), (95, 112, 3, 0), (37, 47, 2, 1), (98, 113, 3, 0), (40, 48, 2, 1), (101, 114, 3, 0), (43, 49, 2, 1), (104, 115, 3, 0), (46, 51, 2, 1), (111, 116, 4, 0), (49, 52, 3, 1), (120, 117, 5, 0), (53, 53, 4, 1), (123, 118, 4, 0), (56, 55, 3, 1), (126, 119, 4, 0), (59, 57, 3, 1), (129, 120, 4, 0), (62, 58, 3, 1), (75, 60, 1, 1), (74, 61, 6, 1), (82, 63, 2, 1), (86, 87, 3, 1), (90, 89, 5, 1), (94, 90, 4, 1), (97, 91, 2, 1), (100, 93, 2, 1), (103, 94, 2, 1), (106, 97, 2, 1), (110, 98, 1, 1), (114, 99, 3, 1), (119, 100, 2, 1), (122, 101, 4, 1), (125, 102, 3, 1), (128, 103, 3, 1), (131, 104, 3, 1), (135, 105, 1, 1), (139, 106, 1, 1)]
  | _ => []
/-- a class's int constants -/
def am_kt (oc : Nat) : List (Nat × Int32) := match oc with
  | 2 => [(89, 1103515245)]
  | 3 => [(190, 1103515245)]
  | 5 => [(265, 1431655765), (266, 858993459), (267, 252645135)]
  | _ => []
def am_fl (m idx : Nat) : Option (Nat × Nat) := ((am_ft (am_oc m)).find? (fun e => e.1 == idx)).map (fun e => e.2)
def am_ml (m idx : Nat) : Option (Nat × Nat × Nat) := ((am_mt (am_oc m)).find? (fun e => e.1 == idx)).map (fun e => e.2)
def am_kc (m idx : Nat) : Option Int32 := ((am_kt (am_oc m)).find? (fun e => e.1 == idx)).map (fun e => e.2)
def am_ac (m idx : Nat) : Bool := am_oc m == 2 && idx == 193
def am_xn (x : Nat) : String := match x with
  | 0 => "java/lang/IllegalArgumentException"
  | 1 => "java/lang/UnsupportedOperationException"
  | 2 => "java/lang/IllegalStateException"
  | _ => "java/lang/IndexOutOfBoundsException"
/-- where an exception is made: method, place; its class, the entries of class, text, constructor -/
def am_tt : List (Nat × Nat × Nat × Nat × Nat × Nat) := [(25, 17, 0, 29, 31, 33), (25, 47, 0, 29, 36, 33), (25, 65, 1, 42, 44, 46), (25, 82, 2, 51, 53, 55), (28, 11, 3, 73, 178, 77), (45, 5, 0, 29, 71, 33), (45, 28, 3, 73, 75, 77), (46, 11, 0, 29, 85, 33), (46, 33, 0, 29, 87, 33), (50, 12, 3, 73, 180, 77), (52, 15, 0, 29, 125, 33), (53, 23, 3, 73, 142, 77), (54, 22, 3, 73, 185, 77), (56, 16, 3, 73, 187, 77)]
def am_th (m pc : Nat) : Option Nat := (am_tt.find? (fun e => e.1 == m && e.2.1 == pc)).map (fun e => e.2.2.1)
/-- where an exception is caught: method, place of the call, class; the handler -/
def am_ht : List (Nat × Nat × Nat × Nat) := [(107, 11, 0, 19), (107, 11, 1, 23), (107, 11, 2, 27), (108, 4, 3, 12), (109, 3, 3, 9), (110, 6, 0, 12), (110, 6, 3, 16), (111, 7, 0, 15), (112, 4, 3, 12), (113, 4, 3, 12), (114, 4, 3, 12), (115, 4, 3, 12), (116, 5, 3, 13), (116, 5, 0, 17), (117, 7, 3, 15), (118, 5, 3, 13), (119, 5, 3, 13), (120, 5, 3, 13)]
def am_hd (m pc x : Nat) : Option (Option Nat) := if am_hh m = [] then some none else (am_ht.find? (fun e => e.1 == m && e.2.1 == pc && e.2.2.1 == x)).map (fun e => some e.2.2.2)
