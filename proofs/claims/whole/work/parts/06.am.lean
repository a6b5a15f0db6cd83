/-! An abstract machine over keys: the cells of the class and of the reference, each named by a key (a kind and two numbers); memory holds the ints, the references are read off the keys. It decodes the very bytes of the methods. -/
abbrev am_I (x : Int32) : am_V := Sum.inl x
abbrev am_L (x : Int32) : am_V := Sum.inr (Sum.inl x)
abbrev am_R (o : Option am_K) : am_V := Sum.inr (Sum.inr (Sum.inl o))
abbrev am_X (a : Nat) : am_V := Sum.inr (Sum.inr (Sum.inr a))
abbrev am_Ls : Type := List (Option am_V)
abbrev am_S : Type := Nat × am_Ls × List am_V × am_M × Nat
abbrev am_O : Type := am_M × (Option am_V ⊕ Nat)
abbrev am_C : Type := Nat × List am_V × am_S
abbrev am_St : Type := Option (am_S ⊕ (am_O ⊕ am_C))
def am_up (M : am_M) (k : am_K) (j : Nat) (v : Int32) : am_M := fun k' j' => if k' = k ∧ j' = j then v else M k' j'
def am_cp (M : am_M) (k0 k1 : am_K) (sp dp n : Nat) : am_M := fun k' j' => if k' = k1 then va_cpy (M k0) (M k1) sp dp n j' else M k' j'
abbrev am_go (pc : Nat) (L : am_Ls) (S : List am_V) (M : am_M) (n : Nat) : Option am_S := some (pc, L, S, M, n)
def am_jmp (off : Int) (pc : Nat) (L : am_Ls) (S : List am_V) (M : am_M) (n : Nat) : Option am_S :=
  if 0 ≤ (pc : Int) + off then am_go ((pc : Int) + off).toNat L S M n else none
def am_br (c : Bool) (off : Int) (len pc : Nat) (L : am_Ls) (S : List am_V) (M : am_M) (n : Nat) : Option am_S :=
  if len = 3 ∧ 0 ≤ (pc : Int) + off then (if c = true then am_go ((pc : Int) + off).toNat L S M n else am_go (pc + 3) L S M n) else none
def am_cnd (c : Jvm.ClassFile.Cond) (x y : Int32) : Bool := match c with
  | .eq => decide (x = y)
  | .ne => decide (¬ x = y)
  | .lt => decide (x < y)
  | .ge => decide (y ≤ x)
  | .gt => decide (y < x)
  | .le => decide (x ≤ y)
def am_acn (c : Jvm.ClassFile.ACond) (x y : Option am_K) : Bool := match c with
  | .eq => decide (x = y)
  | .ne => decide (¬ x = y)
def am_ps (k len : Nat) (v : am_V) (pc : Nat) (L : am_Ls) (S : List am_V) (M : am_M) (n : Nat) : Option am_S :=
  if len = k then am_go (pc + k) L (v :: S) M n else none
def am_ldi (w len k pc : Nat) (L : am_Ls) (S : List am_V) (M : am_M) (n : Nat) : Option am_S :=
  if len = w then (match L[k]? with
    | some (some (.inl x)) => am_go (pc + w) L (am_I x :: S) M n
    | _ => none) else none
def am_lda (w len k pc : Nat) (L : am_Ls) (S : List am_V) (M : am_M) (n : Nat) : Option am_S :=
  if len = w then (match L[k]? with
    | some (some (.inr (.inr v))) => am_go (pc + w) L (Sum.inr (Sum.inr v) :: S) M n
    | _ => none) else none
def am_sti (w len k pc : Nat) (L : am_Ls) (S : List am_V) (M : am_M) (n : Nat) : Option am_S := match S with
  | .inl x :: S' => if len = w ∧ k < L.length then am_go (pc + w) (L.set k (some (am_I x))) S' M n else none
  | _ => none
def am_sta (w len k pc : Nat) (L : am_Ls) (S : List am_V) (M : am_M) (n : Nat) : Option am_S := match S with
  | .inr (.inr v) :: S' => if len = w ∧ k < L.length then am_go (pc + w) (L.set k (some (Sum.inr (Sum.inr v)))) S' M n else none
  | _ => none
def am_inc (k : Nat) (c : Int) (len pc : Nat) (L : am_Ls) (S : List am_V) (M : am_M) (n : Nat) : Option am_S :=
  if len = 3 then (match L[k]? with
    | some (some (.inl x)) => am_go (pc + 3) (L.set k (some (am_I (x + Int32.ofInt c)))) S M n
    | _ => none) else none
def am_bin (f : Int32 → Int32 → Int32) (len pc : Nat) (L : am_Ls) (S : List am_V) (M : am_M) (n : Nat) : Option am_S := match S with
  | .inl y :: .inl x :: S' => if len = 1 then am_go (pc + 1) L (am_I (f x y) :: S') M n else none
  | _ => none
def am_div (f : Int32 → Int32 → Int32) (len pc : Nat) (L : am_Ls) (S : List am_V) (M : am_M) (n : Nat) : Option am_S := match S with
  | .inl y :: .inl x :: S' => if len = 1 ∧ ¬ y = 0 then am_go (pc + 1) L (am_I (f x y) :: S') M n else none
  | _ => none
def am_un (f : Int32 → am_V) (len pc : Nat) (L : am_Ls) (S : List am_V) (M : am_M) (n : Nat) : Option am_S := match S with
  | .inl x :: S' => if len = 1 then am_go (pc + 1) L (f x :: S') M n else none
  | _ => none
def am_lc (len pc : Nat) (L : am_Ls) (S : List am_V) (M : am_M) (n : Nat) : Option am_S := match S with
  | .inr (.inl y) :: .inr (.inl x) :: S' => if len = 1 then am_go (pc + 1) L (am_I (lg_cmp x.toInt64 y.toInt64) :: S') M n else none
  | _ => none
def am_isL (v : am_V) : Bool := match v with
  | .inr (.inl _) => true
  | _ => false
def am_dup (len pc : Nat) (L : am_Ls) (S : List am_V) (M : am_M) (n : Nat) : Option am_S := match S with
  | v :: S' => if len = 1 ∧ am_isL v = false then am_go (pc + 1) L (v :: v :: S') M n else none
  | _ => none
def am_dx1 (len pc : Nat) (L : am_Ls) (S : List am_V) (M : am_M) (n : Nat) : Option am_S := match S with
  | v :: w :: S' => if len = 1 ∧ am_isL v = false ∧ am_isL w = false then am_go (pc + 1) L (v :: w :: v :: S') M n else none
  | _ => none
def am_dx2 (len pc : Nat) (L : am_Ls) (S : List am_V) (M : am_M) (n : Nat) : Option am_S := match S with
  | v :: w :: u :: S' => if len = 1 ∧ am_isL v = false ∧ am_isL w = false ∧ am_isL u = false then am_go (pc + 1) L (v :: w :: u :: v :: S') M n else none
  | _ => none
def am_d2 (len pc : Nat) (L : am_Ls) (S : List am_V) (M : am_M) (n : Nat) : Option am_S := match S with
  | v :: w :: S' => if len = 1 ∧ am_isL v = false ∧ am_isL w = false then am_go (pc + 1) L (v :: w :: v :: w :: S') M n else none
  | _ => none
def am_pop (len pc : Nat) (L : am_Ls) (S : List am_V) (M : am_M) (n : Nat) : Option am_S := match S with
  | v :: S' => if len = 1 ∧ am_isL v = false then am_go (pc + 1) L S' M n else none
  | _ => none
def am_if1 (c : Jvm.ClassFile.Cond) (off : Int) (len pc : Nat) (L : am_Ls) (S : List am_V) (M : am_M) (n : Nat) : Option am_S := match S with
  | .inl x :: S' => am_br (am_cnd c x 0) off len pc L S' M n
  | _ => none
def am_if2 (c : Jvm.ClassFile.Cond) (off : Int) (len pc : Nat) (L : am_Ls) (S : List am_V) (M : am_M) (n : Nat) : Option am_S := match S with
  | .inl y :: .inl x :: S' => am_br (am_cnd c x y) off len pc L S' M n
  | _ => none
def am_has (sh : am_Sh) (o : Option am_K) : Bool := match o with
  | none => true
  | some k => (am_ct sh k).isSome
def am_ifa (sh : am_Sh) (c : Jvm.ClassFile.ACond) (off : Int) (len pc : Nat) (L : am_Ls) (S : List am_V) (M : am_M) (n : Nat) : Option am_S := match S with
  | .inr (.inr (.inl y)) :: .inr (.inr (.inl x)) :: S' => if am_has sh x = true ∧ am_has sh y = true then am_br (am_acn c x y) off len pc L S' M n else none
  | _ => none
def am_ifn (b : Bool) (off : Int) (len pc : Nat) (L : am_Ls) (S : List am_V) (M : am_M) (n : Nat) : Option am_S := match S with
  | .inr (.inr (.inl o)) :: S' => am_br (o.isNone == b) off len pc L S' M n
  | _ => none
def am_tsw (d lo hi : Int) (offs : Array Int) (pc : Nat) (L : am_Ls) (S : List am_V) (M : am_M) (n : Nat) : Option am_S := match S with
  | .inl x :: S' => if x.toInt < lo ∨ hi < x.toInt then am_jmp d pc L S' M n else (match offs[(x.toInt - lo).toNat]? with
    | some off => am_jmp off pc L S' M n
    | none => none)
  | _ => none
def am_lso (ps : Array (Int × Int)) : Bool := (ps.toList.zip (ps.toList.drop 1)).all (fun (a, next) => a.1 < next.1)
def am_lsw (d : Int) (ps : Array (Int × Int)) (pc : Nat) (L : am_Ls) (S : List am_V) (M : am_M) (n : Nat) : Option am_S := match S with
  | .inl x :: S' => if am_lso ps = true then am_jmp (Op.lookupswitch.offset ps.toList d x.toInt) pc L S' M n else none
  | _ => none
/-- the value of a field, of an array's place -/
def am_fv (sh : am_Sh) (M : am_M) (ci j : Nat) (k : am_K) : am_V := if am_fk ci j = 2 then am_R (am_rf sh k j) else am_I (M k j)
def am_gf (sh : am_Sh) (m idx len pc : Nat) (L : am_Ls) (S : List am_V) (M : am_M) (n : Nat) : Option am_S := match S, am_fl m idx with
  | .inr (.inr (.inl (some k))) :: S', some (ci, j) => if len = 3 ∧ am_ct sh k = some (Sum.inl ci) then am_go (pc + 3) L (am_fv sh M ci j k :: S') M n else none
  | _, _ => none
def am_pf (sh : am_Sh) (m idx len pc : Nat) (L : am_Ls) (S : List am_V) (M : am_M) (n : Nat) : Option am_S := match S, am_fl m idx with
  | .inl v :: .inr (.inr (.inl (some k))) :: S', some (ci, j) => if len = 3 ∧ am_ct sh k = some (Sum.inl ci) ∧ am_wr ci j = true ∧ (am_fk ci j = 0 ∨ (am_fk ci j = 1 ∧ (v = 0 ∨ v = 1))) then am_go (pc + 3) L S' (am_up M k j v) n else none
  | _, _ => none
def am_ix (i : Int32) (N : Nat) : Bool := decide (¬ (i < 0 ∨ N ≤ i.toNatClampNeg))
def am_ald (sh : am_Sh) (t len pc : Nat) (L : am_Ls) (S : List am_V) (M : am_M) (n : Nat) : Option am_S := match S with
  | .inl i :: .inr (.inr (.inl (some k))) :: S' => (match am_ct sh k with
    | some (.inr (u, N)) => if len = 1 ∧ am_ix i N = true ∧ (u = t ∨ (u = 5 ∧ t = 0)) then am_go (pc + 1) L (am_I (M k i.toNatClampNeg) :: S') M n else none
    | _ => none)
  | _ => none
def am_lld (sh : am_Sh) (len pc : Nat) (L : am_Ls) (S : List am_V) (M : am_M) (n : Nat) : Option am_S := match S with
  | .inl i :: .inr (.inr (.inl (some k))) :: S' => (match am_ct sh k with
    | some (.inr (u, N)) => if len = 1 ∧ am_ix i N = true ∧ u = 3 then am_go (pc + 1) L (am_L (M k i.toNatClampNeg) :: S') M n else none
    | _ => none)
  | _ => none
def am_rld (sh : am_Sh) (len pc : Nat) (L : am_Ls) (S : List am_V) (M : am_M) (n : Nat) : Option am_S := match S with
  | .inl i :: .inr (.inr (.inl (some k))) :: S' => (match am_ct sh k with
    | some (.inr (u, N)) => if len = 1 ∧ am_ix i N = true ∧ (u = 2 ∨ u = 4) then am_go (pc + 1) L (am_R (am_rf sh k i.toNatClampNeg) :: S') M n else none
    | _ => none)
  | _ => none
def am_ist (sh : am_Sh) (len pc : Nat) (L : am_Ls) (S : List am_V) (M : am_M) (n : Nat) : Option am_S := match S with
  | .inl x :: .inl i :: .inr (.inr (.inl (some k))) :: S' => (match am_ct sh k with
    | some (.inr (u, N)) => if len = 1 ∧ am_ix i N = true ∧ u = 0 then am_go (pc + 1) L S' (am_up M k i.toNatClampNeg x) n else none
    | _ => none)
  | _ => none
def am_zst (sh : am_Sh) (len pc : Nat) (L : am_Ls) (S : List am_V) (M : am_M) (n : Nat) : Option am_S := match S with
  | .inl x :: .inl i :: .inr (.inr (.inl (some k))) :: S' => (match am_ct sh k with
    | some (.inr (u, N)) => if len = 1 ∧ am_ix i N = true ∧ u = 1 ∧ (x = 0 ∨ x = 1) then am_go (pc + 1) L S' (am_up M k i.toNatClampNeg x) n else none
    | _ => none)
  | _ => none
def am_lst (sh : am_Sh) (len pc : Nat) (L : am_Ls) (S : List am_V) (M : am_M) (n : Nat) : Option am_S := match S with
  | .inr (.inl x) :: .inl i :: .inr (.inr (.inl (some k))) :: S' => (match am_ct sh k with
    | some (.inr (u, N)) => if len = 1 ∧ am_ix i N = true ∧ u = 3 then am_go (pc + 1) L S' (am_up M k i.toNatClampNeg x) n else none
    | _ => none)
  | _ => none
def am_len (sh : am_Sh) (len pc : Nat) (L : am_Ls) (S : List am_V) (M : am_M) (n : Nat) : Option am_S := match S with
  | .inr (.inr (.inl (some k))) :: S' => (match am_ct sh k with
    | some (.inr (_, N)) => if len = 1 then am_go (pc + 1) L (am_I (Int32.ofNat N) :: S') M n else none
    | _ => none)
  | _ => none
/-- a call: callee, its arguments; kind 0: static; 1: on an object of the callee's class -/
def am_rcv (sh : am_Sh) (c : Nat) (as : List am_V) : Bool := match as with
  | .inr (.inr (.inl (some k))) :: _ => decide (am_ct sh k = some (Sum.inl (am_rc c)))
  | _ => false
def am_inv (sh : am_Sh) (kind m idx len pc : Nat) (L : am_Ls) (S : List am_V) (M : am_M) (n : Nat) : am_St := match am_ml m idx with
  | some (c, k, kd) => if len = 3 ∧ kd = kind ∧ k ≤ S.length ∧ S.length ≤ k + 4 ∧ n + am_bud c ≤ am_bud m ∧ (kind = 0 ∨ am_rcv sh c (S.take k).reverse = true) then some (Sum.inr (Sum.inr (c, (S.take k).reverse, (pc, L, S.drop k, M, n)))) else none
  | none => none
def am_cpy (sh : am_Sh) (len pc : Nat) (L : am_Ls) (S : List am_V) (M : am_M) (n : Nat) : Option am_S := match S with
  | .inl c :: .inl dp :: .inr (.inr (.inl (some k1))) :: .inl sp :: .inr (.inr (.inl (some k0))) :: S' => (match am_ct sh k0, am_ct sh k1 with
    | some (.inr (0, N0)), some (.inr (0, N1)) => if len = 3 ∧ S'.length ≤ 4 ∧ ¬ sp < 0 ∧ ¬ dp < 0 ∧ ¬ c < 0 ∧ sp.toNatClampNeg + c.toNatClampNeg ≤ N0 ∧ dp.toNatClampNeg + c.toNatClampNeg ≤ N1 then am_go (pc + 3) L S' (am_cp M k0 k1 sp.toNatClampNeg dp.toNatClampNeg c.toNatClampNeg) n else none
    | _, _ => none)
  | _ => none
def am_iret (m len : Nat) (S : List am_V) (M : am_M) (n : Nat) : am_St := match S with
  | [.inl v] => if len = 1 ∧ n ≤ am_bud m ∧ (am_rt m = some .int ∨ (am_rt m = some .boolean ∧ (v = 0 ∨ v = 1))) then some (Sum.inr (Sum.inl (M, Sum.inl (some (am_I v))))) else none
  | _ => none
def am_aret (m len : Nat) (S : List am_V) (M : am_M) (n : Nat) : am_St := match S with
  | [.inr (.inr (.inl o))] => if len = 1 ∧ n ≤ am_bud m ∧ am_ra m = true then some (Sum.inr (Sum.inl (M, Sum.inl (some (am_R o))))) else none
  | _ => none
def am_vret (m len : Nat) (S : List am_V) (M : am_M) (n : Nat) : am_St :=
  if len = 1 ∧ S = [] ∧ n ≤ am_bud m ∧ am_rt m = none then some (Sum.inr (Sum.inl (M, Sum.inl none))) else none
/-- 'throw new X("..")': five instructions from pc on -/
def am_thr (m pc : Nat) (S : List am_V) (M : am_M) (n : Nat) : am_St := match am_th m pc with
  | some x => if S = [] ∧ n + 1 ≤ am_bud m then some (Sum.inr (Sum.inl (M, Sum.inr x))) else none
  | none => none
def am_co (sh : am_Sh) (m : Nat) (i : Instr) (len pc : Nat) (L : am_Ls) (S : List am_V) (M : am_M) (n : Nat) : Option am_S := match i with
  | .iconst k => am_ps 1 len (am_I (Int32.ofInt k)) pc L S M n
  | .bipush k => am_ps 2 len (am_I (Int8.ofInt k).toInt32) pc L S M n
  | .sipush k => am_ps 3 len (am_I (Int16.ofInt k).toInt32) pc L S M n
  | .ldc idx => (match am_kc m idx with
    | some v => am_ps 2 len (am_I v) pc L S M n
    | none => none)
  | .ldc_w idx => (match am_kc m idx with
    | some v => am_ps 3 len (am_I v) pc L S M n
    | none => none)
  | .aconst_null => am_ps 1 len (am_R none) pc L S M n
  | .iload_n k => am_ldi 1 len k.val pc L S M n
  | .iload k => am_ldi 2 len k pc L S M n
  | .aload_n k => am_lda 1 len k.val pc L S M n
  | .aload k => am_lda 2 len k pc L S M n
  | .istore_n k => am_sti 1 len k.val pc L S M n
  | .istore k => am_sti 2 len k pc L S M n
  | .astore_n k => am_sta 1 len k.val pc L S M n
  | .astore k => am_sta 2 len k pc L S M n
  | .iinc k c => am_inc k c len pc L S M n
  | .iadd => am_bin (fun x y => x + y) len pc L S M n
  | .isub => am_bin (fun x y => x - y) len pc L S M n
  | .imul => am_bin (fun x y => x * y) len pc L S M n
  | .iand => am_bin (fun x y => x &&& y) len pc L S M n
  | .ior => am_bin (fun x y => x ||| y) len pc L S M n
  | .ixor => am_bin (fun x y => x ^^^ y) len pc L S M n
  | .ishl => am_bin (fun x y => x <<< (y &&& 31)) len pc L S M n
  | .ishr => am_bin (fun x y => x >>> (y &&& 31)) len pc L S M n
  | .iushr => am_bin (fun x y => (x.toUInt32 >>> (y.toUInt32 &&& Int32.toUInt32 31)).toInt32) len pc L S M n
  | .idiv => am_div (fun x y => x / y) len pc L S M n
  | .irem => am_div (fun x y => x - x / y * y) len pc L S M n
  | .ineg => am_un (fun x => am_I (-x)) len pc L S M n
  | .i2l => am_un (fun x => am_L x) len pc L S M n
  | .lcmp => am_lc len pc L S M n
  | .dup => am_dup len pc L S M n
  | .dup_x1 => am_dx1 len pc L S M n
  | .dup_x2 => am_dx2 len pc L S M n
  | .dup2 => am_d2 len pc L S M n
  | .pop => am_pop len pc L S M n
  | .goto off => if len = 3 then am_jmp off pc L S M n else none
  | .ifCond c off => am_if1 c off len pc L S M n
  | .if_icmp c off => am_if2 c off len pc L S M n
  | .if_acmp c off => am_ifa sh c off len pc L S M n
  | .ifnull off => am_ifn true off len pc L S M n
  | .ifnonnull off => am_ifn false off len pc L S M n
  | .tableswitch d lo hi offs => am_tsw d lo hi offs pc L S M n
  | .lookupswitch d ps => am_lsw d ps pc L S M n
  | .getfield idx => am_gf sh m idx len pc L S M n
  | .putfield idx => am_pf sh m idx len pc L S M n
  | .iaload => am_ald sh 0 len pc L S M n
  | .baload => am_ald sh 1 len pc L S M n
  | .laload => am_lld sh len pc L S M n
  | .aaload => am_rld sh len pc L S M n
  | .iastore => am_ist sh len pc L S M n
  | .bastore => am_zst sh len pc L S M n
  | .lastore => am_lst sh len pc L S M n
  | .arraylength => am_len sh len pc L S M n
  | _ => none
def am_st (sh : am_Sh) (m : Nat) (i : Instr) (len pc : Nat) (L : am_Ls) (S : List am_V) (M : am_M) (n : Nat) : am_St := match i with
  | .invokevirtual idx => am_inv sh 1 m idx len pc L S M n
  | .invokestatic idx => if am_ac m idx = true then (am_cpy sh len pc L S M n).map Sum.inl else am_inv sh 0 m idx len pc L S M n
  | .ireturn => am_iret m len S M n
  | .areturn => am_aret m len S M n
  | .return_ => am_vret m len S M n
  | .new _ => am_thr m pc S M n
  | i => (am_co sh m i len pc L S M n).map Sum.inl
def am_at (sh : am_Sh) (m : Nat) (σ : am_S) : am_St := match decode (am_b m) σ.1 with
  | .ok (i, len) => am_st sh m i len σ.1 σ.2.1 σ.2.2.1 σ.2.2.2.1 σ.2.2.2.2
  | .error _ => none
/-- from σ, with so much fuel, the method comes to what P says: at a state (fuel gone), or at an end -/
def am_wp (sh : am_Sh) (C : Nat → am_M → List am_V → am_O → Prop) (m : Nat) : Nat → am_S → (am_S ⊕ am_O → Prop) → Prop
  | 0, σ, P => P (Sum.inl σ)
  | f + 1, σ, P => match am_at sh m σ with
    | none => False
    | some (.inl σ') => am_wp sh C m f σ' P
    | some (.inr (.inl o)) => P (Sum.inr o)
    | some (.inr (.inr (c, as, σ'))) => ∃ o, C c σ'.2.2.2.1 as o ∧ (match o.2 with
      | .inl v => am_wp sh C m f (σ'.1 + 3, σ'.2.1, v.toList ++ σ'.2.2.1, o.1, σ'.2.2.2.2 + am_bud c) P
      | .inr x => (match am_hd m σ'.1 x with
        | none => False
        | some none => P (Sum.inr (o.1, Sum.inr x))
        | some (some h) => ∀ a, am_wp sh C m f (h, σ'.2.1, [am_X a], o.1, σ'.2.2.2.2 + am_bud c) P))
def am_ent (m : Nat) (as : List am_V) : am_Ls := as.map some ++ List.replicate (am_mL m - as.length) none
/-- a call that nests at most d deep: from memory M with arguments as it ends as o says -/
def am_cr (sh : am_Sh) : Nat → Nat → am_M → List am_V → am_O → Prop
  | 0 => fun _ _ _ _ => False
  | d + 1 => fun m M as o => as.length ≤ am_mL m ∧ (∀ v ∈ as, am_isL v = false) ∧ ∃ f, am_wp sh (am_cr sh d) m f (0, am_ent m as, [], M, 0) (fun r => r = Sum.inr o)
