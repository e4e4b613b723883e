/-! ===== A PURE MACHINE: what a method's bytes do, over plain data. '.ref k': the k-th cell made since the law began; '.float j': a thing that was there before (0: the script). ===== -/
/-- an array: its length; what its places hold, those that were written: ints, longs, cells -/
abbrev px_A : Type := Nat × (List (Nat × Int32) ⊕ List (Nat × Int64) ⊕ List (Nat × Nat))
abbrev px_E : Type := (Nat × px_A) ⊕ (Nat × List Value)
abbrev px_H : Type := List px_E
abbrev px_L : Type := List (Nat × Value)
/-- what an entry of a class's pool stands for: its kind, two numbers, a long -/
abbrev px_X : Type := Nat × Nat × Nat × Int64
/-- a method: name, bytes, locals, answer, handlers, instructions, its class's pool -/
abbrev px_M : Type := MethodName × ByteArray × Nat × Option FieldType × List (Nat × Nat × Nat × Nat) × (Nat → Option Instr) × (Nat → Option px_X)
abbrev px_S : Type := Nat × px_L × List Value
def px_sw : Instr → Bool
  | .tableswitch .. => true
  | .lookupswitch .. => true
  | _ => false
def px_len : Instr → Nat
  | .bipush _ => 2 | .iload _ => 2 | .lload _ => 2 | .aload _ => 2 | .istore _ => 2 | .lstore _ => 2 | .astore _ => 2 | .ldc _ => 2 | .newarray _ => 2
  | .sipush _ => 3 | .ldc_w _ => 3 | .ldc2_w _ => 3 | .iinc _ _ => 3 | .ifCond _ _ => 3 | .if_icmp _ _ => 3 | .goto _ => 3 | .ifnull _ => 3 | .ifnonnull _ => 3
  | .getfield _ => 3 | .putfield _ => 3 | .getstatic _ => 3 | .putstatic _ => 3 | .invokevirtual _ => 3 | .invokespecial _ => 3 | .invokestatic _ => 3 | .new _ => 3 | .anewarray _ => 3
  | _ => 1
/-- a place among the locals -/
def px_ld (lv : px_L) (i : Nat) : Option Value := (lv.find? (fun q => q.1 == i)).map (fun q => q.2)
def px_s1 (lv : px_L) (i : Nat) (v : Value) : px_L := (i, v) :: lv.filter (fun q => !(q.1 == i) && !(q.1 + 1 == i && q.2.category == 2))
def px_s2 (lv : px_L) (i : Nat) (v : Value) : px_L := (i, v) :: lv.filter (fun q => !(q.1 == i) && (!(q.1 == i + 1) && !(q.1 + 1 == i && q.2.category == 2)))
def px_isr : Value → Bool
  | .ref _ => true
  | .float _ => true
  | _ => false
-- families of instructions
def px_push (n : Nat) (pc : Nat) (lv : px_L) (st : List Value) (v : Value) : Option px_S := some (pc + n, lv, v :: st)
def px_ldI (n : Nat) (pc : Nat) (lv : px_L) (st : List Value) (i : Nat) : Option px_S := match px_ld lv i with
  | some (.int x) => some (pc + n, lv, .int x :: st)
  | _ => none
def px_ldL (n : Nat) (pc : Nat) (lv : px_L) (st : List Value) (i : Nat) : Option px_S := match px_ld lv i with
  | some (.long x) => some (pc + n, lv, .long x :: st)
  | _ => none
def px_ldA (n : Nat) (pc : Nat) (lv : px_L) (st : List Value) (i : Nat) : Option px_S := match px_ld lv i with
  | some v => if px_isr v = true then some (pc + n, lv, v :: st) else none
  | none => none
def px_stI (nL n : Nat) (pc : Nat) (lv : px_L) (st : List Value) (i : Nat) : Option px_S := match st with
  | .int x :: r => if i < nL then some (pc + n, px_s1 lv i (.int x), r) else none
  | _ => none
def px_stL (nL n : Nat) (pc : Nat) (lv : px_L) (st : List Value) (i : Nat) : Option px_S := match st with
  | .long x :: r => if i + 1 < nL then some (pc + n, px_s2 lv i (.long x), r) else none
  | _ => none
def px_stA (nL n : Nat) (pc : Nat) (lv : px_L) (st : List Value) (i : Nat) : Option px_S := match st with
  | v :: r => if px_isr v = true ∧ i < nL then some (pc + n, px_s1 lv i v, r) else none
  | _ => none
def px_inc (nL : Nat) (pc : Nat) (lv : px_L) (st : List Value) (i : Nat) (n : Int) : Option px_S := match px_ld lv i with
  | some (.int x) => if i < nL then some (pc + 3, px_s1 lv i (.int (x + Int32.ofInt n)), st) else none
  | _ => none
def px_ii (f : Int32 → Int32 → Int32) (pc : Nat) (lv : px_L) (st : List Value) : Option px_S := match st with
  | .int y :: .int x :: r => some (pc + 1, lv, .int (f x y) :: r)
  | _ => none
/-- a division: not by 0 -/
def px_iq (f : Int32 → Int32 → Int32) (pc : Nat) (lv : px_L) (st : List Value) : Option px_S := match st with
  | .int y :: .int x :: r => if y = 0 then none else some (pc + 1, lv, .int (f x y) :: r)
  | _ => none
def px_ll (f : Int64 → Int64 → Int64) (pc : Nat) (lv : px_L) (st : List Value) : Option px_S := match st with
  | .long y :: .long x :: r => some (pc + 1, lv, .long (f x y) :: r)
  | _ => none
def px_lq (f : Int64 → Int64 → Int64) (pc : Nat) (lv : px_L) (st : List Value) : Option px_S := match st with
  | .long y :: .long x :: r => if y = 0 then none else some (pc + 1, lv, .long (f x y) :: r)
  | _ => none
def px_li (f : Int64 → Int32 → Int64) (pc : Nat) (lv : px_L) (st : List Value) : Option px_S := match st with
  | .int y :: .long x :: r => some (pc + 1, lv, .long (f x y) :: r)
  | _ => none
def px_i1 (f : Int32 → Int32) (pc : Nat) (lv : px_L) (st : List Value) : Option px_S := match st with
  | .int x :: r => some (pc + 1, lv, .int (f x) :: r)
  | _ => none
def px_cmpL (pc : Nat) (lv : px_L) (st : List Value) : Option px_S := match st with
  | .long y :: .long x :: r => some (pc + 1, lv, .int (lg_cmp x y) :: r)
  | _ => none
def px_i2l (pc : Nat) (lv : px_L) (st : List Value) : Option px_S := match st with
  | .int x :: r => some (pc + 1, lv, .long x.toInt64 :: r)
  | _ => none
def px_l2i (pc : Nat) (lv : px_L) (st : List Value) : Option px_S := match st with
  | .long x :: r => some (pc + 1, lv, .int x.toInt32 :: r)
  | _ => none
def px_lneg (pc : Nat) (lv : px_L) (st : List Value) : Option px_S := match st with
  | .long x :: r => some (pc + 1, lv, .long (-x) :: r)
  | _ => none
/-- a jump: the place it goes to is a number -/
def px_to (pc : Nat) (off : Int) : Option Nat := if 0 ≤ (pc : Int) + off then some ((pc : Int) + off).toNat else none
def px_jump (pc : Nat) (lv : px_L) (st : List Value) (off : Int) : Option px_S := match px_to pc off with
  | some t => some (t, lv, st)
  | none => none
def px_if (b : Int32 → Bool) (pc : Nat) (lv : px_L) (st : List Value) (off : Int) : Option px_S := match st, px_to pc off with
  | .int x :: r, some t => some (bif b x then t else pc + 3, lv, r)
  | _, _ => none
def px_ic (b : Int32 → Int32 → Bool) (pc : Nat) (lv : px_L) (st : List Value) (off : Int) : Option px_S := match st, px_to pc off with
  | .int y :: .int x :: r, some t => some (bif b x y then t else pc + 3, lv, r)
  | _, _ => none
def px_dup (pc : Nat) (lv : px_L) (st : List Value) : Option px_S := match st with
  | v :: r => if v.category = 1 then some (pc + 1, lv, v :: v :: r) else none
  | _ => none
def px_pop (pc : Nat) (lv : px_L) (st : List Value) : Option px_S := match st with
  | v :: r => if v.category = 1 then some (pc + 1, lv, r) else none
  | _ => none
def px_dup2 (pc : Nat) (lv : px_L) (st : List Value) : Option px_S := match st with
  | v :: w :: r => if v.category = 1 ∧ w.category = 1 then some (pc + 1, lv, v :: w :: v :: w :: r) else none
  | _ => none
def px_tsw (pc : Nat) (lv : px_L) (st : List Value) (dflt lo hi : Int) (offs : Array Int) : Option px_S := match st with
  | .int x :: r => if x.toInt < lo ∨ hi < x.toInt then px_jump pc lv r dflt else match offs[(x.toInt - lo).toNat]? with
    | some off => px_jump pc lv r off
    | none => none
  | _ => none
def px_lsw (pc : Nat) (lv : px_L) (st : List Value) (dflt : Int) (ps : Array (Int × Int)) : Option px_S := match st with
  | .int x :: r => if (ps.toList.zip (ps.toList.drop 1)).all (fun (a, next) => a.1 < next.1) = true then px_jump pc lv r (Op.lookupswitch.offset ps.toList dflt x.toInt) else none
  | _ => none
/-- the instructions that see the frame alone -/
def px_pure (nL : Nat) (i : Instr) (pc : Nat) (lv : px_L) (st : List Value) : Option px_S := match i with
  | .iconst n => px_push 1 pc lv st (.int (Int32.ofInt n))
  | .bipush n => px_push 2 pc lv st (.int (Int8.ofInt n).toInt32)
  | .sipush n => px_push 3 pc lv st (.int (Int16.ofInt n).toInt32)
  | .lconst n => px_push 1 pc lv st (.long (Int64.ofNat (n : Nat)))
  | .iload_n k => px_ldI 1 pc lv st k
  | .iload k => px_ldI 2 pc lv st k
  | .lload_n k => px_ldL 1 pc lv st k
  | .lload k => px_ldL 2 pc lv st k
  | .aload_n k => px_ldA 1 pc lv st k
  | .aload k => px_ldA 2 pc lv st k
  | .istore_n k => px_stI nL 1 pc lv st k
  | .istore k => px_stI nL 2 pc lv st k
  | .lstore_n k => px_stL nL 1 pc lv st k
  | .lstore k => px_stL nL 2 pc lv st k
  | .astore_n k => px_stA nL 1 pc lv st k
  | .astore k => px_stA nL 2 pc lv st k
  | .iinc k n => px_inc nL pc lv st k n
  | .iadd => px_ii (fun x y => x + y) pc lv st
  | .isub => px_ii (fun x y => x - y) pc lv st
  | .imul => px_ii (fun x y => x * y) pc lv st
  | .iand => px_ii (fun x y => x &&& y) pc lv st
  | .ior => px_ii (fun x y => x ||| y) pc lv st
  | .ixor => px_ii (fun x y => x ^^^ y) pc lv st
  | .ishl => px_ii (fun x y => x <<< (y &&& 31)) pc lv st
  | .ishr => px_ii (fun x y => x >>> (y &&& 31)) pc lv st
  | .iushr => px_ii (fun x y => (x.toUInt32 >>> (y.toUInt32 &&& Int32.toUInt32 31)).toInt32) pc lv st
  | .idiv => px_iq (fun x y => x / y) pc lv st
  | .irem => px_iq (fun x y => x - x / y * y) pc lv st
  | .ineg => px_i1 (fun x => -x) pc lv st
  | .i2b => px_i1 (fun x => x.toInt8.toInt32) pc lv st
  | .i2c => px_i1 (fun x => (x.toUInt32 % 65536).toInt32) pc lv st
  | .ladd => px_ll (fun x y => x + y) pc lv st
  | .lsub => px_ll (fun x y => x - y) pc lv st
  | .lmul => px_ll (fun x y => x * y) pc lv st
  | .land => px_ll (fun x y => x &&& y) pc lv st
  | .lor => px_ll (fun x y => x ||| y) pc lv st
  | .lxor => px_ll (fun x y => x ^^^ y) pc lv st
  | .ldiv => px_lq (fun x y => x / y) pc lv st
  | .lrem => px_lq (fun x y => x - x / y * y) pc lv st
  | .lneg => px_lneg pc lv st
  | .lshl => px_li (fun x y => x <<< (y.toInt64 &&& 63)) pc lv st
  | .lshr => px_li (fun x y => x >>> (y.toInt64 &&& 63)) pc lv st
  | .lushr => px_li (fun x y => (x.toUInt64 >>> (y.toInt64.toUInt64 &&& Int64.toUInt64 63)).toInt64) pc lv st
  | .i2l => px_i2l pc lv st
  | .l2i => px_l2i pc lv st
  | .lcmp => px_cmpL pc lv st
  | .dup => px_dup pc lv st
  | .pop => px_pop pc lv st
  | .dup2 => px_dup2 pc lv st
  | .goto off => px_jump pc lv st off
  | .ifCond .eq off => px_if (fun x => decide (x = 0)) pc lv st off
  | .ifCond .ne off => px_if (fun x => decide (¬ x = 0)) pc lv st off
  | .ifCond .lt off => px_if (fun x => decide (x < 0)) pc lv st off
  | .ifCond .ge off => px_if (fun x => decide (0 ≤ x)) pc lv st off
  | .ifCond .gt off => px_if (fun x => decide (0 < x)) pc lv st off
  | .ifCond .le off => px_if (fun x => decide (x ≤ 0)) pc lv st off
  | .if_icmp .eq off => px_ic (fun x y => decide (x = y)) pc lv st off
  | .if_icmp .ne off => px_ic (fun x y => decide (¬ x = y)) pc lv st off
  | .if_icmp .lt off => px_ic (fun x y => decide (x < y)) pc lv st off
  | .if_icmp .ge off => px_ic (fun x y => decide (y ≤ x)) pc lv st off
  | .if_icmp .gt off => px_ic (fun x y => decide (y < x)) pc lv st off
  | .if_icmp .le off => px_ic (fun x y => decide (x ≤ y)) pc lv st off
  | .tableswitch dflt lo hi offs => px_tsw pc lv st dflt lo hi offs
  | .lookupswitch dflt ps => px_lsw pc lv st dflt ps
  | _ => none
