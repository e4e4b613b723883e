section
/-! ===== A PURE MACHINE: what a method's bytes do, over plain data. '.ref k': the k-th cell made since the law began; '.float j': a thing that was there before (0: the script). ===== -/
/-- an array: its length; what its places hold, those that were written: ints, longs, cells -/
abbrev px_A : Type := Nat × (List (Nat × Int32) ⊕ List (Nat × Int64) ⊕ List (Nat × Nat))
abbrev px_E : Type := (Nat × px_A) ⊕ (Nat × List Value)
abbrev px_H : Type := List px_E
abbrev px_L : Type := List (Nat × Value)
/-- what an entry of a class's pool stands for: its kind, two numbers, a long -/
abbrev px_X : Type := Nat × Nat × Nat × Int64
/-- a method: name, bytes, locals, answer, handlers, instructions, its class's pool -/
abbrev px_M : Type := MethodName × ByteArray × Nat × Option FieldType × List (Nat × Nat × Nat × Nat) × (Nat → Option Instr) × (Nat → Option px_X)
abbrev px_S : Type := Nat × px_L × List Value
def px_sw : Instr → Bool
  | .tableswitch .. => true
  | .lookupswitch .. => true
  | _ => false
def px_len : Instr → Nat
  | .bipush _ => 2 | .iload _ => 2 | .lload _ => 2 | .aload _ => 2 | .istore _ => 2 | .lstore _ => 2 | .astore _ => 2 | .ldc _ => 2 | .newarray _ => 2
  | .sipush _ => 3 | .ldc_w _ => 3 | .ldc2_w _ => 3 | .iinc _ _ => 3 | .ifCond _ _ => 3 | .if_icmp _ _ => 3 | .goto _ => 3 | .ifnull _ => 3 | .ifnonnull _ => 3
  | .getfield _ => 3 | .putfield _ => 3 | .getstatic _ => 3 | .putstatic _ => 3 | .invokevirtual _ => 3 | .invokespecial _ => 3 | .invokestatic _ => 3 | .new _ => 3 | .anewarray _ => 3
  | _ => 1
/-- a place among the locals -/
def px_ld (lv : px_L) (i : Nat) : Option Value := (lv.find? (fun q => q.1 == i)).map (fun q => q.2)
def px_s1 (lv : px_L) (i : Nat) (v : Value) : px_L := (i, v) :: lv.filter (fun q => !(q.1 == i) && !(q.1 + 1 == i && q.2.category == 2))
def px_s2 (lv : px_L) (i : Nat) (v : Value) : px_L := (i, v) :: lv.filter (fun q => !(q.1 == i) && (!(q.1 == i + 1) && !(q.1 + 1 == i && q.2.category == 2)))
def px_isr : Value → Bool
  | .ref _ => true
  | .float _ => true
  | _ => false
-- families of instructions
def px_push (n : Nat) (pc : Nat) (lv : px_L) (st : List Value) (v : Value) : Option px_S := some (pc + n, lv, v :: st)
def px_ldI (n : Nat) (pc : Nat) (lv : px_L) (st : List Value) (i : Nat) : Option px_S := match px_ld lv i with
  | some (.int x) => some (pc + n, lv, .int x :: st)
  | _ => none
def px_ldL (n : Nat) (pc : Nat) (lv : px_L) (st : List Value) (i : Nat) : Option px_S := match px_ld lv i with
  | some (.long x) => some (pc + n, lv, .long x :: st)
  | _ => none
def px_ldA (n : Nat) (pc : Nat) (lv : px_L) (st : List Value) (i : Nat) : Option px_S := match px_ld lv i with
  | some v => if px_isr v = true then some (pc + n, lv, v :: st) else none
  | none => none
def px_stI (nL n : Nat) (pc : Nat) (lv : px_L) (st : List Value) (i : Nat) : Option px_S := match st with
  | .int x :: r => if i < nL then some (pc + n, px_s1 lv i (.int x), r) else none
  | _ => none
def px_stL (nL n : Nat) (pc : Nat) (lv : px_L) (st : List Value) (i : Nat) : Option px_S := match st with
  | .long x :: r => if i + 1 < nL then some (pc + n, px_s2 lv i (.long x), r) else none
  | _ => none
def px_stA (nL n : Nat) (pc : Nat) (lv : px_L) (st : List Value) (i : Nat) : Option px_S := match st with
  | v :: r => if px_isr v = true ∧ i < nL then some (pc + n, px_s1 lv i v, r) else none
  | _ => none
def px_inc (nL : Nat) (pc : Nat) (lv : px_L) (st : List Value) (i : Nat) (n : Int) : Option px_S := match px_ld lv i with
  | some (.int x) => if i < nL then some (pc + 3, px_s1 lv i (.int (x + Int32.ofInt n)), st) else none
  | _ => none
def px_ii (f : Int32 → Int32 → Int32) (pc : Nat) (lv : px_L) (st : List Value) : Option px_S := match st with
  | .int y :: .int x :: r => some (pc + 1, lv, .int (f x y) :: r)
  | _ => none
/-- a division: not by 0 -/
def px_iq (f : Int32 → Int32 → Int32) (pc : Nat) (lv : px_L) (st : List Value) : Option px_S := match st with
  | .int y :: .int x :: r => if y = 0 then none else some (pc + 1, lv, .int (f x y) :: r)
  | _ => none
def px_ll (f : Int64 → Int64 → Int64) (pc : Nat) (lv : px_L) (st : List Value) : Option px_S := match st with
  | .long y :: .long x :: r => some (pc + 1, lv, .long (f x y) :: r)
  | _ => none
def px_lq (f : Int64 → Int64 → Int64) (pc : Nat) (lv : px_L) (st : List Value) : Option px_S := match st with
  | .long y :: .long x :: r => if y = 0 then none else some (pc + 1, lv, .long (f x y) :: r)
  | _ => none
def px_li (f : Int64 → Int32 → Int64) (pc : Nat) (lv : px_L) (st : List Value) : Option px_S := match st with
  | .int y :: .long x :: r => some (pc + 1, lv, .long (f x y) :: r)
  | _ => none
def px_i1 (f : Int32 → Int32) (pc : Nat) (lv : px_L) (st : List Value) : Option px_S := match st with
  | .int x :: r => some (pc + 1, lv, .int (f x) :: r)
  | _ => none
def px_cmpL (pc : Nat) (lv : px_L) (st : List Value) : Option px_S := match st with
  | .long y :: .long x :: r => some (pc + 1, lv, .int (lg_cmp x y) :: r)
  | _ => none
def px_i2l (pc : Nat) (lv : px_L) (st : List Value) : Option px_S := match st with
  | .int x :: r => some (pc + 1, lv, .long x.toInt64 :: r)
  | _ => none
def px_l2i (pc : Nat) (lv : px_L) (st : List Value) : Option px_S := match st with
  | .long x :: r => some (pc + 1, lv, .int x.toInt32 :: r)
  | _ => none
def px_lneg (pc : Nat) (lv : px_L) (st : List Value) : Option px_S := match st with
  | .long x :: r => some (pc + 1, lv, .long (-x) :: r)
  | _ => none
/-- a jump: the place it goes to is a number -/
def px_to (pc : Nat) (off : Int) : Option Nat := if 0 ≤ (pc : Int) + off then some ((pc : Int) + off).toNat else none
def px_jump (pc : Nat) (lv : px_L) (st : List Value) (off : Int) : Option px_S := match px_to pc off with
  | some t => some (t, lv, st)
  | none => none
def px_if (b : Int32 → Bool) (pc : Nat) (lv : px_L) (st : List Value) (off : Int) : Option px_S := match st, px_to pc off with
  | .int x :: r, some t => some (bif b x then t else pc + 3, lv, r)
  | _, _ => none
def px_ic (b : Int32 → Int32 → Bool) (pc : Nat) (lv : px_L) (st : List Value) (off : Int) : Option px_S := match st, px_to pc off with
  | .int y :: .int x :: r, some t => some (bif b x y then t else pc + 3, lv, r)
  | _, _ => none
def px_dup (pc : Nat) (lv : px_L) (st : List Value) : Option px_S := match st with
  | v :: r => if v.category = 1 then some (pc + 1, lv, v :: v :: r) else none
  | _ => none
def px_pop (pc : Nat) (lv : px_L) (st : List Value) : Option px_S := match st with
  | v :: r => if v.category = 1 then some (pc + 1, lv, r) else none
  | _ => none
def px_dup2 (pc : Nat) (lv : px_L) (st : List Value) : Option px_S := match st with
  | v :: w :: r => if v.category = 1 ∧ w.category = 1 then some (pc + 1, lv, v :: w :: v :: w :: r) else none
  | _ => none
def px_tsw (pc : Nat) (lv : px_L) (st : List Value) (dflt lo hi : Int) (offs : Array Int) : Option px_S := match st with
  | .int x :: r => if x.toInt < lo ∨ hi < x.toInt then px_jump pc lv r dflt else match offs[(x.toInt - lo).toNat]? with
    | some off => px_jump pc lv r off
    | none => none
  | _ => none
def px_lsw (pc : Nat) (lv : px_L) (st : List Value) (dflt : Int) (ps : Array (Int × Int)) : Option px_S := match st with
  | .int x :: r => if (ps.toList.zip (ps.toList.drop 1)).all (fun (a, next) => a.1 < next.1) = true then px_jump pc lv r (Op.lookupswitch.offset ps.toList dflt x.toInt) else none
  | _ => none
/-- the instructions that see the frame alone -/
def px_pure (nL : Nat) (i : Instr) (pc : Nat) (lv : px_L) (st : List Value) : Option px_S := match i with
  | .iconst n => px_push 1 pc lv st (.int (Int32.ofInt n))
  | .bipush n => px_push 2 pc lv st (.int (Int8.ofInt n).toInt32)
  | .sipush n => px_push 3 pc lv st (.int (Int16.ofInt n).toInt32)
  | .lconst n => px_push 1 pc lv st (.long (Int64.ofNat (n : Nat)))
  | .iload_n k => px_ldI 1 pc lv st k
  | .iload k => px_ldI 2 pc lv st k
  | .lload_n k => px_ldL 1 pc lv st k
  | .lload k => px_ldL 2 pc lv st k
  | .aload_n k => px_ldA 1 pc lv st k
  | .aload k => px_ldA 2 pc lv st k
  | .istore_n k => px_stI nL 1 pc lv st k
  | .istore k => px_stI nL 2 pc lv st k
  | .lstore_n k => px_stL nL 1 pc lv st k
  | .lstore k => px_stL nL 2 pc lv st k
  | .astore_n k => px_stA nL 1 pc lv st k
  | .astore k => px_stA nL 2 pc lv st k
  | .iinc k n => px_inc nL pc lv st k n
  | .iadd => px_ii (fun x y => x + y) pc lv st
  | .isub => px_ii (fun x y => x - y) pc lv st
  | .imul => px_ii (fun x y => x * y) pc lv st
  | .iand => px_ii (fun x y => x &&& y) pc lv st
  | .ior => px_ii (fun x y => x ||| y) pc lv st
  | .ixor => px_ii (fun x y => x ^^^ y) pc lv st
  | .ishl => px_ii (fun x y => x <<< (y &&& 31)) pc lv st
  | .ishr => px_ii (fun x y => x >>> (y &&& 31)) pc lv st
  | .iushr => px_ii (fun x y => (x.toUInt32 >>> (y.toUInt32 &&& Int32.toUInt32 31)).toInt32) pc lv st
  | .idiv => px_iq (fun x y => x / y) pc lv st
  | .irem => px_iq (fun x y => x - x / y * y) pc lv st
  | .ineg => px_i1 (fun x => -x) pc lv st
  | .i2b => px_i1 (fun x => x.toInt8.toInt32) pc lv st
  | .i2c => px_i1 (fun x => (x.toUInt32 % 65536).toInt32) pc lv st
  | .ladd => px_ll (fun x y => x + y) pc lv st
  | .lsub => px_ll (fun x y => x - y) pc lv st
  | .lmul => px_ll (fun x y => x * y) pc lv st
  | .land => px_ll (fun x y => x &&& y) pc lv st
  | .lor => px_ll (fun x y => x ||| y) pc lv st
  | .lxor => px_ll (fun x y => x ^^^ y) pc lv st
  | .ldiv => px_lq (fun x y => x / y) pc lv st
  | .lrem => px_lq (fun x y => x - x / y * y) pc lv st
  | .lneg => px_lneg pc lv st
  | .lshl => px_li (fun x y => x <<< (y.toInt64 &&& 63)) pc lv st
  | .lshr => px_li (fun x y => x >>> (y.toInt64 &&& 63)) pc lv st
  | .lushr => px_li (fun x y => (x.toUInt64 >>> (y.toInt64.toUInt64 &&& Int64.toUInt64 63)).toInt64) pc lv st
  | .i2l => px_i2l pc lv st
  | .l2i => px_l2i pc lv st
  | .lcmp => px_cmpL pc lv st
  | .dup => px_dup pc lv st
  | .pop => px_pop pc lv st
  | .dup2 => px_dup2 pc lv st
  | .goto off => px_jump pc lv st off
  | .ifCond .eq off => px_if (fun x => decide (x = 0)) pc lv st off
  | .ifCond .ne off => px_if (fun x => decide (¬ x = 0)) pc lv st off
  | .ifCond .lt off => px_if (fun x => decide (x < 0)) pc lv st off
  | .ifCond .ge off => px_if (fun x => decide (0 ≤ x)) pc lv st off
  | .ifCond .gt off => px_if (fun x => decide (0 < x)) pc lv st off
  | .ifCond .le off => px_if (fun x => decide (x ≤ 0)) pc lv st off
  | .if_icmp .eq off => px_ic (fun x y => decide (x = y)) pc lv st off
  | .if_icmp .ne off => px_ic (fun x y => decide (¬ x = y)) pc lv st off
  | .if_icmp .lt off => px_ic (fun x y => decide (x < y)) pc lv st off
  | .if_icmp .ge off => px_ic (fun x y => decide (y ≤ x)) pc lv st off
  | .if_icmp .gt off => px_ic (fun x y => decide (y < x)) pc lv st off
  | .if_icmp .le off => px_ic (fun x y => decide (x ≤ y)) pc lv st off
  | .tableswitch dflt lo hi offs => px_tsw pc lv st dflt lo hi offs
  | .lookupswitch dflt ps => px_lsw pc lv st dflt ps
  | _ => none
end
section
/-! ===== the pure machine's frame instructions are the machine's ===== -/
/-- a pure value at its address: the cells made since the law began lie from 'base' on -/
def px_rv (base : Nat) (ext : UInt32 → Nat) : Value → Value
  | .ref k => .ref (base + k)
  | .float j => .ref (ext j)
  | v => v
def px_rl (base : Nat) (ext : UInt32 → Nat) (lv : px_L) : List (Nat × Value) := lv.map (fun q => (q.1, px_rv base ext q.2))
theorem px_rv_cat (base : Nat) (ext : UInt32 → Nat) (v : Value) : (px_rv base ext v).category = v.category := by cases v <;> rfl
theorem px_rv_isr {base : Nat} {ext : UInt32 → Nat} {v : Value} (h : px_isr v = true) : ∃ a, px_rv base ext v = .ref a := by
  cases v <;> simp [px_isr] at h <;> exact ⟨_, rfl⟩
theorem px_ld_mem {lv : px_L} {i : Nat} {v : Value} (h : px_ld lv i = some v) : (i, v) ∈ lv := by
  unfold px_ld at h
  cases hf : lv.find? (fun q => q.1 == i) with
  | none => rw [hf] at h; cases h
  | some q =>
    rw [hf] at h
    have h1 := List.mem_of_find?_eq_some hf
    have h2 := List.find?_some hf
    simp only [beq_iff_eq] at h2
    simp only [Option.map_some, Option.some.injEq] at h
    obtain ⟨a, b⟩ := q
    dsimp only at h h2
    subst h; subst h2
    exact h1
theorem px_rl_at {base : Nat} {ext : UInt32 → Nat} {ls : Array Slot} {nL : Nat} {lv : px_L} (h : lv_has ls nL (px_rl base ext lv)) {i : Nat} {v : Value} (hq : px_ld lv i = some v) : ls[i]? = some (.val (px_rv base ext v)) :=
  h.2.2 (i, px_rv base ext v) (List.mem_map.mpr ⟨(i, v), px_ld_mem hq, rfl⟩)
theorem px_rl_s1 (base : Nat) (ext : UInt32 → Nat) (lv : px_L) (i : Nat) (v : Value) : (i, px_rv base ext v) :: (px_rl base ext lv).filter (fun q => !(q.1 == i) && !(q.1 + 1 == i && q.2.category == 2)) = px_rl base ext (px_s1 lv i v) := by
  simp only [px_rl, px_s1, List.map_cons, List.filter_map]
  congr 2
  refine List.filter_congr (fun q _ => ?_)
  simp [Function.comp, px_rv_cat]
theorem px_rl_s2 (base : Nat) (ext : UInt32 → Nat) (lv : px_L) (i : Nat) (v : Value) : (i, px_rv base ext v) :: (px_rl base ext lv).filter (fun q => !(q.1 == i) && (!(q.1 == i + 1) && !(q.1 + 1 == i && q.2.category == 2))) = px_rl base ext (px_s2 lv i v) := by
  simp only [px_rl, px_s2, List.map_cons, List.filter_map]
  congr 2
  refine List.filter_congr (fun q _ => ?_)
  simp [Function.comp, px_rv_cat]
theorem px_to_ok {pc t : Nat} {off : Int} (h : px_to pc off = some t) : (pc : Int) + off = (t : Int) := by
  unfold px_to at h
  split at h
  · rename_i h0
    cases h
    exact (Int.toNat_of_nonneg h0).symm
  · cases h
section PXF
variable {p : Program} {l : Launch} {e : Env} {R : Room} {s : State} {m : MethodId} {args : Array Value} {below : List Frame} {meth : Method} {c : Code} {H : Heap} {locs : List Loc} {cells slots : Nat} {Q : State → Prop}
variable {cc : ByteArray} {pc nL : Nat} {ls : Array Slot} {base : Nat} {ext : UInt32 → Nat} {lv : px_L} {st : List Value} {r : px_S}
theorem px_jump_ok {off : Int} (h : px_jump pc lv st off = some r) : ∃ t : Nat, (pc : Int) + off = (t : Int) ∧ r = (t, lv, st) := by
  unfold px_jump at h
  split at h
  · rename_i t ht
    cases h
    exact ⟨t, px_to_ok ht, rfl⟩
  · cases h
theorem px_if_ok {b : Int32 → Bool} {off : Int} (h : px_if b pc lv st off = some r) : ∃ (x : Int32) (q : List Value) (t : Nat), st = .int x :: q ∧ (pc : Int) + off = (t : Int) ∧ r = (bif b x then t else pc + 3, lv, q) := by
  unfold px_if at h
  split at h
  · rename_i x q t ht
    cases h
    exact ⟨x, q, t, rfl, px_to_ok ht, rfl⟩
  · cases h
theorem px_ic_ok {b : Int32 → Int32 → Bool} {off : Int} (h : px_ic b pc lv st off = some r) : ∃ (x y : Int32) (q : List Value) (t : Nat), st = .int y :: .int x :: q ∧ (pc : Int) + off = (t : Int) ∧ r = (bif b x y then t else pc + 3, lv, q) := by
  unfold px_ic at h
  split at h
  · rename_i y x q t ht
    cases h
    exact ⟨x, y, q, t, rfl, px_to_ok ht, rfl⟩
  · cases h
theorem px_ii_ok {f : Int32 → Int32 → Int32} (h : px_ii f pc lv st = some r) : ∃ x y q, st = .int y :: .int x :: q ∧ r = (pc + 1, lv, .int (f x y) :: q) := by
  unfold px_ii at h
  split at h
  · cases h; exact ⟨_, _, _, rfl, rfl⟩
  · cases h
theorem px_iq_ok {f : Int32 → Int32 → Int32} (h : px_iq f pc lv st = some r) : ∃ x y q, st = .int y :: .int x :: q ∧ ¬ y = 0 ∧ r = (pc + 1, lv, .int (f x y) :: q) := by
  unfold px_iq at h
  split at h
  · split at h
    · cases h
    · rename_i hy
      cases h; exact ⟨_, _, _, rfl, hy, rfl⟩
  · cases h
theorem px_ll_ok {f : Int64 → Int64 → Int64} (h : px_ll f pc lv st = some r) : ∃ x y q, st = .long y :: .long x :: q ∧ r = (pc + 1, lv, .long (f x y) :: q) := by
  unfold px_ll at h
  split at h
  · cases h; exact ⟨_, _, _, rfl, rfl⟩
  · cases h
theorem px_lq_ok {f : Int64 → Int64 → Int64} (h : px_lq f pc lv st = some r) : ∃ x y q, st = .long y :: .long x :: q ∧ ¬ y = 0 ∧ r = (pc + 1, lv, .long (f x y) :: q) := by
  unfold px_lq at h
  split at h
  · split at h
    · cases h
    · rename_i hy
      cases h; exact ⟨_, _, _, rfl, hy, rfl⟩
  · cases h
theorem px_li_ok {f : Int64 → Int32 → Int64} (h : px_li f pc lv st = some r) : ∃ x y q, st = .int y :: .long x :: q ∧ r = (pc + 1, lv, .long (f x y) :: q) := by
  unfold px_li at h
  split at h
  · cases h; exact ⟨_, _, _, rfl, rfl⟩
  · cases h
theorem px_i1_ok {f : Int32 → Int32} (h : px_i1 f pc lv st = some r) : ∃ x q, st = .int x :: q ∧ r = (pc + 1, lv, .int (f x) :: q) := by
  unfold px_i1 at h
  split at h
  · cases h; exact ⟨_, _, rfl, rfl⟩
  · cases h
theorem px_ldI_ok {n i : Nat} (h : px_ldI n pc lv st i = some r) : ∃ x, px_ld lv i = some (.int x) ∧ r = (pc + n, lv, .int x :: st) := by
  unfold px_ldI at h
  split at h
  · rename_i x hx
    cases h; exact ⟨x, hx, rfl⟩
  · cases h
theorem px_ldL_ok {n i : Nat} (h : px_ldL n pc lv st i = some r) : ∃ x, px_ld lv i = some (.long x) ∧ r = (pc + n, lv, .long x :: st) := by
  unfold px_ldL at h
  split at h
  · rename_i x hx
    cases h; exact ⟨x, hx, rfl⟩
  · cases h
theorem px_ldA_ok {n i : Nat} (h : px_ldA n pc lv st i = some r) : ∃ v, px_ld lv i = some v ∧ px_isr v = true ∧ r = (pc + n, lv, v :: st) := by
  unfold px_ldA at h
  split at h
  · rename_i v hv
    split at h
    · rename_i hr
      cases h; exact ⟨v, hv, hr, rfl⟩
    · cases h
  · cases h
theorem px_stI_ok {n i : Nat} (h : px_stI nL n pc lv st i = some r) : ∃ x q, st = .int x :: q ∧ i < nL ∧ r = (pc + n, px_s1 lv i (.int x), q) := by
  unfold px_stI at h
  split at h
  · split at h
    · rename_i hi
      cases h; exact ⟨_, _, rfl, hi, rfl⟩
    · cases h
  · cases h
theorem px_stL_ok {n i : Nat} (h : px_stL nL n pc lv st i = some r) : ∃ x q, st = .long x :: q ∧ i + 1 < nL ∧ r = (pc + n, px_s2 lv i (.long x), q) := by
  unfold px_stL at h
  split at h
  · split at h
    · rename_i hi
      cases h; exact ⟨_, _, rfl, hi, rfl⟩
    · cases h
  · cases h
theorem px_stA_ok {n i : Nat} (h : px_stA nL n pc lv st i = some r) : ∃ v q, st = v :: q ∧ px_isr v = true ∧ i < nL ∧ r = (pc + n, px_s1 lv i v, q) := by
  unfold px_stA at h
  split at h
  · split at h
    · rename_i hi
      cases h; exact ⟨_, _, rfl, hi.1, hi.2, rfl⟩
    · cases h
  · cases h
set_option maxHeartbeats 4000000 in
/-- ONE FRAME INSTRUCTION -/
theorem px_pure_ok (hx : p.tables.exec = Jvm.exec) (hb : c.code = cc) {i : Instr} {n : Nat} (hd : decode cc pc = .ok (i, n)) (hn : px_sw i = false → n = px_len i) (hl : lv_has ls nL (px_rl base ext lv)) (h : px_pure nL i pc lv st = some r)
    (kk : ∀ ls' : Array Slot, lv_has ls' nL (px_rl base ext r.2.1) → W p l e R s m args below meth c H locs cells slots Q (F0 m r.1 ls' (r.2.2.map (px_rv base ext)))) : W p l e R s m args below meth c H locs cells slots Q (F0 m pc ls (st.map (px_rv base ext))) := by
  unfold px_pure at h
  split at h
  · cases (hn rfl); cases h; exact lv_iconst hx hb hd rfl (kk _ hl)
  · cases (hn rfl); cases h; exact lv_bipush hx hb hd rfl (kk _ hl)
  · cases (hn rfl); cases h; exact lv_sipush hx hb hd rfl (kk _ hl)
  · cases (hn rfl); cases h; exact lv_lconst hx hb hd rfl (kk _ hl)
  · cases (hn rfl); obtain ⟨x, h1, rfl⟩ := px_ldI_ok h; exact lv_iload_n hx hb hd rfl (px_rl_at hl h1) (kk _ hl)
  · cases (hn rfl); obtain ⟨x, h1, rfl⟩ := px_ldI_ok h; exact lv_iload hx hb hd (px_rl_at hl h1) (kk _ hl)
  · cases (hn rfl); obtain ⟨x, h1, rfl⟩ := px_ldL_ok h; exact lv_lload_n hx hb hd rfl (px_rl_at hl h1) (kk _ hl)
  · cases (hn rfl); obtain ⟨x, h1, rfl⟩ := px_ldL_ok h; exact lv_lload hx hb hd (px_rl_at hl h1) (kk _ hl)
  · cases (hn rfl); obtain ⟨v, h1, h2, rfl⟩ := px_ldA_ok h
    obtain ⟨a, ha⟩ := px_rv_isr (base := base) (ext := ext) h2
    have h3 := px_rl_at hl h1
    have h4 := kk _ hl
    simp only [List.map_cons] at h4
    rw [ha] at h3 h4
    exact lv_aload_n hx hb hd rfl h3 h4
  · cases (hn rfl); obtain ⟨v, h1, h2, rfl⟩ := px_ldA_ok h
    obtain ⟨a, ha⟩ := px_rv_isr (base := base) (ext := ext) h2
    have h3 := px_rl_at hl h1
    have h4 := kk _ hl
    simp only [List.map_cons] at h4
    rw [ha] at h3 h4
    exact lv_aload hx hb hd h3 h4
  · cases (hn rfl); obtain ⟨x, q, rfl, h1, rfl⟩ := px_stI_ok h; exact lv_istore_n hx hb hd rfl hl h1 (px_rl_s1 base ext lv _ (.int x)) kk
  · cases (hn rfl); obtain ⟨x, q, rfl, h1, rfl⟩ := px_stI_ok h; exact lv_istore hx hb hd hl h1 (px_rl_s1 base ext lv _ (.int x)) kk
  · cases (hn rfl); obtain ⟨x, q, rfl, h1, rfl⟩ := px_stL_ok h; exact lv_lstore_n hx hb hd rfl hl h1 (px_rl_s2 base ext lv _ (.long x)) kk
  · cases (hn rfl); obtain ⟨x, q, rfl, h1, rfl⟩ := px_stL_ok h; exact lv_lstore hx hb hd hl h1 (px_rl_s2 base ext lv _ (.long x)) kk
  · cases (hn rfl); obtain ⟨v, q, rfl, h2, h1, rfl⟩ := px_stA_ok h
    obtain ⟨a, ha⟩ := px_rv_isr (base := base) (ext := ext) h2
    rename_i k0
    have h3 := px_rl_s1 base ext lv (k0 : Nat) v
    simp only [List.map_cons]
    rw [ha] at h3 ⊢
    exact lv_astore_n hx hb hd rfl hl h1 h3 kk
  · cases (hn rfl); obtain ⟨v, q, rfl, h2, h1, rfl⟩ := px_stA_ok h
    obtain ⟨a, ha⟩ := px_rv_isr (base := base) (ext := ext) h2
    rename_i k0
    have h3 := px_rl_s1 base ext lv k0 v
    simp only [List.map_cons]
    rw [ha] at h3 ⊢
    exact lv_astore hx hb hd hl h1 h3 kk
  · cases (hn rfl)
    unfold px_inc at h
    split at h
    · rename_i x hx1
      split at h
      · rename_i hi
        cases h
        obtain ⟨k, hk⟩ := List.getElem?_of_mem (List.mem_map.mpr ⟨_, px_ld_mem hx1, rfl⟩ : (_, px_rv base ext (.int x)) ∈ px_rl base ext lv)
        exact lv_iinc hx hb hd hl hk rfl hi (px_rl_s1 base ext lv _ (.int _)) kk
      · cases h
    · cases h
  · cases (hn rfl); obtain ⟨x, y, q, rfl, rfl⟩ := px_ii_ok h; exact lv_iadd hx hb hd (kk _ hl)
  · cases (hn rfl); obtain ⟨x, y, q, rfl, rfl⟩ := px_ii_ok h; exact lv_isub hx hb hd (kk _ hl)
  · cases (hn rfl); obtain ⟨x, y, q, rfl, rfl⟩ := px_ii_ok h; exact lv_imul hx hb hd (kk _ hl)
  · cases (hn rfl); obtain ⟨x, y, q, rfl, rfl⟩ := px_ii_ok h; exact lv_iand hx hb hd (kk _ hl)
  · cases (hn rfl); obtain ⟨x, y, q, rfl, rfl⟩ := px_ii_ok h; exact lv_ior hx hb hd (kk _ hl)
  · cases (hn rfl); obtain ⟨x, y, q, rfl, rfl⟩ := px_ii_ok h; exact lv_ixor hx hb hd (kk _ hl)
  · cases (hn rfl); obtain ⟨x, y, q, rfl, rfl⟩ := px_ii_ok h; exact lv_ishl hx hb hd (kk _ hl)
  · cases (hn rfl); obtain ⟨x, y, q, rfl, rfl⟩ := px_ii_ok h; exact lv_ishr hx hb hd (kk _ hl)
  · cases (hn rfl); obtain ⟨x, y, q, rfl, rfl⟩ := px_ii_ok h; exact lv_iushr hx hb hd rfl (kk _ hl)
  · cases (hn rfl); obtain ⟨x, y, q, rfl, h1, rfl⟩ := px_iq_ok h; exact lv_idiv hx hb hd h1 (kk _ hl)
  · cases (hn rfl); obtain ⟨x, y, q, rfl, h1, rfl⟩ := px_iq_ok h; exact lv_irem hx hb hd h1 (kk _ hl)
  · cases (hn rfl); obtain ⟨x, q, rfl, rfl⟩ := px_i1_ok h; exact lv_ineg hx hb hd (kk _ hl)
  · cases (hn rfl); obtain ⟨x, q, rfl, rfl⟩ := px_i1_ok h; exact lv_i2b hx hb hd rfl (kk _ hl)
  · cases (hn rfl); obtain ⟨x, q, rfl, rfl⟩ := px_i1_ok h; exact lv_i2c hx hb hd rfl (kk _ hl)
  · cases (hn rfl); obtain ⟨x, y, q, rfl, rfl⟩ := px_ll_ok h; exact lv_ladd hx hb hd (kk _ hl)
  · cases (hn rfl); obtain ⟨x, y, q, rfl, rfl⟩ := px_ll_ok h; exact lv_lsub hx hb hd (kk _ hl)
  · cases (hn rfl); obtain ⟨x, y, q, rfl, rfl⟩ := px_ll_ok h; exact lv_lmul hx hb hd (kk _ hl)
  · cases (hn rfl); obtain ⟨x, y, q, rfl, rfl⟩ := px_ll_ok h; exact lv_land hx hb hd (kk _ hl)
  · cases (hn rfl); obtain ⟨x, y, q, rfl, rfl⟩ := px_ll_ok h; exact lv_lor hx hb hd (kk _ hl)
  · cases (hn rfl); obtain ⟨x, y, q, rfl, rfl⟩ := px_ll_ok h; exact lv_lxor hx hb hd (kk _ hl)
  · cases (hn rfl); obtain ⟨x, y, q, rfl, h1, rfl⟩ := px_lq_ok h; exact lv_ldiv hx hb hd h1 (kk _ hl)
  · cases (hn rfl); obtain ⟨x, y, q, rfl, h1, rfl⟩ := px_lq_ok h; exact lv_lrem hx hb hd h1 (kk _ hl)
  · cases (hn rfl)
    unfold px_lneg at h
    split at h
    · cases h; exact lv_lneg hx hb hd (kk _ hl)
    · cases h
  · cases (hn rfl); obtain ⟨x, y, q, rfl, rfl⟩ := px_li_ok h; exact lv_lshl hx hb hd rfl (kk _ hl)
  · cases (hn rfl); obtain ⟨x, y, q, rfl, rfl⟩ := px_li_ok h; exact lv_lshr hx hb hd rfl (kk _ hl)
  · cases (hn rfl); obtain ⟨x, y, q, rfl, rfl⟩ := px_li_ok h; exact lv_lushr hx hb hd rfl (kk _ hl)
  · cases (hn rfl)
    unfold px_i2l at h
    split at h
    · cases h; exact lv_i2l hx hb hd rfl (kk _ hl)
    · cases h
  · cases (hn rfl)
    unfold px_l2i at h
    split at h
    · cases h; exact lv_l2i hx hb hd rfl (kk _ hl)
    · cases h
  · cases (hn rfl)
    unfold px_cmpL at h
    split at h
    · cases h; exact W.lcmp hx hb hd (kk _ hl)
    · cases h
  · cases (hn rfl)
    unfold px_dup at h
    split at h
    · split at h
      · rename_i hc
        cases h; exact lv_dup hx hb hd (by rw [px_rv_cat]; exact hc) (kk _ hl)
      · cases h
    · cases h
  · cases (hn rfl)
    unfold px_pop at h
    split at h
    · split at h
      · rename_i hc
        cases h; exact lv_pop hx hb hd (by rw [px_rv_cat]; exact hc) (kk _ hl)
      · cases h
    · cases h
  · cases (hn rfl)
    unfold px_dup2 at h
    split at h
    · split at h
      · rename_i hc
        cases h; exact lv_dup2_11 hx hb hd (by rw [px_rv_cat]; exact hc.1) (by rw [px_rv_cat]; exact hc.2) (kk _ hl)
      · cases h
    · cases h
  · cases (hn rfl); obtain ⟨t, h1, rfl⟩ := px_jump_ok h; exact lv_goto hx hb hd h1 (kk _ hl)
  · cases (hn rfl); obtain ⟨x, q, t, rfl, h1, rfl⟩ := px_if_ok h; exact lv_if_eq hx hb hd h1 (fun hc => by simpa [hc] using kk _ hl) (fun hc => by simpa [hc] using kk _ hl)
  · cases (hn rfl); obtain ⟨x, q, t, rfl, h1, rfl⟩ := px_if_ok h; exact lv_if_ne hx hb hd h1 (fun hc => by simpa [hc] using kk _ hl) (fun hc => by simpa [hc] using kk _ hl)
  · cases (hn rfl); obtain ⟨x, q, t, rfl, h1, rfl⟩ := px_if_ok h; exact lv_if_lt hx hb hd h1 (fun hc => by simpa [hc] using kk _ hl) (fun hc => by simpa [hc] using kk _ hl)
  · cases (hn rfl); obtain ⟨x, q, t, rfl, h1, rfl⟩ := px_if_ok h; exact lv_if_ge hx hb hd h1 (fun hc => by simpa [hc] using kk _ hl) (fun hc => by simpa [hc] using kk _ hl)
  · cases (hn rfl); obtain ⟨x, q, t, rfl, h1, rfl⟩ := px_if_ok h; exact lv_if_gt hx hb hd h1 (fun hc => by simpa [hc] using kk _ hl) (fun hc => by simpa [hc] using kk _ hl)
  · cases (hn rfl); obtain ⟨x, q, t, rfl, h1, rfl⟩ := px_if_ok h; exact lv_if_le hx hb hd h1 (fun hc => by simpa [hc] using kk _ hl) (fun hc => by simpa [hc] using kk _ hl)
  · cases (hn rfl); obtain ⟨x, y, q, t, rfl, h1, rfl⟩ := px_ic_ok h; exact lv_icmp_eq hx hb hd h1 (fun hc => by simpa [hc] using kk _ hl) (fun hc => by simpa [hc] using kk _ hl)
  · cases (hn rfl); obtain ⟨x, y, q, t, rfl, h1, rfl⟩ := px_ic_ok h; exact lv_icmp_ne hx hb hd h1 (fun hc => by simpa [hc] using kk _ hl) (fun hc => by simpa [hc] using kk _ hl)
  · cases (hn rfl); obtain ⟨x, y, q, t, rfl, h1, rfl⟩ := px_ic_ok h; exact lv_icmp_lt hx hb hd h1 (fun hc => by simpa [hc] using kk _ hl) (fun hc => by simpa [hc] using kk _ hl)
  · cases (hn rfl); obtain ⟨x, y, q, t, rfl, h1, rfl⟩ := px_ic_ok h; exact lv_icmp_ge hx hb hd h1 (fun hc => by simpa [hc] using kk _ hl) (fun hc => by simpa [hc] using kk _ hl)
  · cases (hn rfl); obtain ⟨x, y, q, t, rfl, h1, rfl⟩ := px_ic_ok h; exact lv_icmp_gt hx hb hd h1 (fun hc => by simpa [hc] using kk _ hl) (fun hc => by simpa [hc] using kk _ hl)
  · cases (hn rfl); obtain ⟨x, y, q, t, rfl, h1, rfl⟩ := px_ic_ok h; exact lv_icmp_le hx hb hd h1 (fun hc => by simpa [hc] using kk _ hl) (fun hc => by simpa [hc] using kk _ hl)
  · unfold px_tsw at h
    split at h
    · split at h
      · rename_i ho
        obtain ⟨t, h1, rfl⟩ := px_jump_ok h
        exact lv_tableOut hx hb hd ho h1 (kk _ hl)
      · rename_i ho
        split at h
        · rename_i off hof
          obtain ⟨t, h1, rfl⟩ := px_jump_ok h
          exact lv_tableIn hx hb hd (fun z => ho (Or.inl z)) (fun z => ho (Or.inr z)) hof h1 (kk _ hl)
        · cases h
    · cases h
  · unfold px_lsw at h
    split at h
    · split at h
      · rename_i ho
        obtain ⟨t, h1, rfl⟩ := px_jump_ok h
        exact lv_lookup hx hb hd ho rfl h1 (kk _ hl)
      · cases h
    · cases h
  · cases h
end PXF
end
section
/-! ===== the pure machine's heap ===== -/
/-- the kinds of arrays -/
def px_ty : Nat → FieldType
  | 0 => .int
  | 1 => .long
  | 2 => .byte
  | 3 => .boolean
  | 4 => .object "AlgolHouse$Program"
  | _ => .object "AlgolHouse$Tale"
def px_tys (tA : Nat → ClassId) : List (ClassId × FieldType) := [(tA 0, px_ty 0), (tA 1, px_ty 1), (tA 2, px_ty 2), (tA 3, px_ty 3), (tA 4, px_ty 4), (tA 5, px_ty 5)]
theorem px_tys_at (tA : Nat → ClassId) {t : Nat} (h : t < 6) : (px_tys tA)[t]? = some (tA t, px_ty t) := by
  rcases (by omega : t = 0 ∨ t = 1 ∨ t = 2 ∨ t = 3 ∨ t = 4 ∨ t = 5) with rfl | rfl | rfl | rfl | rfl | rfl <;> rfl
/-- the heap, and how many slots it has -/
abbrev px_G : Type := px_H × Nat
def px_fd1 {α : Type} (l : List (Nat × α)) (j : Nat) : Option α := (l.find? (fun q => q.1 == j)).map (fun q => q.2)
def px_gi (l : List (Nat × Int32)) (j : Nat) : Int32 := (px_fd1 l j).getD 0
def px_gl (l : List (Nat × Int64)) (j : Nat) : Int64 := (px_fd1 l j).getD 0
/-- a place written -/
def px_wr {α : Type} (l : List (Nat × α)) (k : Nat) (x : α) : List (Nat × α) := (k, x) :: l.filter (fun q => !(q.1 == k))
theorem px_fd1_wr {α : Type} (l : List (Nat × α)) (k : Nat) (x : α) (j : Nat) : px_fd1 (px_wr l k x) j = if j = k then some x else px_fd1 l j := by
  unfold px_fd1 px_wr
  by_cases hj : j = k
  · subst hj
    simp
  · rw [if_neg hj, List.find?_cons_of_neg (by simpa using fun h => hj h.symm)]
    congr 1
    rw [List.find?_filter]
    congr 1
    funext q
    by_cases hq : q.1 = j
    · have : ¬ q.1 = k := fun z => hj (hq.symm.trans z)
      simp [hq, hj]
    · simp [hq]
theorem px_gi_wr (l : List (Nat × Int32)) (k : Nat) (x : Int32) : upd (px_gi l) k x = px_gi (px_wr l k x) := by
  funext j
  unfold px_gi upd
  rw [px_fd1_wr]
  by_cases hj : j = k <;> simp [hj]
theorem px_gl_wr (l : List (Nat × Int64)) (k : Nat) (x : Int64) : vp_updL (px_gl l) k x = px_gl (px_wr l k x) := by
  funext j
  unfold px_gl vp_updL
  rw [px_fd1_wr]
  by_cases hj : j = k <;> simp [hj]
def px_ra (base : Nat) (a : px_A) : vp_A := match a with
  | (n, .inl l) => (n, .inl (px_gi l))
  | (n, .inr (.inl l)) => (n, .inr (.inl (px_gl l)))
  | (n, .inr (.inr l)) => (n, .inr (.inr (.inr (.inr (fun j => (px_fd1 l j).map (fun k => base + k))))))
theorem px_gr_wr (base : Nat) (l : List (Nat × Nat)) (k v : Nat) : va_up (fun j => (px_fd1 l j).map (fun k => base + k)) k (some (base + v)) = fun j => (px_fd1 (px_wr l k v) j).map (fun k => base + k) := by
  funext j
  unfold va_up
  rw [px_fd1_wr]
  by_cases hj : j = k <;> simp [hj]
def px_ce (base : Nat) (ext : UInt32 → Nat) (tA : Nat → ClassId) : px_E → va_E
  | .inl (t, a) => .inl (tA t, px_ra base a)
  | .inr (ci, fs) => .inr (ci, fs.map (px_rv base ext))
def px_ws (base : Nat) (ext : UInt32 → Nat) (tA : Nat → ClassId) (h : px_H) : va_W := h.mapIdx (fun k x => (base + k, px_ce base ext tA x))
section PXW
variable {base : Nat} {ext : UInt32 → Nat} {tA : Nat → ClassId} {h : px_H}
theorem px_ws_at {k : Nat} {x : px_E} (hk : h[k]? = some x) : (px_ws base ext tA h)[k]? = some (base + k, px_ce base ext tA x) := by
  simp [px_ws, List.getElem?_mapIdx, hk]
theorem px_ws_of {k : Nat} {q : Nat × va_E} (hq : (px_ws base ext tA h)[k]? = some q) : ∃ x, h[k]? = some x ∧ q = (base + k, px_ce base ext tA x) := by
  simp only [px_ws, List.getElem?_mapIdx] at hq
  cases hk : h[k]? with
  | none => rw [hk] at hq; cases hq
  | some x =>
    rw [hk] at hq
    cases hq
    exact ⟨x, rfl, rfl⟩
theorem px_ws_set (k : Nat) (x : px_E) : (px_ws base ext tA h).set k (base + k, px_ce base ext tA x) = px_ws base ext tA (h.set k x) := by
  apply List.ext_getElem?
  intro j
  rw [List.getElem?_set]
  by_cases hj : k = j
  · subst hj
    rw [if_pos rfl]
    by_cases hl : k < h.length
    · rw [if_pos (by simpa [px_ws] using hl)]
      symm
      exact px_ws_at (by rw [List.getElem?_set_self hl])
    · rw [if_neg (by simpa [px_ws] using hl)]
      symm
      rw [List.getElem?_eq_none_iff]
      simpa [px_ws] using hl
  · rw [if_neg hj]
    simp only [px_ws, List.getElem?_mapIdx, List.getElem?_set, if_neg hj]
theorem px_ws_push (x : px_E) : px_ws base ext tA h ++ [(base + h.length, px_ce base ext tA x)] = px_ws base ext tA (h ++ [x]) := by
  simp [px_ws, List.mapIdx_append]
theorem px_ws_D : va_D (fun q : Nat => base ≤ q) (px_ws base ext tA h) := by
  refine ⟨fun i j a b ha hb hab => ?_, fun k q hq => ?_⟩
  · obtain ⟨x, -, rfl⟩ := px_ws_of ha
    obtain ⟨y, -, rfl⟩ := px_ws_of hb
    have hab : base + i = base + j := hab
    omega
  · obtain ⟨x, -, rfl⟩ := px_ws_of hq
    exact Nat.le_add_right _ _
end PXW
/-- a value for a field of a type -/
def px_fit : FieldType → Value → Bool
  | .int, .int _ => true
  | .long, .long _ => true
  | .boolean, .int x => x == 0 || x == 1
  | .object _, .ref _ => true
  | .object _, .float _ => true
  | .object _, .null => true
  | .array _, .ref _ => true
  | .array _, .null => true
  | _, _ => false
theorem px_fit_ok {base : Nat} {ext : UInt32 → Nat} {ty : FieldType} {v : Value} (h : px_fit ty v = true) : narrow ty (px_rv base ext v) = px_rv base ext v ∧ fits ty (px_rv base ext v) = true := by
  cases ty <;> cases v <;> simp [px_fit] at h <;> first | exact ⟨rfl, rfl⟩ | skip
  rcases h with rfl | rfl <;> exact ⟨rfl, rfl⟩
/-- what a field holds at first -/
def px_dv : FieldType → Value
  | .long => .long 0
  | .object _ => .null
  | .array _ => .null
  | _ => .int 0
def px_my (M : px_M) : MethodName := M.1
def px_mb (M : px_M) : ByteArray := M.2.1
def px_ml (M : px_M) : Nat := M.2.2.1
def px_mr (M : px_M) : Option FieldType := M.2.2.2.1
def px_mh (M : px_M) : List (Nat × Nat × Nat × Nat) := M.2.2.2.2.1
def px_mi (M : px_M) : Nat → Option Instr := M.2.2.2.2.2.1
def px_mx (M : px_M) : Nat → Option px_X := M.2.2.2.2.2.2
/-- may this method write this field -/
def px_fin (cl : List vw_C) (ci k : Nat) (M : px_M) : Bool := match cl[ci]? with
  | some r => decide (k < r.2.2) && (!(r.2.1 k).2.2.2 || ((px_my M).name == "<init>" && (r.2.1 k).1 == (px_my M).cls))
  | none => false
/-- what lies outside: the script's length and ints; the bytes of the texts; a table of chars; which pool entries are texts -/
abbrev px_V : Type := Option (Nat × (Nat → Int32)) × List (List Int32) × List Int32 × List (String × Nat × String × Nat) × Bool
/-- a text outside: 1, 2 ..; its array: 101, 102 ..; the table: 200 -/
def px_str (V : px_V) (j : UInt32) : Option (List Int32) := if j = 0 then none else V.2.1[j.toNat - 1]?
def px_arr (V : px_V) (j : UInt32) : Option (List Int32) := if j.toNat < 101 then none else V.2.1[j.toNat - 101]?
def px_get (V : px_V) (M : px_M) (pc : Nat) (lv : px_L) (st : List Value) (G : px_G) (idx : Nat) : Option (px_S × px_G) := match px_mx M idx, st with
  | some (16, f, _, _), .float j :: r => match px_str V j with
    | some _ => if f = 0 then some ((pc + 3, lv, .float (j + 100) :: r), G) else if f = 1 then some ((pc + 3, lv, .int 0 :: r), G) else none
    | none => none
  | some (0, ci, k, _), .ref a :: r => match G.1[a]? with
    | some (.inr (cj, fs)) => if cj = ci then match fs[k]? with
      | some v => some ((pc + 3, lv, v :: r), G)
      | none => none
      else none
    | _ => none
  | _, _ => none
def px_put (cl : List vw_C) (fty : Nat → Nat → FieldType) (M : px_M) (pc : Nat) (lv : px_L) (st : List Value) (G : px_G) (idx : Nat) : Option (px_S × px_G) := match px_mx M idx, st with
  | some (0, ci, k, _), v :: .ref a :: r => match G.1[a]? with
    | some (.inr (cj, fs)) => if cj = ci ∧ k < fs.length ∧ px_fit (fty ci k) v = true ∧ px_fin cl ci k M = true then some ((pc + 3, lv, r), (G.1.set a (.inr (ci, fs.set k v)), G.2)) else none
    | _ => none
  | _, _ => none
def px_ldi (V : px_V) (pc : Nat) (lv : px_L) (st : List Value) (G : px_G) : Option (px_S × px_G) := match st with
  | .int i :: .ref a :: r => match G.1[a]? with
    | some (.inl (0, n, .inl f)) => if i < 0 ∨ n ≤ i.toNatClampNeg then none else some ((pc + 1, lv, .int (px_gi f i.toNatClampNeg) :: r), G)
    | _ => none
  | .int i :: .float j :: r => if j = 0 then match V.1 with
    | some w => if i < 0 ∨ w.1 ≤ i.toNatClampNeg then none else some ((pc + 1, lv, .int (w.2 i.toNatClampNeg) :: r), G)
    | none => none
    else none
  | _ => none
def px_ldl (pc : Nat) (lv : px_L) (st : List Value) (G : px_G) : Option (px_S × px_G) := match st with
  | .int i :: .ref a :: r => match G.1[a]? with
    | some (.inl (1, n, .inr (.inl f))) => if i < 0 ∨ n ≤ i.toNatClampNeg then none else some ((pc + 1, lv, .long (px_gl f i.toNatClampNeg) :: r), G)
    | _ => none
  | _ => none
def px_ldb (V : px_V) (pc : Nat) (lv : px_L) (st : List Value) (G : px_G) : Option (px_S × px_G) := match st with
  | .int i :: .ref a :: r => match G.1[a]? with
    | some (.inl (2, n, .inl f)) => if i < 0 ∨ n ≤ i.toNatClampNeg then none else some ((pc + 1, lv, .int (px_gi f i.toNatClampNeg) :: r), G)
    | some (.inl (3, n, .inl f)) => if i < 0 ∨ n ≤ i.toNatClampNeg then none else some ((pc + 1, lv, .int (px_gi f i.toNatClampNeg) :: r), G)
    | _ => none
  | .int i :: .float j :: r => match px_arr V j with
    | some bs => if i < 0 ∨ bs.length ≤ i.toNatClampNeg then none else some ((pc + 1, lv, .int (bs.getD i.toNatClampNeg 0) :: r), G)
    | none => none
  | _ => none
def px_ldc (V : px_V) (pc : Nat) (lv : px_L) (st : List Value) (G : px_G) : Option (px_S × px_G) := match st with
  | .int i :: .float j :: r => if j = 200 ∧ ¬ (i < 0 ∨ V.2.2.1.length ≤ i.toNatClampNeg) then some ((pc + 1, lv, .int (V.2.2.1.getD i.toNatClampNeg 0) :: r), G) else none
  | _ => none
/-- of an array of references: what is read isn't null -/
def px_lda (pc : Nat) (lv : px_L) (st : List Value) (G : px_G) : Option (px_S × px_G) := match st with
  | .int i :: .ref a :: r => match G.1[a]? with
    | some (.inl (t, n, .inr (.inr f))) => if (t = 4 ∨ t = 5) ∧ ¬ (i < 0 ∨ n ≤ i.toNatClampNeg) then match px_fd1 f i.toNatClampNeg with
      | some k => some ((pc + 1, lv, .ref k :: r), G)
      | none => none
      else none
    | _ => none
  | _ => none
def px_sti (pc : Nat) (lv : px_L) (st : List Value) (G : px_G) : Option (px_S × px_G) := match st with
  | .int x :: .int i :: .ref a :: r => match G.1[a]? with
    | some (.inl (0, n, .inl f)) => if i < 0 ∨ n ≤ i.toNatClampNeg then none else some ((pc + 1, lv, r), (G.1.set a (.inl (0, n, .inl (px_wr f i.toNatClampNeg x))), G.2))
    | _ => none
  | _ => none
def px_stl (pc : Nat) (lv : px_L) (st : List Value) (G : px_G) : Option (px_S × px_G) := match st with
  | .long x :: .int i :: .ref a :: r => match G.1[a]? with
    | some (.inl (1, n, .inr (.inl f))) => if i < 0 ∨ n ≤ i.toNatClampNeg then none else some ((pc + 1, lv, r), (G.1.set a (.inl (1, n, .inr (.inl (px_wr f i.toNatClampNeg x)))), G.2))
    | _ => none
  | _ => none
def px_stb (pc : Nat) (lv : px_L) (st : List Value) (G : px_G) : Option (px_S × px_G) := match st with
  | .int x :: .int i :: .ref a :: r => match G.1[a]? with
    | some (.inl (2, n, .inl f)) => if i < 0 ∨ n ≤ i.toNatClampNeg then none else some ((pc + 1, lv, r), (G.1.set a (.inl (2, n, .inl (px_wr f i.toNatClampNeg (vp_nar .byte x)))), G.2))
    | some (.inl (3, n, .inl f)) => if i < 0 ∨ n ≤ i.toNatClampNeg then none else some ((pc + 1, lv, r), (G.1.set a (.inl (3, n, .inl (px_wr f i.toNatClampNeg (vp_nar .boolean x)))), G.2))
    | _ => none
  | _ => none
def px_sta (cl : List vw_C) (pc : Nat) (lv : px_L) (st : List Value) (G : px_G) : Option (px_S × px_G) := match st with
  | .ref v :: .int i :: .ref a :: r => match G.1[a]?, G.1[v]? with
    | some (.inl (t, n, .inr (.inr f))), some (.inr (ci, _)) => match cl[ci]? with
      | some w => if (t = 4 ∨ t = 5) ∧ px_ty t = .object w.1 ∧ ¬ (i < 0 ∨ n ≤ i.toNatClampNeg) then some ((pc + 1, lv, r), (G.1.set a (.inl (t, n, .inr (.inr (px_wr f i.toNatClampNeg v)))), G.2)) else none
      | none => none
    | _, _ => none
  | _ => none
def px_aln (V : px_V) (pc : Nat) (lv : px_L) (st : List Value) (G : px_G) : Option (px_S × px_G) := match st with
  | .ref a :: r => match G.1[a]? with
    | some (.inl (t, x)) => if t < 6 then some ((pc + 1, lv, .int (Int32.ofNat x.1) :: r), G) else none
    | _ => none
  | .float j :: r => if j = 0 then match V.1 with
    | some w => some ((pc + 1, lv, .int (Int32.ofNat w.1) :: r), G)
    | none => none
    else if j = 200 then some ((pc + 1, lv, .int (Int32.ofNat V.2.2.1.length) :: r), G) else match px_arr V j with
    | some bs => some ((pc + 1, lv, .int (Int32.ofNat bs.length) :: r), G)
    | none => none
  | _ => none
/-- the kind of a primitive array, its contents at first -/
def px_at : ArrayType → Option (Nat × (Nat → px_A))
  | .int => some (0, fun n => (n, .inl []))
  | .long => some (1, fun n => (n, .inr (.inl [])))
  | .byte => some (2, fun n => (n, .inl []))
  | .boolean => some (3, fun n => (n, .inl []))
  | _ => none
def px_nwa (pc : Nat) (lv : px_L) (st : List Value) (G : px_G) (ty : ArrayType) : Option (px_S × px_G) := match px_at ty, st with
  | some q, .int n :: r => if n < 0 ∨ 60000000 < n.toNatClampNeg then none else some ((pc + 2, lv, .ref G.1.length :: r), (G.1 ++ [.inl (q.1, q.2 n.toNatClampNeg)], G.2 + n.toNatClampNeg))
  | _, _ => none
def px_nwr (M : px_M) (pc : Nat) (lv : px_L) (st : List Value) (G : px_G) (idx : Nat) : Option (px_S × px_G) := match px_mx M idx, st with
  | some (6, t, _, _), .int n :: r => if n < 0 ∨ 60000000 < n.toNatClampNeg then none else some ((pc + 3, lv, .ref G.1.length :: r), (G.1 ++ [.inl (t, n.toNatClampNeg, .inr (.inr []))], G.2 + n.toNatClampNeg))
  | _, _ => none
def px_new (cl : List vw_C) (fty : Nat → Nat → FieldType) (M : px_M) (pc : Nat) (lv : px_L) (st : List Value) (G : px_G) (idx : Nat) : Option (px_S × px_G) := match px_mx M idx with
  | some (2, ci, _, _) => match cl[ci]? with
    | some w => some ((pc + 3, lv, .ref G.1.length :: st), (G.1 ++ [.inr (ci, (List.range w.2.2).map (fun k => px_dv (fty ci k)))], G.2 + w.2.2))
    | none => none
  | _ => none
def px_cst (V : px_V) (n : Nat) (M : px_M) (pc : Nat) (lv : px_L) (st : List Value) (G : px_G) (idx : Nat) : Option (px_S × px_G) := match px_mx M idx with
  | some (3, _, _, v) => some ((pc + n, lv, .int v.toInt32 :: st), G)
  | some (4, 1, _, _) => match V.2.2.2.1.find? (fun q => q.1 == (px_my M).cls && q.2.1 == idx) with
    | some q => if n = 2 then some ((pc + n, lv, .float (UInt32.ofNat q.2.2.2) :: st), G) else none
    | none => none
  | _ => none
/-- a static: a number, or the table -/
def px_gst (V : px_V) (M : px_M) (pc : Nat) (lv : px_L) (st : List Value) (G : px_G) (idx : Nat) : Option (px_S × px_G) := match px_mx M idx with
  | some (14, _, _, _) => some ((pc + 3, lv, .int 1 :: st), G)
  | some (15, _, _, _) => some ((pc + 3, lv, .float 200 :: st), G)
  | some (17, _, _, _) => some ((pc + 3, lv, (bif V.2.2.2.2 then .null else .float 201) :: st), G)
  | _ => none
def px_csl (M : px_M) (pc : Nat) (lv : px_L) (st : List Value) (G : px_G) (idx : Nat) : Option (px_S × px_G) := match px_mx M idx with
  | some (5, _, _, v) => some ((pc + 3, lv, .long v :: st), G)
  | _ => none
/-- Object's own constructor -/
def px_obj (M : px_M) (pc : Nat) (lv : px_L) (st : List Value) (G : px_G) (idx : Nat) : Option (px_S × px_G) := match px_mx M idx, st with
  | some (8, _, _, _), .ref _ :: r => if (r.map fun v => v.category).sum ≤ 8 then some ((pc + 3, lv, r), G) else none
  | _, _ => none
/-- Math.min, Math.max -/
def px_mm (M : px_M) (pc : Nat) (lv : px_L) (st : List Value) (G : px_G) (idx : Nat) : Option (px_S × px_G) := match px_mx M idx, st with
  | some (18, _, _, _), .int y :: .int x :: r => if (r.map fun v => v.category).sum ≤ 8 then some ((pc + 3, lv, .int (if y < x then y else x) :: r), G) else none
  | some (19, _, _, _), .int y :: .int x :: r => if (r.map fun v => v.category).sum ≤ 8 then some ((pc + 3, lv, .int (if x < y then y else x) :: r), G) else none
  | _, _ => none
/-- the instructions that see the heap, and no other frame -/
def px_heap (cl : List vw_C) (fty : Nat → Nat → FieldType) (V : px_V) (M : px_M) (i : Instr) (pc : Nat) (lv : px_L) (st : List Value) (G : px_G) : Option (px_S × px_G) := match i with
  | .getfield idx => px_get V M pc lv st G idx
  | .putfield idx => px_put cl fty M pc lv st G idx
  | .iaload => px_ldi V pc lv st G
  | .laload => px_ldl pc lv st G
  | .baload => px_ldb V pc lv st G
  | .aaload => px_lda pc lv st G
  | .iastore => px_sti pc lv st G
  | .lastore => px_stl pc lv st G
  | .bastore => px_stb pc lv st G
  | .aastore => px_sta cl pc lv st G
  | .arraylength => px_aln V pc lv st G
  | .newarray ty => px_nwa pc lv st G ty
  | .anewarray idx => px_nwr M pc lv st G idx
  | .new idx => px_new cl fty M pc lv st G idx
  | .ldc idx => px_cst V 2 M pc lv st G idx
  | .ldc_w idx => px_cst V 3 M pc lv st G idx
  | .ldc2_w idx => px_csl M pc lv st G idx
  | .invokespecial idx => px_obj M pc lv st G idx
  | .caload => px_ldc V pc lv st G
  | .invokestatic idx => px_mm M pc lv st G idx
  | .getstatic idx => px_gst V M pc lv st G idx
  | _ => none
end
section
/-! ===== the pure machine's heap instructions are the machine's ===== -/
/-- what the tables must say of an entry of a class's pool -/
def px_wd (cl : List vw_C) (TB : List Cond) (own : String) (idx : Nat) (x : px_X) : Prop := match x with
  | (0, ci, k, _) => ∃ r, cl[ci]? = some r ∧ k < r.2.2 ∧ Cond.fieldLink own idx (r.2.1 k).1 (r.2.1 k).2.1 (r.2.1 k).2.2.1 ∈ TB
  | (2, ci, _, _) => ∀ r, cl[ci]? = some r → Cond.classLink own idx r.1 ∈ TB ∧ Cond.instantiable r.1 r.2.2 ∈ TB ∧ Cond.initialized r.1 ∈ TB
  | (3, _, _, v) => Cond.constant own idx v.toInt32 ∈ TB
  | (5, _, _, v) => Cond.constantLong own idx v ∈ TB
  | (6, t, _, _) => (t = 4 ∨ t = 5) ∧ ∃ C, px_ty t = .object C ∧ Cond.classLink own idx C ∈ TB ∧ Cond.arrayOver (.object C) ∈ TB
  | (14, _, _, _) => Cond.fieldLink own idx "java/lang/String" "COMPACT_STRINGS" "Z" ∈ TB
  | (15, _, _, _) => Cond.fieldLink own idx "AlgolHouseModel" "WORDS" "[C" ∈ TB
  | (17, _, _, _) => Cond.fieldLink own idx "jdk/internal/util/Preconditions" "SIOOBE_FORMATTER" "Ljava/util/function/BiFunction;" ∈ TB
  | (18, _, _, _) => Cond.methodLink own idx Lib.Math.min.name ∈ TB ∧ Cond.static Lib.Math.min.name ∈ TB ∧ Cond.initialized "java/lang/Math" ∈ TB ∧ Cond.code Lib.Math.min.name Lib.Math.min.code 2 (some .int) ∈ TB
  | (19, _, _, _) => Cond.methodLink own idx Lib.Math.max.name ∈ TB ∧ Cond.static Lib.Math.max.name ∈ TB ∧ Cond.initialized "java/lang/Math" ∈ TB ∧ Cond.code Lib.Math.max.name Lib.Math.max.code 2 (some .int) ∈ TB
  | (16, f, _, _) => (f = 0 → Cond.fieldLink own idx "java/lang/String" "value" "[B" ∈ TB) ∧ (f = 1 → Cond.fieldLink own idx "java/lang/String" "coder" "B" ∈ TB)
  | (8, _, _, _) => Cond.methodLink own idx Lib.objectInit ∈ TB ∧ Cond.instanceMethod Lib.objectInit ∈ TB ∧ Cond.code Lib.objectInit ⟨#[0xb1]⟩ 1 none ∈ TB
  | _ => True
/-- what the tables must say of the classes -/
def px_clo (cl : List vw_C) (fty : Nat → Nat → FieldType) (TB : List Cond) : Prop :=
  (∀ (ci : Nat) (r : vw_C), cl[ci]? = some r → (∀ w ∈ u_ws r.1 r.2.1 r.2.2, w ∈ TB) ∧ (∀ k, k < r.2.2 → parseFieldDescriptor (r.2.1 k).2.2.1 = some (fty ci k)) ∧ (∀ a, a < r.2.2 → ∀ b, b < r.2.2 → a ≠ b → (r.2.1 a).2.1 ≠ (r.2.1 b).2.1) ∧ ∀ k, k < r.2.2 → defaultValue (fty ci k) = px_dv (fty ci k)) ∧
  Cond.arrayClass .int ∈ TB ∧ Cond.arrayClass .long ∈ TB ∧ Cond.arrayClass .byte ∈ TB ∧ Cond.arrayClass .boolean ∈ TB
/-- the world: the pure heap at its addresses; what was there before is as it was -/
def px_I (base : Nat) (ext : UInt32 → Nat) (tA : Nat → ClassId) (D : va_G) (cl : List vw_C) (H0 : Heap) (G : px_G) (H : Heap) (locs : List Loc) : Prop :=
  H0.size = base ∧ va_P D cl (px_ws base ext tA G.1) H ∧ va_S (fun q : Nat => base ≤ q) H0 H locs
/-- the counts: a method begins with n0 cells of s0 slots -/
def px_N (base n0 s0 : Nat) (G : px_G) (s : State) (cells slots : Nat) : Prop := s.heap.size = base + n0 ∧ cells + n0 = G.1.length ∧ slots + s0 = G.2
/-- what a row needs of the method that it stands in -/
def px_C (TB : List Cond) (M : px_M) (p : Program) (s : State) (m : MethodId) (args : Array Value) (meth : Method) (c : Code) : Prop :=
  p.tables.exec = Jvm.exec ∧ c.code = px_mb M ∧ meth.sig.returnType = px_mr M ∧ c.maxLocals = px_ml M ∧ s.vm.findClass (px_my M).cls = some m.cls ∧ (∀ w ∈ TB, w.before args s = true) ∧ meth.locks = false ∧ meth.name = (px_my M).name ∧
    c.exceptionTable.toList.map (fun h => (h.startPc, h.endPc, h.handlerPc, h.catchType)) = px_mh M
/-- the script, the texts, the table lie outside, and are as they were -/
def px_Xt (ext : UInt32 → Nat) (V : px_V) (H0 : Heap) (s : State) : Prop := (∀ w, V.1 = some w → va_X (ext 0) w.1 w.2 s H0) ∧ ext 0 < H0.size ∧
  (∀ j bs, px_str V j = some bs → va_O "java/lang/String" (ext j) (fun q : Nat => H0.size ≤ q) s H0 ∧ va_OF "java/lang/String" "coder" "B" (.int 0) (ext j) (fun q : Nat => H0.size ≤ q) s H0 ∧ va_OF "java/lang/String" "value" "[B" (.ref (ext (j + 100))) (ext j) (fun q : Nat => H0.size ≤ q) s H0) ∧
  (∀ j bs, px_arr V j = some bs → va_T .byte (ext j) bs.length (fun i => .int (bs.getD i 0)) (fun q : Nat => H0.size ≤ q) s H0) ∧
  va_Z "java/lang/String" "COMPACT_STRINGS" "Z" (.int 1) (fun q : Nat => H0.size ≤ q) s H0 ∧
  (va_Z "AlgolHouseModel" "WORDS" "[C" (.ref (ext 200)) (fun q : Nat => H0.size ≤ q) s H0 ∧ va_T .char (ext 200) V.2.2.1.length (fun i => .int (V.2.2.1.getD i 0)) (fun q : Nat => H0.size ≤ q) s H0) ∧
  va_Z "jdk/internal/util/Preconditions" "SIOOBE_FORMATTER" "Ljava/util/function/BiFunction;" (bif V.2.2.2.2 then .null else .ref (ext 201)) (fun q : Nat => H0.size ≤ q) s H0 ∧
  ∀ q ∈ V.2.2.2.1, vk_R q.1 q.2.1 q.2.2.1 (ext (UInt32.ofNat q.2.2.2)) s
theorem px_Xt.warm {ext : UInt32 → Nat} {V : px_V} {H0 : Heap} {s U : State} (h : px_Xt ext V H0 s) (hW : s.WarmedH U.vm) : px_Xt ext V H0 U := by
  obtain ⟨h1, h2, h3, h4, h5, ⟨h6, h7⟩, h9, h8⟩ := h
  have hvm := hW.alike
  exact ⟨fun w hw => va_X.moved hvm (h1 w hw), h2, fun j bs hj => ⟨va_O.moved hvm (h3 j bs hj).1, va_OF.moved hvm (h3 j bs hj).2.1, va_OF.moved hvm (h3 j bs hj).2.2⟩, fun j bs hj => va_T.moved hvm (h4 j bs hj), va_Z.moved hvm h5, ⟨va_Z.moved hvm h6, va_T.moved hvm h7⟩, va_Z.moved hvm h9, fun q hq => vk_R.warm hW (h8 q hq)⟩
theorem px_dv_rv (base : Nat) (ext : UInt32 → Nat) (ty : FieldType) : px_rv base ext (px_dv ty) = px_dv ty := by cases ty <;> rfl
theorem px_ra_len (base : Nat) (a : px_A) : (px_ra base a).1 = a.1 := by
  obtain ⟨n, f | f | f⟩ := a <;> rfl
section PXH
variable {p : Program} {l : Launch} {e : Env} {R : Room} {s : State} {m : MethodId} {args : Array Value} {below : List Frame} {meth : Method} {c : Code} {H : Heap} {locs : List Loc} {cells slots : Nat} {Q : State → Prop}
variable {pc : Nat} {ls : Array Slot} {base : Nat} {ext : UInt32 → Nat} {tA : Nat → ClassId} {D : va_G} {cl : List vw_C} {fty : Nat → Nat → FieldType} {TB : List Cond} {H0 : Heap} {V : px_V} {M : px_M} {lv : px_L} {st : List Value} {G : px_G} {r : px_S × px_G} {n0 s0 : Nat}
/-- a cell of the world changed in its place -/
theorem px_I_set (hI : px_I base ext tA D cl H0 G H locs) (k : Nat) (y : px_E) {H1 : Heap} {locs1 : List Loc}
    (hP : va_P D cl ((px_ws base ext tA G.1).set k (base + k, px_ce base ext tA y)) H1) (hS : va_S (fun q : Nat => base ≤ q) H0 H1 locs1) : px_I base ext tA D cl H0 (G.1.set k y, G.2) H1 locs1 := by
  rw [px_ws_set] at hP
  exact ⟨hI.1, hP, hS⟩
theorem px_N_set (hN : px_N base n0 s0 G s cells slots) (k : Nat) (y : px_E) : px_N base n0 s0 (G.1.set k y, G.2) s cells slots := ⟨hN.1, by rw [List.length_set]; exact hN.2.1, hN.2.2⟩
/-- how many cells there are -/
theorem px_size {T : State} (X : Stand p l e R s m args below meth c T locs cells slots) (hT : T.heap = H) (hI : px_I base ext tA D cl H0 G H locs) (hN : px_N base n0 s0 G s cells slots) : H.size = base + G.1.length := by
  have h1 := X.heapSize
  rw [hT] at h1
  obtain ⟨e1, e2, -⟩ := hN
  have h2 : base + G.1.length ≤ H.size := by
    cases hg : G.1.length with
    | zero => have := hI.2.2.1; have := hI.1; omega
    | succ n =>
      have hk : G.1[n]? = some (G.1[n]'(by omega)) := List.getElem?_eq_getElem (by omega)
      have := (hI.2.1 n _ (px_ws_at hk)).lt
      have h3 : base + n < H.size := this
      omega
  omega

theorem px_get_ok (C : px_C TB M p s m args meth c) (hX : px_Xt ext V H0 s) (hcl : px_clo cl fty TB) (hw : ∀ idx x, px_mx M idx = some x → px_wd cl TB (px_my M).cls idx x) (hK : va_K D cl (px_tys tA) s) (hI : px_I base ext tA D cl H0 G H locs)
    {idx : Nat} (hd : decode (px_mb M) pc = .ok (.getfield idx, 3)) (h : px_get V M pc lv st G idx = some r)
    (kk : r.1.2.1 = lv → r.2 = G → W p l e R s m args below meth c H locs cells slots Q (F0 m r.1.1 ls (r.1.2.2.map (px_rv base ext)))) : W p l e R s m args below meth c H locs cells slots Q (F0 m pc ls (st.map (px_rv base ext))) := by
  obtain ⟨hx, hb, -, -, hown, hts, -, -, -⟩ := C
  unfold px_get at h
  split at h
  · rename_i f z1 z2 j q hm
    split at h
    · rename_i bs hs
      obtain ⟨k1, k2, k3⟩ := hX.2.2.1 j bs hs
      have hS := hI.2.2
      rw [← hI.1] at hS
      split at h
      · rename_i hf
        cases h
        have w1 := (hw _ _ hm).1 hf
        obtain ⟨cf, kc, fi, fl, cell, g1, g2, g3, g4, g5, g6⟩ := k3.kept hS.2.1
        exact W.getf hx hb hown (hts _ w1) g1 g2 g3 g4 (v := .ref (ext (j + 100))) g5 rfl rfl hd (kk rfl rfl)
      · split at h
        · rename_i hf
          cases h
          have w1 := (hw _ _ hm).2 hf
          obtain ⟨cf, kc, fi, fl, cell, g1, g2, g3, g4, g5, g6⟩ := k2.kept hS.2.1
          exact W.getf hx hb hown (hts _ w1) g1 g2 g3 g4 (v := .int 0) g5 rfl rfl hd (kk rfl rfl)
        · cases h
    · cases h
  · rename_i ci k z a q hm
    split at h
    · rename_i cj fs hg
      split at h
      · rename_i hc
        subst hc
        split at h
        · rename_i v hv
          cases h
          obtain ⟨rr, h1, h2, h3⟩ := hw _ _ hm
          refine va_get hx hb hts (hcl.1 _ _ h1).1 hown hK hI.2.1 a (px_ws_at hg) h1 k h2 (hts _ h3) (fun _ z => z) (v := px_rv base ext v) ?_ hd (kk rfl rfl)
          rw [List.getElem?_map, hv]
          rfl
        · cases h
      · cases h
    · cases h
  · cases h
theorem px_put_ok (C : px_C TB M p s m args meth c) (hcl : px_clo cl fty TB) (hw : ∀ idx x, px_mx M idx = some x → px_wd cl TB (px_my M).cls idx x) (hK : va_K D cl (px_tys tA) s) (hI : px_I base ext tA D cl H0 G H locs) (hN : px_N base n0 s0 G s cells slots)
    {idx : Nat} (hd : decode (px_mb M) pc = .ok (.putfield idx, 3)) (h : px_put cl fty M pc lv st G idx = some r)
    (kk : ∀ (H1 : Heap) (locs1 : List Loc), r.1.2.1 = lv → px_I base ext tA D cl H0 r.2 H1 locs1 → px_N base n0 s0 r.2 s cells slots → W p l e R s m args below meth c H1 locs1 cells slots Q (F0 m r.1.1 ls (r.1.2.2.map (px_rv base ext)))) : W p l e R s m args below meth c H locs cells slots Q (F0 m pc ls (st.map (px_rv base ext))) := by
  obtain ⟨hx, hb, -, -, hown, hts, -, hnm, -⟩ := C
  unfold px_put at h
  split at h
  · rename_i ci k z v a q hm
    split at h
    · rename_i cj fs hg
      split at h
      · rename_i hc
        obtain ⟨hc, hk, hfit, hfin⟩ := hc
        subst hc
        cases h
        obtain ⟨rr, h1, h2, h3⟩ := hw _ _ hm
        obtain ⟨g1, g2, g3, -⟩ := hcl.1 _ _ h1
        obtain ⟨f1, f2⟩ := px_fit_ok (base := base) (ext := ext) hfit
        have hset : (fs.map (px_rv base ext)).set k (px_rv base ext v) = (fs.set k v).map (px_rv base ext) := by rw [List.map_set]
        have hkk : ∀ (H1 : Heap) (locs1 : List Loc), va_P D cl ((px_ws base ext tA G.1).set a (base + a, .inr (cj, (fs.map (px_rv base ext)).set k (px_rv base ext v)))) H1 → va_D (fun q : Nat => base ≤ q) ((px_ws base ext tA G.1).set a (base + a, .inr (cj, (fs.map (px_rv base ext)).set k (px_rv base ext v)))) → va_S (fun q : Nat => base ≤ q) H0 H1 locs1 → W p l e R s m args below meth c H1 locs1 cells slots Q (F0 m (pc + 3) ls (q.map (px_rv base ext))) := by
          intro H1 locs1 hP1 _ hS1
          rw [hset] at hP1
          exact kk H1 locs1 rfl (px_I_set hI a (.inr (cj, fs.set k v)) hP1 hS1) (px_N_set hN _ _)
        unfold px_fin at hfin
        rw [h1] at hfin
        simp only [Bool.and_eq_true, decide_eq_true_eq, Bool.or_eq_true, Bool.not_eq_true', beq_iff_eq] at hfin
        rcases hfin.2 with z1 | z1
        · exact va_put hx hb hts g1 (fty cj) g2 g3 hown hK hI.2.1 px_ws_D hI.2.2 a (px_ws_at hg) h1 k h2 (hts _ h3) (fun _ z => z) z1 (g2 k h2) f1 f2 (by rw [List.length_map]; exact hk) hd hkk
        · by_cases z0 : (rr.2.1 k).2.2.2 = false
          · exact va_put hx hb hts g1 (fty cj) g2 g3 hown hK hI.2.1 px_ws_D hI.2.2 a (px_ws_at hg) h1 k h2 (hts _ h3) (fun _ z => z) z0 (g2 k h2) f1 f2 (by rw [List.length_map]; exact hk) hd hkk
          · exact va_putF hx hb hts g1 (fty cj) g2 g3 hown hK hI.2.1 px_ws_D hI.2.2 a (px_ws_at hg) h1 k h2 (hts _ h3) (fun _ z => z) (by simpa using z0) (hnm.trans z1.1) z1.2 (g2 k h2) f1 f2 (by rw [List.length_map]; exact hk) hd hkk
      · cases h
    · cases h
  · cases h
theorem px_ldi_ok (C : px_C TB M p s m args meth c) (hX : px_Xt ext V H0 s) (hK : va_K D cl (px_tys tA) s) (hI : px_I base ext tA D cl H0 G H locs)
    (hd : decode (px_mb M) pc = .ok (.iaload, 1)) (h : px_ldi V pc lv st G = some r)
    (kk : r.1.2.1 = lv → r.2 = G → W p l e R s m args below meth c H locs cells slots Q (F0 m r.1.1 ls (r.1.2.2.map (px_rv base ext)))) : W p l e R s m args below meth c H locs cells slots Q (F0 m pc ls (st.map (px_rv base ext))) := by
  obtain ⟨hx, hb, -, -, -, -, -, -, -⟩ := C
  unfold px_ldi at h
  split at h
  · split at h
    · rename_i hg
      split at h
      · cases h
      · rename_i hin
        cases h
        exact va_iald hx hb hK hI.2.1 _ 0 (px_ws_at hg) (px_tys_at tA (by decide)) hin hd (kk rfl rfl)
    · cases h
  · rename_i i j q
    split at h
    · rename_i hj
      subst hj
      split at h
      · rename_i w hV
        split at h
        · cases h
        · rename_i hin
          cases h
          exact va_sld hx hb (hX.1 w hV) hX.2.1 (A := fun q : Nat => base ≤ q) (by have := hX.2.1; have := hI.1; omega) hI.2.2 hin hd (kk rfl rfl)
      · cases h
    · cases h
  · cases h
theorem px_ldl_ok (C : px_C TB M p s m args meth c) (hK : va_K D cl (px_tys tA) s) (hI : px_I base ext tA D cl H0 G H locs)
    (hd : decode (px_mb M) pc = .ok (.laload, 1)) (h : px_ldl pc lv st G = some r)
    (kk : r.1.2.1 = lv → r.2 = G → W p l e R s m args below meth c H locs cells slots Q (F0 m r.1.1 ls (r.1.2.2.map (px_rv base ext)))) : W p l e R s m args below meth c H locs cells slots Q (F0 m pc ls (st.map (px_rv base ext))) := by
  obtain ⟨hx, hb, -, -, -, -, -, -, -⟩ := C
  unfold px_ldl at h
  split at h
  · split at h
    · rename_i hg
      split at h
      · cases h
      · rename_i hin
        cases h
        exact va_lald hx hb hK hI.2.1 _ 1 (px_ws_at hg) (px_tys_at tA (by decide)) hin hd (kk rfl rfl)
    · cases h
  · cases h
theorem px_ldb_ok (C : px_C TB M p s m args meth c) (hX : px_Xt ext V H0 s) (hK : va_K D cl (px_tys tA) s) (hI : px_I base ext tA D cl H0 G H locs)
    (hd : decode (px_mb M) pc = .ok (.baload, 1)) (h : px_ldb V pc lv st G = some r)
    (kk : r.1.2.1 = lv → r.2 = G → W p l e R s m args below meth c H locs cells slots Q (F0 m r.1.1 ls (r.1.2.2.map (px_rv base ext)))) : W p l e R s m args below meth c H locs cells slots Q (F0 m pc ls (st.map (px_rv base ext))) := by
  obtain ⟨hx, hb, -, -, -, -, -, -, -⟩ := C
  unfold px_ldb at h
  split at h
  · split at h
    · rename_i hg
      split at h
      · cases h
      · rename_i hin
        cases h
        exact va_bald hx hb hK hI.2.1 _ 2 (px_ws_at hg) (px_tys_at tA (by decide)) hin hd (kk rfl rfl)
    · rename_i hg
      split at h
      · cases h
      · rename_i hin
        cases h
        exact va_zald hx hb hK hI.2.1 _ 3 (px_ws_at hg) (px_tys_at tA (by decide)) hin hd (kk rfl rfl)
    · cases h
  · rename_i i j q
    split at h
    · rename_i bs hs
      split at h
      · cases h
      · rename_i hin
        cases h
        have hS := hI.2.2
        rw [← hI.1] at hS
        obtain ⟨cell, g1, g2, g3, g4, g5, g6, g7⟩ := (hX.2.2.2.1 j bs hs).kept hS.2.1
        have hlt : i.toNatClampNeg < bs.length := Nat.not_le.mp fun z => hin (Or.inr z)
        exact W.bald (v := .int (bs.getD i.toNatClampNeg 0)) hx hb g1 g2 g3 (fun z => hin (z.elim Or.inl (fun z => Or.inr (Nat.le_trans g4 z)))) (g6 _ hlt) rfl rfl hd (kk rfl rfl)
    · cases h
  · cases h
theorem px_ldc_ok (C : px_C TB M p s m args meth c) (hX : px_Xt ext V H0 s) (hI : px_I base ext tA D cl H0 G H locs)
    (hd : decode (px_mb M) pc = .ok (.caload, 1)) (h : px_ldc V pc lv st G = some r)
    (kk : r.1.2.1 = lv → r.2 = G → W p l e R s m args below meth c H locs cells slots Q (F0 m r.1.1 ls (r.1.2.2.map (px_rv base ext)))) : W p l e R s m args below meth c H locs cells slots Q (F0 m pc ls (st.map (px_rv base ext))) := by
  obtain ⟨hx, hb, -, -, -, -, -, -, -⟩ := C
  unfold px_ldc at h
  split at h
  · rename_i i j q
    split at h
    · rename_i hin
      obtain ⟨hj, hin⟩ := hin
      subst hj
      cases h
      have hS := hI.2.2
      rw [← hI.1] at hS
      obtain ⟨cell, g1, g2, g3, g4, g5, g6, g7⟩ := hX.2.2.2.2.2.1.2.kept hS.2.1
      have hlt : i.toNatClampNeg < V.2.2.1.length := Nat.not_le.mp fun z => hin (Or.inr z)
      exact W.cald (v := .int (V.2.2.1.getD i.toNatClampNeg 0)) hx hb g1 g2 g3 (fun z => hin (z.elim Or.inl (fun z => Or.inr (Nat.le_trans g4 z)))) (g6 _ hlt) rfl rfl hd (kk rfl rfl)
    · cases h
  · cases h
theorem px_gst_ok (C : px_C TB M p s m args meth c) (hX : px_Xt ext V H0 s) (hw : ∀ idx x, px_mx M idx = some x → px_wd cl TB (px_my M).cls idx x) (hI : px_I base ext tA D cl H0 G H locs)
    {idx : Nat} (hd : decode (px_mb M) pc = .ok (.getstatic idx, 3)) (h : px_gst V M pc lv st G idx = some r)
    (kk : r.1.2.1 = lv → r.2 = G → W p l e R s m args below meth c H locs cells slots Q (F0 m r.1.1 ls (r.1.2.2.map (px_rv base ext)))) : W p l e R s m args below meth c H locs cells slots Q (F0 m pc ls (st.map (px_rv base ext))) := by
  obtain ⟨hx, hb, -, -, hown, hts, -, -, -⟩ := C
  have hS := hI.2.2
  rw [← hI.1] at hS
  unfold px_gst at h
  split at h
  · rename_i z1 z2 z3 hm
    cases h
    obtain ⟨cf, kf, fi, f, a, cell, h1, h2, h3, h4, h5, h6, h7, h8⟩ := hX.2.2.2.2.1.kept hS.2.1
    exact W.gets hx hb hown (hts _ (hw _ _ hm)) h1 h2 h3 h4 h5 (fun e => by rw [e] at h6; cases h6) h7 rfl hd (kk rfl rfl)
  · rename_i z1 z2 z3 hm
    cases h
    obtain ⟨cf, kf, fi, f, a, cell, h1, h2, h3, h4, h5, h6, h7, h8⟩ := hX.2.2.2.2.2.1.1.kept hS.2.1
    exact W.gets hx hb hown (hts _ (hw _ _ hm)) h1 h2 h3 h4 h5 (fun e => by rw [e] at h6; cases h6) h7 rfl hd (kk rfl rfl)
  · rename_i z1 z2 z3 hm
    cases h
    obtain ⟨cf, kf, fi, f, a, cell, h1, h2, h3, h4, h5, h6, h7, h8⟩ := hX.2.2.2.2.2.2.1.kept hS.2.1
    have k2 := kk rfl rfl
    have e1 : px_rv base ext (bif V.2.2.2.2 then .null else .float 201) = (bif V.2.2.2.2 then .null else .ref (ext 201)) := by cases V.2.2.2.2 <;> rfl
    simp only [List.map_cons] at k2
    rw [e1] at k2
    exact W.gets hx hb hown (hts _ (hw _ _ hm)) h1 h2 h3 h4 h5 (fun e => by rw [e] at h6; cases h6) h7 rfl hd k2
  · cases h
theorem px_lda_ok (C : px_C TB M p s m args meth c) (hK : va_K D cl (px_tys tA) s) (hI : px_I base ext tA D cl H0 G H locs)
    (hd : decode (px_mb M) pc = .ok (.aaload, 1)) (h : px_lda pc lv st G = some r)
    (kk : r.1.2.1 = lv → r.2 = G → W p l e R s m args below meth c H locs cells slots Q (F0 m r.1.1 ls (r.1.2.2.map (px_rv base ext)))) : W p l e R s m args below meth c H locs cells slots Q (F0 m pc ls (st.map (px_rv base ext))) := by
  obtain ⟨hx, hb, -, -, -, -, -, -, -⟩ := C
  unfold px_lda at h
  split at h
  · rename_i i a q
    split at h
    · rename_i t n f hg
      split at h
      · rename_i hin
        obtain ⟨ht, hin⟩ := hin
        split at h
        · rename_i k hf
          cases h
          have h4 := kk rfl rfl
          have hv : va_rf ((px_fd1 f i.toNatClampNeg).map (fun k => base + k)) = .ref (base + k) := by rw [hf]; rfl
          rcases ht with rfl | rfl
          · exact va_aldq (f := fun j => (px_fd1 f j).map (fun k => base + k)) hx hb hK hI.2.1 a 4 (px_ws_at hg) (px_tys_at tA (by decide)) hin hd (by rw [hv]; exact h4)
          · exact va_aldq (f := fun j => (px_fd1 f j).map (fun k => base + k)) hx hb hK hI.2.1 a 5 (px_ws_at hg) (px_tys_at tA (by decide)) hin hd (by rw [hv]; exact h4)
        · cases h
      · cases h
    · cases h
  · cases h
theorem px_sti_ok (C : px_C TB M p s m args meth c) (hK : va_K D cl (px_tys tA) s) (hI : px_I base ext tA D cl H0 G H locs) (hN : px_N base n0 s0 G s cells slots)
    (hd : decode (px_mb M) pc = .ok (.iastore, 1)) (h : px_sti pc lv st G = some r)
    (kk : ∀ (H1 : Heap) (locs1 : List Loc), r.1.2.1 = lv → px_I base ext tA D cl H0 r.2 H1 locs1 → px_N base n0 s0 r.2 s cells slots → W p l e R s m args below meth c H1 locs1 cells slots Q (F0 m r.1.1 ls (r.1.2.2.map (px_rv base ext)))) : W p l e R s m args below meth c H locs cells slots Q (F0 m pc ls (st.map (px_rv base ext))) := by
  obtain ⟨hx, hb, -, -, -, -, -, -, -⟩ := C
  unfold px_sti at h
  split at h
  · split at h
    · rename_i hg
      split at h
      · cases h
      · rename_i hin
        cases h
        exact va_iast hx hb hK hI.2.1 px_ws_D hI.2.2 _ 0 (px_ws_at hg) (px_tys_at tA (by decide)) hin hd (fun H1 locs1 hP1 _ hS1 => by rw [px_gi_wr] at hP1; exact kk H1 locs1 rfl (px_I_set hI _ (.inl (0, _, .inl _)) hP1 hS1) (px_N_set hN _ _))
    · cases h
  · cases h
theorem px_stl_ok (C : px_C TB M p s m args meth c) (hK : va_K D cl (px_tys tA) s) (hI : px_I base ext tA D cl H0 G H locs) (hN : px_N base n0 s0 G s cells slots)
    (hd : decode (px_mb M) pc = .ok (.lastore, 1)) (h : px_stl pc lv st G = some r)
    (kk : ∀ (H1 : Heap) (locs1 : List Loc), r.1.2.1 = lv → px_I base ext tA D cl H0 r.2 H1 locs1 → px_N base n0 s0 r.2 s cells slots → W p l e R s m args below meth c H1 locs1 cells slots Q (F0 m r.1.1 ls (r.1.2.2.map (px_rv base ext)))) : W p l e R s m args below meth c H locs cells slots Q (F0 m pc ls (st.map (px_rv base ext))) := by
  obtain ⟨hx, hb, -, -, -, -, -, -, -⟩ := C
  unfold px_stl at h
  split at h
  · split at h
    · rename_i hg
      split at h
      · cases h
      · rename_i hin
        cases h
        exact va_last hx hb hK hI.2.1 px_ws_D hI.2.2 _ 1 (px_ws_at hg) (px_tys_at tA (by decide)) hin hd (fun H1 locs1 hP1 _ hS1 => by rw [px_gl_wr] at hP1; exact kk H1 locs1 rfl (px_I_set hI _ (.inl (1, _, .inr (.inl _))) hP1 hS1) (px_N_set hN _ _))
    · cases h
  · cases h
theorem px_stb_ok (C : px_C TB M p s m args meth c) (hK : va_K D cl (px_tys tA) s) (hI : px_I base ext tA D cl H0 G H locs) (hN : px_N base n0 s0 G s cells slots)
    (hd : decode (px_mb M) pc = .ok (.bastore, 1)) (h : px_stb pc lv st G = some r)
    (kk : ∀ (H1 : Heap) (locs1 : List Loc), r.1.2.1 = lv → px_I base ext tA D cl H0 r.2 H1 locs1 → px_N base n0 s0 r.2 s cells slots → W p l e R s m args below meth c H1 locs1 cells slots Q (F0 m r.1.1 ls (r.1.2.2.map (px_rv base ext)))) : W p l e R s m args below meth c H locs cells slots Q (F0 m pc ls (st.map (px_rv base ext))) := by
  obtain ⟨hx, hb, -, -, -, -, -, -, -⟩ := C
  unfold px_stb at h
  split at h
  · split at h
    · rename_i hg
      split at h
      · cases h
      · rename_i hin
        cases h
        exact va_bast hx hb hK hI.2.1 px_ws_D hI.2.2 _ 2 (px_ws_at hg) (px_tys_at tA (by decide)) hin hd (fun H1 locs1 hP1 _ hS1 => by rw [px_gi_wr] at hP1; exact kk H1 locs1 rfl (px_I_set hI _ (.inl (2, _, .inl _)) hP1 hS1) (px_N_set hN _ _))
    · rename_i hg
      split at h
      · cases h
      · rename_i hin
        cases h
        exact va_zast hx hb hK hI.2.1 px_ws_D hI.2.2 _ 3 (px_ws_at hg) (px_tys_at tA (by decide)) hin hd (fun H1 locs1 hP1 _ hS1 => by rw [px_gi_wr] at hP1; exact kk H1 locs1 rfl (px_I_set hI _ (.inl (3, _, .inl _)) hP1 hS1) (px_N_set hN _ _))
    · cases h
  · cases h
theorem px_sta_ok (C : px_C TB M p s m args meth c) (hK : va_K D cl (px_tys tA) s) (hI : px_I base ext tA D cl H0 G H locs) (hN : px_N base n0 s0 G s cells slots)
    (hd : decode (px_mb M) pc = .ok (.aastore, 1)) (h : px_sta cl pc lv st G = some r)
    (kk : ∀ (H1 : Heap) (locs1 : List Loc), r.1.2.1 = lv → px_I base ext tA D cl H0 r.2 H1 locs1 → px_N base n0 s0 r.2 s cells slots → W p l e R s m args below meth c H1 locs1 cells slots Q (F0 m r.1.1 ls (r.1.2.2.map (px_rv base ext)))) : W p l e R s m args below meth c H locs cells slots Q (F0 m pc ls (st.map (px_rv base ext))) := by
  obtain ⟨hx, hb, -, -, -, -, -, -, -⟩ := C
  unfold px_sta at h
  split at h
  · rename_i v i a q
    split at h
    · rename_i t n f ci vs hg hv
      split at h
      · rename_i w hc
        split at h
        · rename_i hin
          obtain ⟨ht, hty, hin⟩ := hin
          cases h
          have hkk : ∀ (H1 : Heap) (locs1 : List Loc), va_P D cl ((px_ws base ext tA G.1).set a (base + a, .inl (tA t, n, .inr (.inr (.inr (.inr (va_up (fun j => (px_fd1 f j).map (fun k => base + k)) i.toNatClampNeg (some (base + v))))))))) H1 → va_D (fun q : Nat => base ≤ q) ((px_ws base ext tA G.1).set a (base + a, .inl (tA t, n, .inr (.inr (.inr (.inr (va_up (fun j => (px_fd1 f j).map (fun k => base + k)) i.toNatClampNeg (some (base + v))))))))) → va_S (fun q : Nat => base ≤ q) H0 H1 locs1 → W p l e R s m args below meth c H1 locs1 cells slots Q (F0 m (pc + 1) ls (q.map (px_rv base ext))) := by
            intro H1 locs1 hP1 _ hS1
            rw [px_gr_wr] at hP1
            exact kk H1 locs1 rfl (px_I_set hI a (.inl (t, n, .inr (.inr (px_wr f i.toNatClampNeg v)))) hP1 hS1) (px_N_set hN _ _)
          have htt : (px_tys tA)[t]? = some (tA t, .object w.1) := by
            rw [← hty]
            exact px_tys_at tA (by rcases ht with rfl | rfl <;> decide)
          exact va_astq hx hb hK hI.2.1 px_ws_D hI.2.2 a t v ci (px_ws_at hg) htt (px_ws_at hv) hc hin hd hkk
        · cases h
      · cases h
    · cases h
  · cases h
theorem px_aln_ok (C : px_C TB M p s m args meth c) (hX : px_Xt ext V H0 s) (hK : va_K D cl (px_tys tA) s) (hI : px_I base ext tA D cl H0 G H locs)
    (hd : decode (px_mb M) pc = .ok (.arraylength, 1)) (h : px_aln V pc lv st G = some r)
    (kk : r.1.2.1 = lv → r.2 = G → W p l e R s m args below meth c H locs cells slots Q (F0 m r.1.1 ls (r.1.2.2.map (px_rv base ext)))) : W p l e R s m args below meth c H locs cells slots Q (F0 m pc ls (st.map (px_rv base ext))) := by
  obtain ⟨hx, hb, -, -, -, -, -, -, -⟩ := C
  unfold px_aln at h
  split at h
  · split at h
    · rename_i t x hg
      split at h
      · rename_i ht
        cases h
        exact va_alen hx hb hK hI.2.1 _ t (px_ws_at hg) (px_tys_at tA ht) (by rw [px_ra_len]) hd (kk rfl rfl)
      · cases h
    · cases h
  · split at h
    · rename_i hj
      subst hj
      split at h
      · rename_i w hV
        cases h
        exact va_slen hx hb (hX.1 w hV) hX.2.1 (A := fun q : Nat => base ≤ q) (by have := hX.2.1; have := hI.1; omega) hI.2.2 hd (kk rfl rfl)
      · cases h
    · have hS := hI.2.2
      rw [← hI.1] at hS
      split at h
      · rename_i hj
        subst hj
        cases h
        obtain ⟨cell, g1, g2, g3, g4, g5, g6, g7⟩ := hX.2.2.2.2.2.1.2.kept hS.2.1
        exact W.alen (n := Int32.ofNat V.2.2.1.length) hx hb g1 g2 g5 rfl rfl hd (kk rfl rfl)
      · split at h
        · rename_i bs hs
          cases h
          obtain ⟨cell, g1, g2, g3, g4, g5, g6, g7⟩ := (hX.2.2.2.1 _ bs hs).kept hS.2.1
          exact W.alen (n := Int32.ofNat bs.length) hx hb g1 g2 g5 rfl rfl hd (kk rfl rfl)
        · cases h
  · cases h
end PXH
end
section
/-! ===== new cells, constants, the first constructor ===== -/
section PXA
variable {p : Program} {l : Launch} {e : Env} {R : Room} {s : State} {m : MethodId} {args : Array Value} {below : List Frame} {meth : Method} {c : Code} {H : Heap} {locs : List Loc} {cells slots : Nat} {Q : State → Prop}
variable {pc : Nat} {ls : Array Slot} {base : Nat} {ext : UInt32 → Nat} {tA : Nat → ClassId} {D : va_G} {cl : List vw_C} {fty : Nat → Nat → FieldType} {TB : List Cond} {H0 : Heap} {V : px_V} {M : px_M} {lv : px_L} {st : List Value} {G : px_G} {r : px_S × px_G} {n0 s0 : Nat}
/-- a new cell behind the others -/
theorem px_I_push (hI : px_I base ext tA D cl H0 G H locs) (hz : H.size = base + G.1.length) (y : px_E) (w : Nat) {H1 : Heap} (o1 : ∀ q : Nat, q < H.size → H1[q]? = H[q]?) (z1 : H1.size = H.size + 1) (hy : va_at D cl (base + G.1.length, px_ce base ext tA y) H1) : px_I base ext tA D cl H0 (G.1 ++ [y], w) H1 locs := by
  obtain ⟨h1, h2, h3⟩ := hI
  refine ⟨h1, ?_, Nat.le_trans h3.1 (by omega), fun q q1 q2 => (o1 q (Nat.lt_of_lt_of_le q1 h3.1)).trans (h3.2.1 q q1 q2), h3.2.2⟩
  show va_P D cl (px_ws base ext tA (G.1 ++ [y])) H1
  rw [← px_ws_push]
  refine va_P.app (h2.kept (fun k x hx => o1 x.1 ((h2 k x hx).lt))) (fun k x hx => ?_)
  have hk : k < 1 := (List.getElem?_eq_some_iff.mp hx).1
  rw [show k = 0 by omega] at hx
  cases hx
  exact hy
theorem px_nwa_ok (C : px_C TB M p s m args meth c) (hcl : px_clo cl fty TB) (hK : va_K D cl (px_tys tA) s) (hI : px_I base ext tA D cl H0 G H locs) (hN : px_N base n0 s0 G s cells slots)
    {ty : ArrayType} (hd : decode (px_mb M) pc = .ok (.newarray ty, 2)) (h : px_nwa pc lv st G ty = some r) (hRc : r.2.1.length ≤ R.cells + n0) (hRs : r.2.2 ≤ R.slots + s0)
    (kk : ∀ (H1 : Heap) (cells1 slots1 : Nat), r.1.2.1 = lv → px_I base ext tA D cl H0 r.2 H1 locs → px_N base n0 s0 r.2 s cells1 slots1 → W p l e R s m args below meth c H1 locs cells1 slots1 Q (F0 m r.1.1 ls (r.1.2.2.map (px_rv base ext)))) : W p l e R s m args below meth c H locs cells slots Q (F0 m pc ls (st.map (px_rv base ext))) := by
  obtain ⟨hx, hb, -, -, hown, hts, -, -, -⟩ := C
  unfold px_nwa at h
  split at h
  · rename_i q n rr hq
    split at h
    · cases h
    · rename_i hn
      cases h
      have hn0 : ¬ n < 0 := fun z => hn (Or.inl z)
      have hn1 : ¬ 60000000 < n.toNatClampNeg := fun z => hn (Or.inr z)
      obtain ⟨e1, e2, e3⟩ := hN
      simp only [List.length_append, List.length_cons, List.length_nil] at hRc
      have key : ∀ (t : Nat) (a0 : px_A) (F : FieldType), newarray.typeOf ty = F → t < 4 → px_ty t = F → (∀ cA : ClassId, vp_cell cA (px_ra base a0) = arrV cA n.toNatClampNeg (fun _ => defaultValue F)) → Cond.arrayClass F ∈ TB → componentBytes F ≤ 8 → (∀ cA : ClassId, va_RA s cA F → s.vm.findClass ("[" ++ F.toString) = some cA) → q = (t, q.2) → q.2 n.toNatClampNeg = a0 → W p l e R s m args below meth c H locs cells slots Q (F0 m pc ls ((Value.int n :: rr).map (px_rv base ext))) := by
        intro t a0 F hF ht htF ha hw hcb hfind hqt hqa T hT X
        have hz := px_size X hT hI ⟨e1, e2, e3⟩
        subst hF
        refine va_newaK (g := F0 m pc ls (.int n :: rr.map (px_rv base ext))) hx hb (hts _ hw) rfl hd rfl hn0 rfl ?_ (by omega) (by have : G.2 + n.toNatClampNeg ≤ R.slots + s0 := hRs; omega) hz (fun H1 cA g1 g2 g3 g4 g5 => ?_) T hT X
        · have : n.toNatClampNeg * componentBytes (newarray.typeOf ty) ≤ 60000000 * 8 := Nat.mul_le_mul (by omega) hcb
          omega
        · have hAt := hK.2 t _ (px_tys_at tA (by omega))
          rw [htF] at hAt
          have hcA : cA = tA t := Option.some.inj (g5.symm.trans (hfind _ hAt.2))
          subst hcA
          refine kk H1 _ _ rfl ?_ ?_
          · rw [hqt]
            refine px_I_push hI hz (.inl (t, q.2 n.toNatClampNeg)) _ (fun x hx1 => g3 x (by omega)) (by omega) ?_
            show H1[base + G.1.length]? = some (vp_cell (tA t) (px_ra base (q.2 n.toNatClampNeg)))
            rw [hqa, ha]
            exact g1
          · refine ⟨e1, ?_, ?_⟩
            · show cells + 1 + n0 = (G.1 ++ [_]).length
              simp only [List.length_append, List.length_cons, List.length_nil]
              omega
            · show slots + n.toNatClampNeg + s0 = G.2 + n.toNatClampNeg
              omega
      cases ty <;> simp only [px_at, Option.some.injEq, reduceCtorEq] at hq <;> subst hq
      all_goals first
        | exact key 0 (n.toNatClampNeg, .inl []) .int rfl (by decide) rfl (fun _ => rfl) hcl.2.1 (by decide) (fun _ z => z) rfl rfl
        | exact key 1 (n.toNatClampNeg, .inr (.inl [])) .long rfl (by decide) rfl (fun _ => rfl) hcl.2.2.1 (by decide) (fun _ z => z) rfl rfl
        | exact key 2 (n.toNatClampNeg, .inl []) .byte rfl (by decide) rfl (fun _ => rfl) hcl.2.2.2.1 (by decide) (fun _ z => z) rfl rfl
        | exact key 3 (n.toNatClampNeg, .inl []) .boolean rfl (by decide) rfl (fun _ => rfl) hcl.2.2.2.2 (by decide) (fun _ z => z) rfl rfl
  · cases h
theorem px_nwr_ok (C : px_C TB M p s m args meth c) (hw : ∀ idx x, px_mx M idx = some x → px_wd cl TB (px_my M).cls idx x) (hK : va_K D cl (px_tys tA) s) (hI : px_I base ext tA D cl H0 G H locs) (hN : px_N base n0 s0 G s cells slots)
    {idx : Nat} (hd : decode (px_mb M) pc = .ok (.anewarray idx, 3)) (h : px_nwr M pc lv st G idx = some r) (hRc : r.2.1.length ≤ R.cells + n0) (hRs : r.2.2 ≤ R.slots + s0)
    (kk : ∀ (H1 : Heap) (cells1 slots1 : Nat), r.1.2.1 = lv → px_I base ext tA D cl H0 r.2 H1 locs → px_N base n0 s0 r.2 s cells1 slots1 → W p l e R s m args below meth c H1 locs cells1 slots1 Q (F0 m r.1.1 ls (r.1.2.2.map (px_rv base ext)))) : W p l e R s m args below meth c H locs cells slots Q (F0 m pc ls (st.map (px_rv base ext))) := by
  obtain ⟨hx, hb, -, -, hown, hts, -, -, -⟩ := C
  unfold px_nwr at h
  split at h
  · rename_i t z1 z2 n rr hm
    split at h
    · cases h
    · rename_i hn
      cases h
      have hn0 : ¬ n < 0 := fun z => hn (Or.inl z)
      have hn1 : ¬ 60000000 < n.toNatClampNeg := fun z => hn (Or.inr z)
      obtain ⟨e1, e2, e3⟩ := hN
      simp only [List.length_append, List.length_cons, List.length_nil] at hRc
      obtain ⟨ht, C0, hC0, w1, w2⟩ := hw _ _ hm
      intro T hT X
      have hz := px_size X hT hI ⟨e1, e2, e3⟩
      refine W.anew (g := F0 m pc ls (.int n :: rr.map (px_rv base ext))) hx hb hown (hts _ w1) (hts _ w2) rfl hd rfl hn0 (by omega) (by omega) (by have : G.2 + n.toNatClampNeg ≤ R.slots + s0 := hRs; omega) (fun cA kA comp f1 f2 f3 f4 => ?_) T hT X
      generalize hH1 : H.push ({ cls := cA, slots := Array.replicate n.toNatClampNeg .null, vm := .none } : Cell) = H1
      have y1 : H1.size = H.size + 1 := by rw [← hH1, Array.size_push]
      have y2 : H1[H.size]? = some (arrV cA n.toNatClampNeg (fun _ => .null)) := by rw [← hH1, Array.getElem?_push_size, ← arrV_new]
      have y3 : ∀ q : Nat, q < H.size → H1[q]? = H[q]? := fun q hq => by rw [← hH1, Array.getElem?_push, if_neg (Nat.ne_of_lt hq)]
      have hAt := hK.2 t _ (px_tys_at tA (by rcases ht with rfl | rfl <;> decide))
      rw [hC0] at hAt
      obtain ⟨-, kA', comp', -, -, -, k4⟩ := hAt
      have hcA : cA = tA t := Option.some.inj (f1.symm.trans k4)
      subst hcA
      have hst : (Value.ref H.size :: rr.map (px_rv base ext)) = ((Value.ref G.1.length :: rr).map (px_rv base ext)) := by rw [hz]; rfl
      show W p l e R s m args below meth c H1 locs (cells + 1) (slots + n.toNatClampNeg) Q (F0 m (pc + 3) ls (Value.ref H.size :: rr.map (px_rv base ext)))
      rw [hst]
      refine kk H1 _ _ rfl ?_ ?_
      · refine px_I_push hI hz (.inl (t, n.toNatClampNeg, .inr (.inr []))) _ y3 y1 ?_
        show H1[base + G.1.length]? = some (vp_cell (tA t) _)
        rw [← hz, y2]
        rfl
      · refine ⟨e1, ?_, ?_⟩
        · show cells + 1 + n0 = (G.1 ++ [_]).length
          simp only [List.length_append, List.length_cons, List.length_nil]
          omega
        · show slots + n.toNatClampNeg + s0 = G.2 + n.toNatClampNeg
          omega
  · cases h
theorem px_new_ok (C : px_C TB M p s m args meth c) (hcl : px_clo cl fty TB) (hw : ∀ idx x, px_mx M idx = some x → px_wd cl TB (px_my M).cls idx x) (hK : va_K D cl (px_tys tA) s) (hI : px_I base ext tA D cl H0 G H locs) (hN : px_N base n0 s0 G s cells slots)
    {idx : Nat} (hd : decode (px_mb M) pc = .ok (.new idx, 3)) (h : px_new cl fty M pc lv st G idx = some r) (hRc : r.2.1.length ≤ R.cells + n0) (hRs : r.2.2 ≤ R.slots + s0)
    (kk : ∀ (H1 : Heap) (cells1 slots1 : Nat), r.1.2.1 = lv → px_I base ext tA D cl H0 r.2 H1 locs → px_N base n0 s0 r.2 s cells1 slots1 → W p l e R s m args below meth c H1 locs cells1 slots1 Q (F0 m r.1.1 ls (r.1.2.2.map (px_rv base ext)))) : W p l e R s m args below meth c H locs cells slots Q (F0 m pc ls (st.map (px_rv base ext))) := by
  obtain ⟨hx, hb, -, -, hown, hts, -, -, -⟩ := C
  unfold px_new at h
  split at h
  · rename_i ci z1 z2 hm
    split at h
    · rename_i w hc
      cases h
      obtain ⟨e1, e2, e3⟩ := hN
      simp only [List.length_append, List.length_cons, List.length_nil] at hRc
      obtain ⟨w1, w2, w3⟩ := hw _ _ hm w hc
      obtain ⟨g1, g2, -, g4⟩ := hcl.1 _ _ hc
      have hKn := hK.1 ci _ hc
      intro T hT X
      have hz := px_size X hT hI ⟨e1, e2, e3⟩
      refine W.newcK (g := F0 m pc ls (st.map (px_rv base ext))) hx hb hown (hts _ w1) (hts _ w2) (hts _ w3) rfl hd (by omega) (by have : G.2 + w.2.2 ≤ R.slots + s0 := hRs; omega) hKn.2.1 hz (fun H1 kC y0 y1 y2 y3 => ?_) T hT X
      refine kk H1 _ _ rfl ?_ ?_
      · refine px_I_push hI hz (.inr (ci, (List.range w.2.2).map (fun k => px_dv (fty ci k)))) _ (fun x hx1 => y3 x (by omega)) (by omega) ?_
        refine ⟨_, hc, (u_born (fty ci) hts g1 hKn y0 y1 g2).to (fun k hk => ?_)⟩
        rw [g4 k hk]
        simp only [vp_V, List.getD_eq_getElem?_getD, List.getElem?_map, List.getElem?_range hk, Option.map_some, Option.getD_some]
        exact (px_dv_rv base ext _).symm
      · refine ⟨e1, ?_, ?_⟩
        · show cells + 1 + n0 = (G.1 ++ [_]).length
          simp only [List.length_append, List.length_cons, List.length_nil]
          omega
        · show slots + w.2.2 + s0 = G.2 + w.2.2
          omega
    · cases h
  · cases h
theorem px_cst_ok (C : px_C TB M p s m args meth c) (hX : px_Xt ext V H0 s) (hw : ∀ idx x, px_mx M idx = some x → px_wd cl TB (px_my M).cls idx x) {n idx : Nat}
    (hd : (n = 2 ∧ decode (px_mb M) pc = .ok (.ldc idx, 2)) ∨ (n = 3 ∧ decode (px_mb M) pc = .ok (.ldc_w idx, 3))) (h : px_cst V n M pc lv st G idx = some r)
    (kk : r.1.2.1 = lv → r.2 = G → W p l e R s m args below meth c H locs cells slots Q (F0 m r.1.1 ls (r.1.2.2.map (px_rv base ext)))) : W p l e R s m args below meth c H locs cells slots Q (F0 m pc ls (st.map (px_rv base ext))) := by
  obtain ⟨hx, hb, -, -, hown, hts, -, -, -⟩ := C
  unfold px_cst at h
  split at h
  · rename_i z1 z2 v hm
    cases h
    rcases hd with ⟨rfl, hd⟩ | ⟨rfl, hd⟩
    · exact lv_ldc hx hb hown (hts _ (hw _ _ hm)) hd (kk rfl rfl)
    · exact lv_ldcw hx hb hown (hts _ (hw _ _ hm)) hd (kk rfl rfl)
  · rename_i z1 z2 hm
    split at h
    · rename_i q hf
      split at h
      · rename_i hn2
        cases h
        have hmem := List.mem_of_find?_eq_some hf
        have hq := List.find?_some hf
        simp only [Bool.and_eq_true, beq_iff_eq] at hq
        have hR := hX.2.2.2.2.2.2.2 q hmem
        rw [hq.1, hq.2] at hR
        rcases hd with ⟨rfl, hd⟩ | ⟨rfl, hd⟩
        · exact va_ldcS hx hb hown hR hd (kk rfl rfl)
        · cases hn2
      · cases h
    · cases h
  · cases h
theorem px_csl_ok (C : px_C TB M p s m args meth c) (hw : ∀ idx x, px_mx M idx = some x → px_wd cl TB (px_my M).cls idx x) {idx : Nat}
    (hd : decode (px_mb M) pc = .ok (.ldc2_w idx, 3)) (h : px_csl M pc lv st G idx = some r)
    (kk : r.1.2.1 = lv → r.2 = G → W p l e R s m args below meth c H locs cells slots Q (F0 m r.1.1 ls (r.1.2.2.map (px_rv base ext)))) : W p l e R s m args below meth c H locs cells slots Q (F0 m pc ls (st.map (px_rv base ext))) := by
  obtain ⟨hx, hb, -, -, hown, hts, -, -, -⟩ := C
  unfold px_csl at h
  split at h
  · rename_i z1 z2 v hm
    cases h
    exact lv_ldc2 hx hb hown (hts _ (hw _ _ hm)) hd (kk rfl rfl)
  · cases h
theorem px_cats (base : Nat) (ext : UInt32 → Nat) (st : List Value) : ((st.map (px_rv base ext)).map fun v => v.category).sum = (st.map fun v => v.category).sum := by
  rw [List.map_map]
  congr 1
  exact List.map_congr_left (fun v _ => px_rv_cat base ext v)
theorem px_obj_ok (C : px_C TB M p s m args meth c) (hw : ∀ idx x, px_mx M idx = some x → px_wd cl TB (px_my M).cls idx x) (hls : ls.size = c.maxLocals) (hR : 1 ≤ R.frames ∧ 20 ≤ R.locals) {idx : Nat}
    (hd : decode (px_mb M) pc = .ok (.invokespecial idx, 3)) (h : px_obj M pc lv st G idx = some r)
    (kk : r.1.2.1 = lv → r.2 = G → W p l e R s m args below meth c H locs cells slots Q (F0 m r.1.1 ls (r.1.2.2.map (px_rv base ext)))) : W p l e R s m args below meth c H locs cells slots Q (F0 m pc ls (st.map (px_rv base ext))) := by
  obtain ⟨hx, hb, -, -, hown, hts, -, -, -⟩ := C
  unfold px_obj at h
  split at h
  · rename_i z0 z1 z2 a q hm
    split at h
    · rename_i hq
      cases h
      obtain ⟨w1, w2, w3⟩ := hw _ _ hm
      refine W.objInit (g := F0 m pc ls (.ref (base + a) :: q.map (px_rv base ext))) hx hb hown (hts _ w1) (hts _ w2) (hts _ w3) rfl hls rfl hd hR.1 ?_ (kk rfl rfl)
      show 2 * 0 + _ + 12 ≤ _
      rw [px_cats]
      omega
    · cases h
  · cases h
theorem px_mm_ok (C : px_C TB M p s m args meth c) (hw : ∀ idx x, px_mx M idx = some x → px_wd cl TB (px_my M).cls idx x) (hls : ls.size = c.maxLocals) (hR : 1 ≤ R.frames ∧ 25 ≤ R.locals) (hc : cells ≤ R.cells) (hs : slots ≤ R.slots) {idx : Nat}
    (hd : decode (px_mb M) pc = .ok (.invokestatic idx, 3)) (h : px_mm M pc lv st G idx = some r)
    (kk : r.1.2.1 = lv → r.2 = G → W p l e R s m args below meth c H locs cells slots Q (F0 m r.1.1 ls (r.1.2.2.map (px_rv base ext)))) : W p l e R s m args below meth c H locs cells slots Q (F0 m pc ls (st.map (px_rv base ext))) := by
  obtain ⟨hx, hb, -, -, hown, hts, -, -, -⟩ := C
  unfold px_mm at h
  split at h
  · rename_i z0 z1 z2 y x q hm
    split at h
    · rename_i hq
      cases h
      obtain ⟨w1, w2, w3, w4⟩ := hw _ _ hm
      exact va_mmin hx hb hls.symm hown (hts _ w1) (hts _ w2) (hts _ w3) (hts _ w4) hR.1 (by rw [px_cats]; omega) hc hs hd (kk rfl rfl)
    · cases h
  · rename_i z0 z1 z2 y x q hm
    split at h
    · rename_i hq
      cases h
      obtain ⟨w1, w2, w3, w4⟩ := hw _ _ hm
      exact va_mmax hx hb hls.symm hown (hts _ w1) (hts _ w2) (hts _ w3) (hts _ w4) hR.1 (by rw [px_cats]; omega) hc hs hd (kk rfl rfl)
    · cases h
  · cases h
end PXA
end
section
/-! ===== calls: from the word on a method's code, and a free theorem of it, that returns or throws ===== -/
def px_cw (M : px_M) : Cond := match px_mh M with
  | [] => .code (px_my M) (px_mb M) (px_ml M) (px_mr M)
  | hs => .codeWith (px_my M) (px_mb M) (px_ml M) (px_mr M) hs
theorem px_cw_spec {M : px_M} {args : Array Value} {s : State} (h : (px_cw M).before args s = true) : ∃ mk meth c, s.methodNamed? (px_my M) = some mk ∧ s.vm.method? mk = some meth ∧ meth.code = some c ∧ c.code = px_mb M ∧ c.maxLocals = px_ml M ∧
    c.exceptionTable.toList.map (fun h => (h.startPc, h.endPc, h.handlerPc, h.catchType)) = px_mh M ∧ meth.sig.returnType = px_mr M ∧ meth.locks = false ∧ parseMethodDescriptor (px_my M).desc = some meth.sig := by
  unfold px_cw at h
  split at h
  · rename_i hh
    obtain ⟨mk, hmk⟩ := Cond.code_named h
    obtain ⟨meth, c, h1, h2, h3, h4, h5, h6, h7, h8⟩ := Cond.code_spec hmk h
    refine ⟨mk, meth, c, hmk, h1, h2, h3, h4, ?_, h5, h6, h8⟩
    have : c.exceptionTable = #[] := Array.isEmpty_iff.mp h7
    rw [this, hh]
    rfl
  · obtain ⟨mk, meth, c, h1, h2, h3, h4, h5, h6, h7, h8, h9⟩ := Cond.codeWith_spec h
    exact ⟨mk, meth, c, h1, h2, h3, h4, h5, h6, h7, h8, h9⟩
def px_nmh (y : MethodName) : Prop := y.cls ≠ "java/lang/invoke/MethodHandle" ∧ y.cls ≠ "java/lang/invoke/VarHandle"
/-- the outcome, as the caller's frame sees it -/
def px_after (g : JFrame) (T : State) : Outcome → State
  | .returned v => T.setTop { g with pc := g.pc + 3, stack := v.toList ++ g.stack }
  | .threw x => (T.setTop g).pushFrame (.throwing x)
section PXC
variable {p : Program} {l : Launch} {e : Env} {R : Room} {s : State} {m : MethodId} {args : Array Value} {below : List Frame} {meth : Method} {c : Code} {T : State} {locs : List Loc} {cells slots : Nat}
/-- what linking a call gives: the method that is called, warmer tables -/
def px_Lk (p : Program) (l : Launch) (e : Env) (R : Room) (s : State) (m : MethodId) (args : Array Value) (below : List Frame) (meth : Method) (c : Code) (T : State) (locs : List Loc) (cells slots : Nat) (y : MethodName) (g : JFrame) (rest : List Value) (a : Array Value) : Prop :=
  ∃ (vm₁ : Vm) (mk : MethodId), s.WarmedH vm₁ ∧ s.methodNamed? y = some mk ∧ Stand p l e R s m args below meth c (T.setVm vm₁) locs cells slots ∧
    ∀ target, Steps p.tables e below (doInvoke e ((T.setVm vm₁).setTop { g with stack := rest }) [] mk a).1 target → Steps p.tables e below (T.setTop g) target
theorem px_lkV (X : Stand p l e R s m args below meth c T locs cells slots) (hexec : p.tables.exec = Jvm.exec) {own C : String} {index : Nat} {M : px_M}
    (hown : s.vm.findClass own = some m.cls) (hlink : (Cond.methodLink own index (px_my M)).before args s = true) (hinst : (Cond.instanceMethod (px_my M)).before args s = true) (hsel : (Cond.selects C (px_my M) (px_my M)).before args s = true)
    (hcode : (px_cw M).before args s = true) (hy : px_nmh (px_my M))
    {b : Addr} {cellB : Cell} (hcell : T.heap[b]? = some cellB) (hobj : cellB.vm.isStatics = false) (hcls : s.vm.findClass C = some cellB.cls)
    {g : JFrame} (hg : g.method = m) {argsL rest : List Value} (hlen : ∀ sig, parseMethodDescriptor (px_my M).desc = some sig → argsL.length = sig.parameters.length)
    (hstack : g.stack = argsL.reverse ++ .ref b :: rest) (hdg : decode c.code g.pc = .ok (.invokevirtual index, 3)) : px_Lk p l e R s m args below meth c T locs cells slots (px_my M) g rest (Value.ref b :: argsL).toArray := by
  obtain ⟨mk, methM, hnamed, hmethM, hstM, habM⟩ := Cond.instanceMethod_spec hinst
  obtain ⟨mk', methM', cM, hn', hmethM', -, -, -, -, -, -, hsigM⟩ := px_cw_spec hcode
  cases hnamed.symm.trans hn'
  cases hmethM.symm.trans hmethM'
  obtain ⟨c2, r2, m2, q1, q2, q3, q4, kP, hkP, hkPi⟩ := Cond.selects_spec hsel
  cases hcls.symm.trans q1
  cases (State.methodFound?_of_named hnamed hy).symm.trans q2
  cases hnamed.symm.trans q3
  have hselP : selectMethod e.platform s.vm cellB.cls mk = .method mk := by rw [Launch.admits_selectMethod X.admits]; exact q4
  obtain ⟨vm₁, X₁, hstep₁⟩ := X.invokevirtual hexec hown hlink hnamed hmethM hstM hkP hkPi hy (a := b) (cell := cellB) hcell
    (fun z h => by rw [h] at hobj; cases hobj) hselP hmethM habM hkP hkPi (g := g) hg (argsL := argsL) (rest := rest) (hlen _ hsigM) hstack hdg
  exact ⟨vm₁, mk, X₁.warmed, hnamed, X₁, fun target h => hstep₁ _ fun acts => by rw [doInvoke_state]; exact h⟩
theorem px_lkS (X : Stand p l e R s m args below meth c T locs cells slots) (hexec : p.tables.exec = Jvm.exec) {own : String} {index : Nat} {M : px_M}
    (hown : s.vm.findClass own = some m.cls) (hlink : (Cond.methodLink own index (px_my M)).before args s = true) (hstat : (Cond.static (px_my M)).before args s = true) (hinit : (Cond.initialized (px_my M).cls).before args s = true)
    (hcode : (px_cw M).before args s = true) (hy : px_nmh (px_my M))
    {g : JFrame} (hg : g.method = m) {argsL rest : List Value} (hlen : ∀ sig, parseMethodDescriptor (px_my M).desc = some sig → argsL.length = sig.parameters.length)
    (hstack : g.stack = argsL.reverse ++ rest) (hdg : decode c.code g.pc = .ok (.invokestatic index, 3)) : px_Lk p l e R s m args below meth c T locs cells slots (px_my M) g rest argsL.toArray := by
  obtain ⟨mk, methM, cM, hnamed, hmethM, -, -, -, -, -, -, hsigM⟩ := px_cw_spec hcode
  have hstatic : methM.isStatic = true := Cond.static_spec hnamed hmethM hstat
  obtain ⟨kP, hkP, -⟩ := className_of_methodNamed hnamed
  have hinitP : kP.init = .initialized := Cond.initialized_spec (findClass_of_methodNamed hnamed) hkP hinit
  obtain ⟨vm₁, X₁, hstep₁⟩ := X.invokestatic hexec hown hlink hnamed hmethM hstatic hkP hinitP hy (g := g) hg (argsL := argsL) (rest := rest) (hlen _ hsigM) hstack hdg
  exact ⟨vm₁, mk, X₁.warmed, hnamed, X₁, fun target h => hstep₁ _ fun acts => by rw [doInvoke_state]; exact h⟩
theorem px_lkI (X : Stand p l e R s m args below meth c T locs cells slots) (hexec : p.tables.exec = Jvm.exec) {own : String} {index : Nat} {M : px_M}
    (hown : s.vm.findClass own = some m.cls) (hy1 : (px_my M).name = "<init>") (hlink : (Cond.methodLink own index (px_my M)).before args s = true) (hinst : (Cond.instanceMethod (px_my M)).before args s = true)
    {bytes : ByteArray} {maxL : Nat} (hcode : (Cond.code (px_my M) bytes maxL none).before args s = true) (hy : px_nmh (px_my M))
    {g : JFrame} (hg : g.method = m) {a : Addr} {argsL rest : List Value} (hlen : ∀ sig, parseMethodDescriptor (px_my M).desc = some sig → argsL.length = sig.parameters.length)
    (hstack : g.stack = argsL.reverse ++ .ref a :: rest) (hdg : decode c.code g.pc = .ok (.invokespecial index, 3)) : px_Lk p l e R s m args below meth c T locs cells slots (px_my M) g rest (Value.ref a :: argsL).toArray := by
  subst hg
  have hpl : e.platform.magicAccessors = ({} : Platform).magicAccessors := by rw [X.admits.platform]
  obtain ⟨mk, methM, cM, kP, vm₁, hnamed, hmethM, hcodeM, -, hlocalsM, -, hkP, -, hW₁, hstep₁⟩ := Steps.initColdArgs (e := e) X.here hexec X.warmed hpl hown hy1 hy hlink hinst hcode (f := g) rfl hlen hstack hdg
  exact ⟨vm₁, mk, hW₁, hnamed, X.noted hW₁, fun target h => hstep₁ _ fun acts => by rw [doInvoke_state]; exact h⟩
theorem px_lkIN (X : Stand p l e R s m args below meth c T locs cells slots) (hexec : p.tables.exec = Jvm.exec) {own host : String} {index : Nat} {M : px_M}
    (hown : s.vm.findClass own = some m.cls) (hy1 : (px_my M).name = "<init>") (hlink : (Cond.methodLinkNest own index (px_my M) host).before args s = true) (hinst : (Cond.instanceMethod (px_my M)).before args s = true)
    {bytes : ByteArray} {maxL : Nat} (hcode : (Cond.code (px_my M) bytes maxL none).before args s = true) (hy : px_nmh (px_my M))
    {g : JFrame} (hg : g.method = m) {a : Addr} {argsL rest : List Value} (hlen : ∀ sig, parseMethodDescriptor (px_my M).desc = some sig → argsL.length = sig.parameters.length)
    (hstack : g.stack = argsL.reverse ++ .ref a :: rest) (hdg : decode c.code g.pc = .ok (.invokespecial index, 3)) : px_Lk p l e R s m args below meth c T locs cells slots (px_my M) g rest (Value.ref a :: argsL).toArray := by
  subst hg
  have hpl : e.platform.magicAccessors = ({} : Platform).magicAccessors := by rw [X.admits.platform]
  obtain ⟨mk, methM, cM, kP, vm₁, hnamed, hmethM, hcodeM, -, hlocalsM, -, hkP, -, hW₁, hstep₁⟩ := Steps.initColdArgsNest (e := e) X.here hexec X.warmed hpl hown hy1 hy hlink hinst hcode (f := g) rfl hlen hstack hdg
  exact ⟨vm₁, mk, hW₁, hnamed, X.noted hW₁, fun target h => hstep₁ _ fun acts => by rw [doInvoke_state]; exact h⟩
/-- how an invocation has ended, whatever its outcome: warmer tables, the slots L written, so many new cells of so many slots -/
def px_End (first t : State) (L : List Loc) (k n : Nat) : Prop := first.WarmedH t.vm ∧ first.sameButNew ({ t with vm := first.vm } : State) L k n
/-- A CALL of a method of which a free theorem is known: it comes back, or its exception does -/
theorem px_back {M : px_M} {TB : List Cond} {rm : Room} {P : Array Value → State → Prop} {Qf : Array Value → State → Outcome → State → Prop} {free : Addr → Prop}
    (hM : MetFree l (px_my M) (headSpec TB rm) P (fun _ _ _ _ _ => True) (fun a st o t => Qf a st o t ∧ ∃ L, px_End st t L rm.cells rm.slots ∧ ∀ q ∈ L, free q.base))
    {U : State} (X : Stand p l e R s m args below meth c U locs cells slots) {g : JFrame} (hg : g.method = m) (hsize : g.locals.size = c.maxLocals) {ig : Instr} (hdg : decode c.code g.pc = .ok (ig, 3))
    (hW : 2 * g.monitorRoom + (g.stack.map fun v => v.category).sum ≤ 8) {mk : MethodId} (hn : U.methodNamed? (px_my M) = some mk) (hframes : rm.frames + 1 ≤ R.frames) (hlocals : 8 + (px_ml M + 11) + rm.locals ≤ R.locals)
    (hcells : cells + rm.cells ≤ R.cells) (hslots : slots + rm.slots ≤ R.slots) {a : Array Value} (hts : ∀ w ∈ TB, w.before a U = true) (hcw : px_cw M ∈ TB) (hini : Cond.initialized (px_my M).cls ∈ TB) (hP : P a (U.calling g mk a)) :
    ∃ (o : Outcome) (t T' : State) (L : List Loc), Stand p l e R s m args below meth c T' (locs ++ L) (cells + rm.cells) (slots + rm.slots) ∧ (∀ q ∈ L, free q.base) ∧ T'.heap = t.heap ∧ T'.vm = t.vm ∧ Qf a (U.calling g mk a) o t ∧
      Steps p.tables e below (doInvoke e (U.setTop g) [] mk a).1 (px_after g T' o) := by
  obtain ⟨mk', methY, cY, hn', hmY, hcY, -, hlY, -, -, -, -⟩ := px_cw_spec (hts _ hcw)
  cases hn.symm.trans hn'
  obtain ⟨kY, hkY, -⟩ := className_of_methodNamed hn
  have hinitY : kY.init = .initialized := Cond.initialized_spec (findClass_of_methodNamed hn) hkY (hts _ hini)
  have h : At U g.method c below := by rw [hg]; exact X.here
  have happ : (headSpec TB rm).appliesLoose (px_my M) e.platform (U.calling g mk a) = true :=
    Spec.appliesLoose_calling (g := g) h hdg hn hkY hinitY
      (X.room_calling (g := g) (R' := rm) hsize hmY hcY hframes (by rw [hlY]; omega) hcells hslots) (atoms_intro fun w hw => hts w hw)
  obtain ⟨mid, hmid⟩ := h.above
  have hfr : (U.setTop g).frames = (.java g :: mid) ++ below := by rw [State.frames_setTop' g h.top, hmid]; rfl
  obtain ⟨o, s₂, hsteps, -, hend, hq⟩ := Steps.callFree hM p X.admits X.cas X.clock (acts := []) hfr happ hP trivial
  rw [State.frames_setTop' g h.top] at hend
  obtain ⟨hq', L, ⟨hW₂, hsb⟩, hL⟩ := hq
  have hq' : Qf a (U.calling g mk a) o s₂ := hq'
  have hW' : U.WarmedH s₂.vm := hW₂
  obtain ⟨e2, q2, q3, q4, q5, q6⟩ := id hsb
  have e3 : s₂ = ({ (U.calling g mk a).setFrames s₂.frames with heap := s₂.heap, slotsUsed := s₂.slotsUsed } : State).setVm s₂.vm := by
    have : s₂ = ({ s₂ with vm := (U.calling g mk a).vm } : State).setVm s₂.vm := rfl
    have e2' : ({ s₂ with vm := (U.calling g mk a).vm } : State) = _ := e2
    rw [e2'] at this
    exact this
  obtain ⟨g₀, hg0⟩ := Option.isSome_iff_exists.mp h.top
  obtain ⟨r, hr⟩ := State.topJava?_eq_some.mp hg0
  have hr' : (({ U with heap := s₂.heap, slotsUsed := s₂.slotsUsed } : State).setVm s₂.vm).frames = .java g₀ :: r := hr
  have hsame : U.sameButNew ({ U with heap := s₂.heap, slotsUsed := s₂.slotsUsed } : State) L rm.cells rm.slots := by
    refine ⟨?_, q2, q3, q4, q5, q6⟩
    obtain ⟨t, ht, -⟩ := State.frames_cons hr
    show ({ U with heap := s₂.heap, slotsUsed := s₂.slotsUsed } : State) = { U.setFrames U.frames with heap := s₂.heap, slotsUsed := s₂.slotsUsed }
    rw [State.setFrames_self ht]
  have X' : Stand p l e R s m args below meth c (({ U with heap := s₂.heap, slotsUsed := s₂.slotsUsed } : State).setVm s₂.vm) (locs ++ L) (cells + rm.cells) (slots + rm.slots) :=
    ⟨X.admits, X.cas, X.clock, X.frames, X.room, X.hears, X.method, X.code, (X.here.setHeapUsed s₂.heap s₂.slotsUsed).setVm hW'.alike, X.tail, State.WarmedH.trans X.warmed hW', X.limits, X.bytes, X.same.trans (hsame.setVm s.vm)⟩
  refine ⟨o, s₂, _, L, X', hL, rfl, rfl, hq', ?_⟩
  cases o with
  | returned v =>
    obtain ⟨c₂, i₂, len₂, hc₂, hd₂, hf₂⟩ := hend
    have hcc : c₂ = c := by
      have h1 : s₂.code? g.method = U.code? g.method := by
        rw [State.code?_eq, State.code?_eq, hW'.alike.method?]
      exact Option.some.inj (hc₂.symm.trans (h1.trans h.code))
    subst hcc
    have hlen : len₂ = 3 := by rw [hdg] at hd₂; cases hd₂; rfl
    subst hlen
    have hs₂ : s₂ = (({ U with heap := s₂.heap, slotsUsed := s₂.slotsUsed } : State).setVm s₂.vm).setTop { g with pc := g.pc + 3, stack := v.toList ++ g.stack } := by
      refine e3.trans ?_
      rw [hf₂, State.calling_eq h.top, State.setFrames_setFrames, State.setTop_of_frames _ hr', hr]
      rfl
    show Steps p.tables e below _ ((({ U with heap := s₂.heap, slotsUsed := s₂.slotsUsed } : State).setVm s₂.vm).setTop { g with pc := g.pc + 3, stack := v.toList ++ g.stack })
    rw [← hs₂]
    exact hsteps
  | threw v =>
    have hf₂ : s₂.frames = .throwing v :: .java g :: U.frames.tail := hend
    have hs₂ : s₂ = ((({ U with heap := s₂.heap, slotsUsed := s₂.slotsUsed } : State).setVm s₂.vm).setTop g).pushFrame (.throwing v) := by
      refine e3.trans ?_
      rw [hf₂, State.calling_eq h.top, State.setFrames_setFrames, State.pushFrame, State.frames_setTop _ hr', State.setTop_of_frames _ hr', State.setFrames_setFrames, hr]
      rfl
    show Steps p.tables e below _ (((({ U with heap := s₂.heap, slotsUsed := s₂.slotsUsed } : State).setVm s₂.vm).setTop g).pushFrame (.throwing v))
    rw [← hs₂]
    exact hsteps
end PXC
end
section
/-! ===== exceptions: a state taken as a new start; a throw of a new exception; a search through a method's handlers ===== -/
section PXT
variable {p : Program} {l : Launch} {e : Env} {R : Room} {s : State} {m : MethodId} {args : Array Value} {below : List Frame} {meth : Method} {c : Code} {T : State} {locs : List Loc} {cells slots : Nat}
/-- the same invocation, taken as if it began here -/
def px_now (T : State) (m : MethodId) (args : Array Value) (below : List Frame) : State := T.setFrames (.invoking m args :: below)
theorem px_hears {vm1 vm2 : State} {m : MethodId} (h : vm1.vm.Alike vm2.vm) (below : List Frame) (hh : vm1.hears m below = true) : vm2.hears m below = true := by
  cases below with
  | nil =>
    simp only [State.hears] at hh ⊢
    rw [h.method?]
    exact hh
  | cons f r =>
    cases f with
    | java g =>
      simp only [State.hears] at hh ⊢
      have : vm2.code? g.method = vm1.code? g.method := by rw [State.code?_eq, State.code?_eq, h.method?]
      rw [this]
      exact hh
    | native g => rfl
    | proc g => rfl
    | _ =>
      simp only [State.hears] at hh ⊢
      rw [h.method?]
      exact hh
theorem px_rebase (X : Stand p l e R s m args below meth c T locs cells slots) (hc : cells ≤ R.cells) (hs : slots ≤ R.slots) :
    Stand p l e { frames := R.frames, cells := R.cells - cells, slots := R.slots - slots, locals := R.locals } (px_now T m args below) m args below meth c T [] 0 0 := by
  have hcur : T.cur < T.threads.size := State.cur_lt_of_top X.here.top
  have hF : (px_now T m args below).frames = .invoking m args :: below := State.frames_setFrames _ hcur
  have hmeth' : T.vm.method? m = some meth := X.method'
  have hroom := X.room
  have hsz := X.heapSize
  have hus := X.used
  have hbk := X.book
  refine ⟨X.admits, X.cas, X.clock, hF, ?_, ?_, hmeth', X.code, X.here, X.tail, State.WarmedH.refl _, ?_, ?_, ?_⟩
  · have hL : (px_now T m args below).localsInUse = s.localsInUse := by
      rw [State.localsInUse_invoking hF (meth := meth) (c := c) hmeth' X.code, State.localsInUse_invoking X.frames X.method X.code]
    have hlim : e.platform.stackLimits (px_now T m args below).me = e.platform.stackLimits s.me := by
      unfold px_now
      rw [State.stackLimits_setFrames]
      exact X.limits
    have hby : (px_now T m args below).me.stackBytes = s.me.stackBytes := by
      unfold px_now
      rw [State.stackBytes_setFrames]
      exact X.bytes
    simp only [State.hasRoom, Bool.and_eq_true, decide_eq_true_eq] at hroom ⊢
    rw [hL, hlim, hby, hF]
    rw [X.frames] at hroom
    obtain ⟨⟨⟨⟨a1, a2⟩, a3⟩, a4⟩, a5⟩ := hroom
    refine ⟨⟨⟨⟨a1, a2⟩, ?_⟩, ?_⟩, hbk⟩
    · show T.heap.size + (R.cells - cells) ≤ _
      omega
    · show T.slotsUsed + (R.slots - slots) ≤ _
      omega
  · exact px_hears (vm2 := px_now T m args below) X.warmed.alike below X.hears
  · unfold px_now
    rw [State.stackLimits_setFrames]
  · unfold px_now
    rw [State.stackBytes_setFrames]
  · have hfr := X.frames_eq
    obtain ⟨g₀, hg0⟩ := hfr
    obtain ⟨t, ht, -⟩ := State.frames_cons hF
    have h := (State.sameButNew.refl (px_now T m args below) ht).setFrames T.frames (State.cur_lt_of_frames hF)
    have e1 : (px_now T m args below).setFrames T.frames = T := by
      obtain ⟨t2, ht2, -⟩ := State.frames_cons hg0
      unfold px_now
      rw [State.setFrames_setFrames]
      exact State.setFrames_self ht2
    rw [e1] at h
    exact h
/-- what has changed since then has changed since the invocation began -/
theorem px_since (X : Stand p l e R s m args below meth c T locs cells slots) {U : State} {L : List Loc} {k n : Nat} (h : px_End (px_now T m args below) U L k n) : px_End s U (locs ++ L) (cells + k) (slots + n) := by
  obtain ⟨h1, h2⟩ := h
  have hW : T.WarmedH U.vm := h1
  refine ⟨State.WarmedH.trans X.warmed hW, ?_⟩
  have h3 : T.sameButNew ({ U with vm := T.vm } : State) L k n := by
    obtain ⟨e1, q⟩ := h2
    refine ⟨?_, q⟩
    refine (show ({ U with vm := T.vm } : State) = _ from e1).trans ?_
    unfold px_now
    rw [State.setFrames_setFrames]
    rfl
  exact X.same.trans (h3.setVm s.vm)

/-- one entry that covers, whose class is linked -/
theorem px_go1 {e : Env} {d : Bool} {acts : List Action} {S : State} {f : JFrame} {a : Addr} {Q : Handler → Pre} {E : CtlPost} {x : ExceptionTableEntry} {t : List ExceptionTableEntry} {cx : ClassId} {cell : Cell} (hx : covers x f.pc = true) (h0 : x.catchType ≠ 0)
    (hl : S.vm.ClassLinks e.platform f.method.cls x.catchType cx) (hcell : S.heap[a]? = some cell) (hobj : ∀ k, cell.vm ≠ .statics k)
    (hk : ∃ k, S.vm.classes[cell.cls]? = some k) (hc : ∃ k, S.vm.classes[cx]? = some k) :
    wp (findHandler.go f a (x :: t)) Q E e d acts S ↔ if S.vm.assignable cell.cls cx = true then Q (.found x.handlerPc) d acts (S.setVm (S.vm.noted f.method.cls x.catchType (.cls cx))) else wp (findHandler.go f a t) Q E e d acts (S.setVm (S.vm.noted f.method.cls x.catchType (.cls cx))) := by
  simp only [covers] at hx
  obtain ⟨ha, ht⟩ := (resolveClass_links e.toSetting hl).op (op := VmOp.resolveClass f.method.cls x.catchType) rfl
  have hal : S.vm.Alike (S.vm.noted f.method.cls x.catchType (.cls cx)) := (Vm.Alike.refl S.vm).noted _ _ _
  obtain ⟨k1, hk1⟩ := hk
  obtain ⟨k2, hk2⟩ := hc
  obtain ⟨k1', hk1', -⟩ := hal.2.2 _ _ hk1
  obtain ⟨k2', hk2', -⟩ := hal.2.2 _ _ hk2
  cases hfit : S.vm.assignable cell.cls cx with
  | true =>
    have hfit' : (S.vm.noted f.method.cls x.catchType (.cls cx)).assignable cell.cls cx = true := by rw [hal.assignable]; exact hfit
    simp [findHandler.go, hx, h0, ha, ht, hcell, hobj, hk1', hk2', hfit', VmOp.dirties, VmOp.acts]
  | false =>
    have hfit' : (S.vm.noted f.method.cls x.catchType (.cls cx)).assignable cell.cls cx = false := by rw [hal.assignable]; exact hfit
    simp [findHandler.go, hx, h0, ha, ht, hcell, hobj, hk1', hk2', hfit', VmOp.dirties, VmOp.acts]
/-- which handler takes it: the first entry that covers the place and whose class ('b') takes the object -/
def px_fd (b : ExceptionTableEntry → Bool) (pc : Nat) : List ExceptionTableEntry → Option Nat
  | [] => none
  | x :: t => if covers x pc = true ∧ b x = true then some x.handlerPc else px_fd b pc t
theorem px_srch {e : Env} {f : JFrame} {a : Addr} {s : State} (hpl : e.platform.magicAccessors = ({} : Platform).magicAccessors) {own : String} (hown : s.vm.findClass own = some f.method.cls) {args : Array Value} {b : ExceptionTableEntry → Bool} {cell : Cell} (hobj : ∀ k, cell.vm ≠ .statics k) (hk : ∃ k, s.vm.classes[cell.cls]? = some k) :
    ∀ (es : List ExceptionTableEntry) (S : State), s.WarmedH S.vm → S.heap[a]? = some cell →
      (∀ x ∈ es, covers x f.pc = true → x.catchType ≠ 0 ∧ ∃ C cx, (Cond.classLink own x.catchType C).before args s = true ∧ s.vm.findClass C = some cx ∧ s.vm.assignable cell.cls cx = b x) →
      ∃ vm', s.WarmedH vm' ∧ ∀ (Q : Handler → Pre) (E : CtlPost) (d : Bool) (acts : List Action), wp (findHandler.go f a es) Q E e d acts S ↔ Q (match px_fd b f.pc es with | some pc => .found pc | none => .none) d acts (S.setVm vm') := by
  intro es
  induction es with
  | nil =>
    intro S hW hcell _
    refine ⟨S.vm, hW, fun Q E d acts => ?_⟩
    rw [W.findHandler_go_nil]
    exact Iff.rfl
  | cons x t ih =>
    intro S hW hcell hes
    cases hx : covers x f.pc with
    | false =>
      obtain ⟨vm', h1, h2⟩ := ih S hW hcell (fun y hy => hes y (List.mem_cons_of_mem _ hy))
      refine ⟨vm', h1, fun Q E d acts => ?_⟩
      rw [W.findHandler_go_skip hx, h2]
      simp [px_fd, hx]
    | true =>
      obtain ⟨h0, C, cx, hlk, hfc, hasg⟩ := hes x (List.mem_cons_self) hx
      obtain ⟨c', hc', hcl⟩ := Cond.classLink_spec hown hlk e.platform hpl
      cases hfc.symm.trans hc'
      obtain ⟨dk, _, _, kt, hd, _, _, _, _, hkt, _, hopen⟩ := hcl.here
      have hcl₀ := hW.classLinks hcl
      have hW' : s.WarmedH (S.vm.noted f.method.cls x.catchType (.cls cx)) := hW.noted hd hopen (State.rightAt_cls hcl)
      obtain ⟨k1, hk1⟩ := hk
      obtain ⟨k1', hk1', -⟩ := hW.alike.2.2 _ _ hk1
      obtain ⟨kt', hkt', -⟩ := hW.alike.2.2 _ _ hkt
      have hasg' : S.vm.assignable cell.cls cx = b x := by rw [hW.alike.assignable]; exact hasg
      cases hb : b x with
      | true =>
        refine ⟨_, hW', fun Q E d acts => ?_⟩
        rw [px_go1 hx h0 hcl₀ hcell hobj ⟨k1', hk1'⟩ ⟨kt', hkt'⟩, hasg', hb, if_pos rfl]
        simp [px_fd, hx, hb]
      | false =>
        obtain ⟨vm', h1, h2⟩ := ih (S.setVm (S.vm.noted f.method.cls x.catchType (.cls cx))) hW' hcell (fun y hy => hes y (List.mem_cons_of_mem _ hy))
        refine ⟨vm', h1, fun Q E d acts => ?_⟩
        rw [px_go1 hx h0 hcl₀ hcell hobj ⟨k1', hk1'⟩ ⟨kt', hkt'⟩, hasg', hb, if_neg (by decide), h2]
        simp only [px_fd, hx, hb]
        simp
        exact Iff.rfl
/-- the exception is caught: on at the handler -/
theorem px_caught {tb : Tables} {e : Env} {S target : State} {g : JFrame} {c : Code} {below : List Frame} {a : Addr} (h : At S g.method c below) {pc : Nat} {vm' : Vm}
    (hfind : ∀ (Q : Handler → Pre) (E : CtlPost) (d : Bool) (acts : List Action), wp (findHandler g a) Q E e d acts ((S.setTop g).pushFrame (.throwing a)) ↔ Q (.found pc) d acts (((S.setTop g).pushFrame (.throwing a)).setVm vm'))
    (hrest : Steps tb e below ((S.setVm vm').setTop { g with pc := pc, stack := [.ref a] }) target) : Steps tb e below ((S.setTop g).pushFrame (.throwing a)) target := by
  obtain ⟨hgo, hw⟩ := h.throwing a
  refine Steps.head hgo hw ?_
  have h1 : (stepThrowing e ((S.setTop g).pushFrame (.throwing a)) a (.java g :: S.frames.tail)).1 = (((S.setTop g).pushFrame (.throwing a)).setVm vm').setFrames (.java { g with pc := pc, stack := [.ref a] } :: S.frames.tail) := by
    simp only [stepThrowing, searchFrame, vmDo]
    generalize hr : Sem.go _ e false [] _ = res
    obtain ⟨as, rfl, ha⟩ := Sem.eq_ok_of hr (a := Handler.found pc) (s' := ((S.setTop g).pushFrame (.throwing a)).setVm vm') (acts' := []) (by simp [hfind _ _ _ _])
    rfl
  rw [stepThread_throwing (frames_entered h.top _), h1]
  obtain ⟨g₀, hg⟩ := Option.isSome_iff_exists.mp h.top
  obtain ⟨r, hr⟩ := State.topJava?_eq_some.mp hg
  have hr' : (S.setVm vm').frames = .java g₀ :: r := hr
  rw [State.setTop_of_frames _ hr'] at hrest
  have key : (((S.setTop g).pushFrame (.throwing a)).setVm vm').setFrames (.java { g with pc := pc, stack := [.ref a] } :: S.frames.tail) = (S.setVm vm').setFrames (.java { g with pc := pc, stack := [.ref a] } :: r) := by
    rw [hr, List.tail_cons, State.pushFrame, State.setTop_of_frames _ hr]
    have e1 : ∀ (u : State) (F : List Frame), (u.setFrames F).setVm vm' = (u.setVm vm').setFrames F := fun _ _ => rfl
    rw [e1, e1, State.setFrames_setFrames, State.setFrames_setFrames]
  rw [key]
  exact hrest
end PXT
end
section
/-! ===== a new exception, thrown ===== -/
/-- what Throwable's two statics hold: references; they lie outside -/
def px_Zt (base : Nat) (H0 : Heap) (s : State) : Prop := ∃ v1 v2 : Value, v1.isRef = true ∧ v2.isRef = true ∧ va_Z Bundle.tN "UNASSIGNED_STACK" Bundle.steD v1 (fun q : Nat => base ≤ q) s H0 ∧ va_Z Bundle.tN "SUPPRESSED_SENTINEL" Bundle.listD v2 (fun q : Nat => base ≤ q) s H0
def px_two : List Cond := [.isRef (.static Bundle.tN "UNASSIGNED_STACK" Bundle.steD), .isRef (.static Bundle.tN "SUPPRESSED_SENTINEL" Bundle.listD)]
def px_ups : List String := ["java/lang/RuntimeException", "java/lang/Exception"]
theorem px_Zref {C n d : String} {v : Value} {A : Nat → Prop} {U : State} {args : Array Value} (h : va_Z C n d v A U U.heap) (hv : v.isRef = true) : (Cond.isRef (.static C n d)).before args U = true := by
  obtain ⟨cf, kf, fi, f, a, cell, h1, h2, h3, h4, h5, h6, h7, h8⟩ := h
  simp only [Cond.before, Cond.holds, Cond.value]
  simp [Term.eval, State.fieldNamed?, h1, h2, h4, h5, h6, h7]
  cases v <;> simp [Value.isRef] at hv ⊢
/-- words of the tables hold in every warmer state -/
def px_good (TB : List Cond) : Prop := ∀ w ∈ TB, ∀ (s : State) (a a' : Array Value) (U : State), s.WarmedH U.vm → w.before a s = true → w.before a' U = true
/-- the old cells, if no slot may have changed -/
theorem px_same0 {s t : State} {k n : Nat} (h : s.sameButNew t [] k n) {a : Nat} (ha : a < s.heap.size) : t.heap[a]? = s.heap[a]? := by
  obtain ⟨-, -, -, -, -, h6⟩ := h
  have hc : s.heap[a]? = some s.heap[a] := Array.getElem?_eq_getElem ha
  obtain ⟨c', h1, h2, h3, h4⟩ := h6 a _ hc
  rw [h1, hc, h2]
  congr 1
  have : c'.slots = s.heap[a].slots := by
    apply Array.ext_getElem?
    intro i
    exact h4 i (by simp)
  rw [this]
section PXN
variable {p : Program} {l : Launch} {e : Env} {R : Room} {s : State} {m : MethodId} {args : Array Value} {below : List Frame} {meth : Method} {c : Code} {H : Heap} {locs : List Loc} {cells slots : Nat} {Q : State → Prop}
variable {pc : Nat} {ls : Array Slot} {base : Nat} {ext : UInt32 → Nat} {tA : Nat → ClassId} {D : va_G} {cl : List vw_C} {TB : List Cond} {H0 : Heap} {M : px_M} {G : px_G} {n0 s0 : Nat}
theorem px_ldcS (hexec : p.tables.exec = Jvm.exec) {cc : ByteArray} (hb : c.code = cc) {own tx : String} {index : Nat} (hown : s.vm.findClass own = some m.cls) (hconst : (Cond.stringRef own index tx).before args s = true) {n : Nat}
    (hd : (n = 2 ∧ decode cc pc = .ok (.ldc index, 2)) ∨ (n = 3 ∧ decode cc pc = .ok (.ldc_w index, 3))) {rest : List Value}
    (k : ∀ a : Nat, W p l e R s m args below meth c H locs cells slots Q (F0 m (pc + n) ls (.ref a :: rest))) : W p l e R s m args below meth c H locs cells slots Q (F0 m pc ls rest) := by
  subst hb
  intro T hT X
  obtain ⟨kk, cf, i, a, hk, hcf, hcp, -, hr, hev⟩ := Cond.stringRef_spec hown hconst
  obtain ⟨t, a1, b1⟩ := k a T hT X
  rcases hd with ⟨rfl, hd⟩ | ⟨rfl, hd⟩
  · exact ⟨t, X.ldcString hexec hown (text := tx) (a := a) hconst hev (g := F0 m pc ls rest) rfl hd t a1, b1⟩
  · obtain ⟨k', hk', he⟩ := X.warmed.alike.2.2 _ _ hk
    have hr' : k'.resolved[index]? = some (some (.string a)) := by
      rcases X.warmed.entry hk hk' index with h | ⟨h, -⟩
      · rw [h]; exact hr
      · rw [hr] at h; cases h
    refine ⟨t, ?_, b1⟩
    jvm_step X.here [X.here.top, hexec, hd, ldc_w.wp_string (e := e) (s := T) (f := F0 m pc ls rest) X.here.top hk' (by rw [he]; exact hcf) hcp hr']
    exact a1
set_option maxHeartbeats 2000000 in
/-- 'throw new X(text)' where no handler of the method covers it -/
theorem px_thrown (C : px_C TB M p s m args meth c) (hgood : px_good TB) (hZ : px_Zt base H0 s) (htr : e.platform.stackTraces = false) (hK : va_K D cl (px_tys tA) s) (hI : px_I base ext tA D cl H0 G H locs) (hN : px_N base n0 s0 G s cells slots)
    {ci : Nat} {x : vw_C} (hci : cl[ci]? = some x) (hx0 : x.2.2 = 0) (hfit : Bundle.fit x.1 = true) {idx js ic n : Nat} {tx : String} (w1 : Cond.classLink (px_my M).cls idx x.1 ∈ TB) (w2 : Cond.instantiable x.1 6 ∈ TB) (w3 : Cond.initialized x.1 ∈ TB) (w4 : Cond.stringRef (px_my M).cls js tx ∈ TB)
    (w5 : ∀ w ∈ Bundle.ownAtoms (px_my M).cls ic x.1 px_ups, w ∈ TB ∨ w ∈ px_two)
    (d0 : decode (px_mb M) pc = .ok (.new idx, 3)) (d3 : decode (px_mb M) (pc + 3) = .ok (.dup, 1)) (d4 : (n = 2 ∧ decode (px_mb M) (pc + 3 + 1) = .ok (.ldc js, 2)) ∨ (n = 3 ∧ decode (px_mb M) (pc + 3 + 1) = .ok (.ldc_w js, 3)))
    (d6 : decode (px_mb M) (pc + 3 + 1 + n) = .ok (.invokespecial ic, 3)) (d9 : decode (px_mb M) (pc + 3 + 1 + n + 3) = .ok (.athrow, 1)) (hout : ∀ y ∈ c.exceptionTable.toList, covers y (pc + 3 + 1 + n + 3) = false)
    (hls : ls.size = c.maxLocals) {st : List Value} (hst : (st.map fun v => v.category).sum ≤ 8) (hRf : 6 ≤ R.frames) (hRl : 100 ≤ R.locals) (hRc : G.1.length + 1 ≤ R.cells + n0) (hRs : G.2 + 6 ≤ R.slots + s0) :
    W p l e R s m args below meth c H locs cells slots (fun t => t.status = .running ∧ Ended t below (.threw (base + G.1.length)) ∧ px_End s t (locs ++ []) (cells + 1) (slots + 6) ∧ px_I base ext tA D cl H0 (G.1 ++ [.inr (ci, [])], G.2 + 6) t.heap locs) (F0 m pc ls st) := by
  obtain ⟨hx, hb, -, hml, hown, hts, hlk, -, -⟩ := C
  obtain ⟨e1, e2, e3⟩ := hN
  intro T hT X
  have hz := px_size X hT hI ⟨e1, e2, e3⟩
  have hcr : cells ≤ R.cells := by omega
  have hsr : slots ≤ R.slots := by omega
  have X1 := px_rebase X hcr hsr
  have hWT : s.WarmedH T.vm := X.warmed
  have hts' : ∀ w ∈ TB, w.before args (px_now T m args below) = true := fun w hw => hgood w hw s args args (px_now T m args below) hWT (hts w hw)
  have hown' : (px_now T m args below).vm.findClass (px_my M).cls = some m.cls := by
    show T.vm.findClass _ = _
    rw [hWT.alike.findClass]
    exact hown
  have hcls : T.vm.findClass x.1 = some (D.1 ci) := by
    rw [hWT.alike.findClass]
    exact (hK.1 ci x hci).2.1
  have hZ1 : ∀ w ∈ px_two, w.before args (px_now T m args below) = true := by
    obtain ⟨v1, v2, r1, r2, z1, z2⟩ := hZ
    have k1 : va_Z Bundle.tN "UNASSIGNED_STACK" Bundle.steD v1 (fun q : Nat => base ≤ q) (px_now T m args below) (px_now T m args below).heap := (va_Z.moved (U := px_now T m args below) hWT.alike z1).kept (fun a h1 h2 => by show T.heap[a]? = _; rw [hT]; exact hI.2.2.2.1 a h1 h2)
    have k2 : va_Z Bundle.tN "SUPPRESSED_SENTINEL" Bundle.listD v2 (fun q : Nat => base ≤ q) (px_now T m args below) (px_now T m args below).heap := (va_Z.moved (U := px_now T m args below) hWT.alike z2).kept (fun a h1 h2 => by show T.heap[a]? = _; rw [hT]; exact hI.2.2.2.1 a h1 h2)
    intro w hw
    rcases List.mem_cons.mp hw with rfl | hw
    · exact px_Zref k1 r1
    · rcases List.mem_cons.mp hw with rfl | hw
      · exact px_Zref k2 r2
      · cases hw
  have hzT : T.heap.size = base + G.1.length := by rw [hT]; exact hz
  have main : W p l e { frames := R.frames, cells := R.cells - cells, slots := R.slots - slots, locals := R.locals } (px_now T m args below) m args below meth c T.heap [] 0 0
      (fun t => t.status = .running ∧ Ended t below (.threw (base + G.1.length)) ∧ px_End (px_now T m args below) t [] (0 + 1) (0 + 6) ∧ ∃ ce, t.heap[base + G.1.length]? = some ce ∧ ce.cls = D.1 ci ∧ ce.vm = .none) (F0 m pc ls st) := by
    refine W.newcK (C := x.1) (n := 6) (g := F0 m pc ls st) hx hb hown' (hts' _ w1) (hts' _ w2) (hts' _ w3) rfl d0 (by show 0 + 1 ≤ R.cells - cells; omega) (by show 0 + 6 ≤ R.slots - slots; omega) hcls hzT (fun H1 kC y0 y1 y2 y3 => ?_)
    refine lv_dup hx hb d3 rfl ?_
    refine px_ldcS hx hb hown' (hts' _ w4) d4 (fun str => ?_)
    intro T2 hT2 X2
    obtain ⟨U, k1, k2, k3, k4, k5, ce, k6, k7⟩ := X2.ctorThrowS hx htr (own := (px_my M).cls) (cls := x.1) (names := px_ups) (ic := ic) hown' hfit (by decide +kernel)
      (fun w hw => (w5 w hw).elim (hts' w) (hZ1 w)) (fun q hq => by cases hq) (a := base + G.1.length) (cX := D.1 ci) (kX := kC) hcls y0 (by rw [hT2]; exact y1) (by show T.heap.size ≤ _; omega) (msg := .ref str) rfl
      (g := F0 m (pc + 3 + 1 + n) ls (.ref str :: .ref (base + G.1.length) :: .ref (base + G.1.length) :: st)) rfl hls rfl rfl (rest := st) rfl (by rw [hb]; exact d6) (by rw [hb]; exact d9) hout (by show 2 + 3 < R.frames; omega)
      (by
        show 2 * 0 + (1 + (st.map fun v => v.category).sum) + (13 * (2 + 1) + 42) ≤ R.locals
        omega) hlk
    refine ⟨U, k1, k2, k3, ⟨k4, k5⟩, ce, k6, ?_, k7.vm⟩
    exact Option.some.inj (k7.cls.symm.trans hcls)
  obtain ⟨t, a1, b1, b2, b3, ce, b4, b5, b6⟩ := main T rfl X1
  refine ⟨t, a1, b1, b2, ?_, ?_⟩
  · have := px_since X b3
    simpa using this
  · have hsz : t.heap.size = H.size + 1 := by
      have q1 : t.heap.size ≤ T.heap.size + (0 + 1) := b3.2.2.2.1
      have q2 := (Array.getElem?_eq_some_iff.mp b4).1
      rw [hT] at q1
      omega
    refine px_I_push hI hz (.inr (ci, [])) _ (fun q hq => ?_) hsz ?_
    · have := px_same0 b3.2 (a := q) (by show q < T.heap.size; rw [hT]; exact hq)
      have h2 : t.heap[q]? = T.heap[q]? := this
      rw [h2, hT]
    · refine ⟨x, hci, ce, b4, b5, b6, fun k hk => ?_⟩
      rw [hx0] at hk
      cases hk
end PXN
end
section
/-! ===== the pure machine: calls, answers, exceptions ===== -/
abbrev px_Out : Type := Option Value ⊕ Nat
def px_nar : FieldType → Int32 → Bool
  | .int, _ => true
  | .boolean, x => x == 0 || x == 1
  | .byte, x => x == 0
  | .char, x => decide (0 ≤ x) && decide (x ≤ 65535)
  | _, _ => false
def px_ref : Option FieldType → Bool
  | some (.object _) => true
  | some (.array _) => true
  | _ => false
def px_ret (M : px_M) (i : Instr) (st : List Value) : Option (Option Value) := match i with
  | .return_ => match st, px_mr M with
    | [], none => some none
    | _, _ => none
  | .ireturn => match st, px_mr M with
    | [.int v], some ty => if px_nar ty v = true then some (some (.int v)) else none
    | _, _ => none
  | .lreturn => match st, px_mr M with
    | [.long v], some .long => some (some (.long v))
    | _, _ => none
  | .areturn => match st with
    | [v] => if px_isr v = true ∧ px_ref (px_mr M) = true then some (some v) else none
    | _ => none
  | _ => none
/-- which method is called, with what, and what stays on the stack -/
def px_inv (V : px_V) (cl : List vw_C) (PM : List px_M) (M : px_M) (i : Instr) (st : List Value) (G : px_G) : Option (px_M × List Value × List Value) := match i with
  | .invokevirtual idx => match px_mx M idx with
    | some (1, mi, n, _) => match PM[mi]?, st.drop n with
      | some N, .ref b :: rest => match G.1[b]? with
        | some (.inr (ci, _)) => match cl[ci]? with
          | some x => if x.1 = (px_my N).cls then some (N, .ref b :: (st.take n).reverse, rest) else none
          | none => none
        | _ => none
      | some N, .float j :: rest => match px_str V j with
        | some _ => if (px_my N).cls = "java/lang/String" then some (N, .float j :: (st.take n).reverse, rest) else none
        | none => none
      | _, _ => none
    | _ => none
  | .invokespecial idx => match px_mx M idx with
    | some (9, mi, n, _) => match PM[mi]?, st.drop n with
      | some N, .ref b :: rest => some (N, .ref b :: (st.take n).reverse, rest)
      | _, _ => none
    | _ => none
  | .invokestatic idx => match px_mx M idx with
    | some (11, mi, n, _) => match PM[mi]? with
      | some N => if n ≤ st.length then some (N, (st.take n).reverse, st.drop n) else none
      | none => none
    | _ => none
  | _ => none
/-- does a handler cover the place -/
def px_cov (pc : Nat) (h : Nat × Nat × Nat × Nat) : Bool := decide (h.1 ≤ pc) && decide (pc < h.2.1)
/-- of each handler that covers the place it is known whether it takes the class -/
def px_hok (M : px_M) (na : Nat → Nat → Bool) (pc ci : Nat) : Bool := (px_mh M).all (fun h => !(px_cov pc h) || (match px_mx M h.2.2.2 with
  | some (7, cj, _, _) => h.2.2.2 != 0 && (ci == cj || na ci cj)
  | _ => false))
def px_tk (M : px_M) (ci t : Nat) : Bool := match px_mx M t with
  | some (7, cj, _, _) => ci == cj
  | _ => false
def px_hfd (M : px_M) (pc ci : Nat) : List (Nat × Nat × Nat × Nat) → Option Nat
  | [] => none
  | h :: r => if px_cov pc h = true ∧ px_tk M ci h.2.2.2 = true then some h.2.2.1 else px_hfd M pc ci r
def px_noc (M : px_M) (pc : Nat) : Bool := (px_mh M).all (fun h => !(px_cov pc h))
/-- 'throw new X(text)' -/
def px_thr (cl : List vw_C) (M : px_M) (pc : Nat) (st : List Value) : Option Nat := match px_mi M pc with
  | some (.new idx) => match px_mx M idx with
    | some (7, ci, _, _) => match px_mi M (pc + 3), px_mi M (pc + 3 + 1) with
      | some .dup, some (.ldc j) => match px_mx M j, px_mi M (pc + 3 + 1 + 2), px_mi M (pc + 3 + 1 + 2 + 3) with
        | some (4, _, _, _), some (.invokespecial k), some .athrow => if px_mx M k = some (13, ci, 0, 0) ∧ px_noc M (pc + 3 + 1 + 2 + 3) = true ∧ (st.map fun v => v.category).sum ≤ 8 then some ci else none
        | _, _, _ => none
      | some .dup, some (.ldc_w j) => match px_mx M j, px_mi M (pc + 3 + 1 + 3), px_mi M (pc + 3 + 1 + 3 + 3) with
        | some (4, _, _, _), some (.invokespecial k), some .athrow => if px_mx M k = some (13, ci, 0, 0) ∧ px_noc M (pc + 3 + 1 + 3 + 3) = true ∧ (st.map fun v => v.category).sum ≤ 8 then some ci else none
        | _, _, _ => none
      | _, _ => none
    | _ => none
  | _ => none
abbrev px_F : Type := Nat → px_M → px_S → px_G → Option (px_Out × px_G)
def px_body (cl : List vw_C) (fty : Nat → Nat → FieldType) (PM : List px_M) (na : Nat → Nat → Bool) (V : px_V) (ih : px_F) (d : Nat) (M : px_M) (S : px_S) (G : px_G) : Option (px_Out × px_G) := match px_mi M S.1 with
  | none => none
  | some i => match px_pure (px_ml M) i S.1 S.2.1 S.2.2 with
    | some S' => ih d M S' G
    | none => match px_heap cl fty V M i S.1 S.2.1 S.2.2 G with
      | some r => ih d M r.1 r.2
      | none => match px_ret M i S.2.2 with
        | some v => some (.inl v, G)
        | none => match px_inv V cl PM M i S.2.2 G with
          | some q => match d with
            | 0 => none
            | d + 1 => if (q.2.2.map fun v => v.category).sum ≤ 8 ∧ (lg_sl q.2.1).length ≤ px_ml q.1 then match ih d q.1 (0, lv_args 0 q.2.1, []) G with
              | some (.inl v, G') => ih (d + 1) M (S.1 + 3, S.2.1, v.toList ++ q.2.2) G'
              | some (.inr x, G') => match G'.1[x]? with
                | some (.inr (ci, _)) => if px_hok M na S.1 ci = true then match px_hfd M S.1 ci (px_mh M) with
                  | some h => ih (d + 1) M (h, S.2.1, [.ref x]) G'
                  | none => if px_noc M S.1 = true then some (.inr x, G') else none
                  else none
                | _ => none
              | none => none
              else none
          | none => match px_thr cl M S.1 S.2.2 with
            | some ci => some (.inr G.1.length, (G.1 ++ [.inr (ci, [])], G.2 + 6))
            | none => none
noncomputable def px_run (cl : List vw_C) (fty : Nat → Nat → FieldType) (PM : List px_M) (na : Nat → Nat → Bool) (V : px_V) (n : Nat) : px_F :=
  Nat.rec (motive := fun _ => px_F) (fun _ _ _ _ => none) (fun _ ih => px_body cl fty PM na V ih) n
/-- the heap grows -/
def px_le (G G' : px_G) : Prop := G.1.length ≤ G'.1.length ∧ G.2 ≤ G'.2
theorem px_le.rf (G : px_G) : px_le G G := ⟨Nat.le_refl _, Nat.le_refl _⟩
theorem px_le.tr {G G' G'' : px_G} (h : px_le G G') (h' : px_le G' G'') : px_le G G'' := ⟨Nat.le_trans h.1 h'.1, Nat.le_trans h.2 h'.2⟩
theorem px_le_push (G : px_G) (y : px_E) (n : Nat) : px_le G (G.1 ++ [y], G.2 + n) := ⟨by simp, Nat.le_add_right _ _⟩
theorem px_le_set (G : px_G) (k : Nat) (y : px_E) : px_le G (G.1.set k y, G.2) := ⟨by simp, Nat.le_refl _⟩
set_option maxHeartbeats 2000000 in
theorem px_heap_le {cl : List vw_C} {fty : Nat → Nat → FieldType} {V : px_V} {M : px_M} {i : Instr} {pc : Nat} {lv : px_L} {st : List Value} {G : px_G} {r : px_S × px_G} (h : px_heap cl fty V M i pc lv st G = some r) : px_le G r.2 := by
  unfold px_heap at h
  split at h
  · unfold px_get at h
    repeat' split at h
    all_goals first | (cases h; done) | (cases h; exact px_le.rf _)
  · unfold px_put at h
    repeat' split at h
    all_goals first | (cases h; done) | (cases h; exact px_le_set _ _ _)
  · unfold px_ldi at h
    repeat' split at h
    all_goals first | (cases h; done) | (cases h; exact px_le.rf _)
  · unfold px_ldl at h
    repeat' split at h
    all_goals first | (cases h; done) | (cases h; exact px_le.rf _)
  · unfold px_ldb at h
    repeat' split at h
    all_goals first | (cases h; done) | (cases h; exact px_le.rf _)
  · unfold px_lda at h
    repeat' split at h
    all_goals first | (cases h; done) | (cases h; exact px_le.rf _)
  · unfold px_sti at h
    repeat' split at h
    all_goals first | (cases h; done) | (cases h; exact px_le_set _ _ _)
  · unfold px_stl at h
    repeat' split at h
    all_goals first | (cases h; done) | (cases h; exact px_le_set _ _ _)
  · unfold px_stb at h
    repeat' split at h
    all_goals first | (cases h; done) | (cases h; exact px_le_set _ _ _)
  · unfold px_sta at h
    repeat' split at h
    all_goals first | (cases h; done) | (cases h; exact px_le_set _ _ _)
  · unfold px_aln at h
    repeat' split at h
    all_goals first | (cases h; done) | (cases h; exact px_le.rf _)
  · unfold px_nwa at h
    repeat' split at h
    all_goals first | (cases h; done) | (cases h; exact px_le_push _ _ _)
  · unfold px_nwr at h
    repeat' split at h
    all_goals first | (cases h; done) | (cases h; exact px_le_push _ _ _)
  · unfold px_new at h
    repeat' split at h
    all_goals first | (cases h; done) | (cases h; exact px_le_push _ _ _)
  · unfold px_cst at h
    repeat' split at h
    all_goals first | (cases h; done) | (cases h; exact px_le.rf _)
  · unfold px_cst at h
    repeat' split at h
    all_goals first | (cases h; done) | (cases h; exact px_le.rf _)
  · unfold px_csl at h
    repeat' split at h
    all_goals first | (cases h; done) | (cases h; exact px_le.rf _)
  · unfold px_obj at h
    repeat' split at h
    all_goals first | (cases h; done) | (cases h; exact px_le.rf _)
  · unfold px_ldc at h
    repeat' split at h
    all_goals first | (cases h; done) | (cases h; exact px_le.rf _)
  · unfold px_mm at h
    repeat' split at h
    all_goals first | (cases h; done) | (cases h; exact px_le.rf _)
  · unfold px_gst at h
    repeat' split at h
    all_goals first | (cases h; done) | (cases h; exact px_le.rf _)
  · cases h
theorem px_run_le {cl : List vw_C} {fty : Nat → Nat → FieldType} {PM : List px_M} {na : Nat → Nat → Bool} {V : px_V} : ∀ (n d : Nat) (M : px_M) (S : px_S) (G : px_G) (out : px_Out) (G' : px_G), px_run cl fty PM na V n d M S G = some (out, G') → px_le G G' := by
  intro n
  induction n with
  | zero => intro d M S G out G' h; cases h
  | succ n ih =>
    intro d M S G out G' h
    have h : px_body cl fty PM na V (px_run cl fty PM na V n) d M S G = some (out, G') := h
    unfold px_body at h
    split at h
    · cases h
    · split at h
      · exact ih _ _ _ _ _ _ h
      · split at h
        · rename_i hh
          exact (px_heap_le hh).tr (ih _ _ _ _ _ _ h)
        · split at h
          · cases h; exact px_le.rf _
          · split at h
            · split at h
              · cases h
              · split at h
                · split at h
                  · rename_i hc
                    exact (ih _ _ _ _ _ _ hc).tr (ih _ _ _ _ _ _ h)
                  · rename_i hc
                    split at h
                    · split at h
                      · split at h
                        · exact (ih _ _ _ _ _ _ hc).tr (ih _ _ _ _ _ _ h)
                        · split at h
                          · cases h; exact ih _ _ _ _ _ _ hc
                          · cases h
                      · cases h
                    · cases h
                  · cases h
                · cases h
            · split at h
              · cases h; exact px_le_push _ _ _
              · cases h
end
section
/-! ===== one instruction that sees the heap ===== -/
theorem px_mono {p : Program} {l : Launch} {e : Env} {R : Room} {s : State} {m : MethodId} {args : Array Value} {below : List Frame} {meth : Method} {c : Code} {H : Heap} {locs : List Loc} {cells slots : Nat} {Q Q' : State → Prop} {g : JFrame}
    (h : ∀ t, Q t → Q' t) (k : W p l e R s m args below meth c H locs cells slots Q g) : W p l e R s m args below meth c H locs cells slots Q' g := by
  intro T hT X
  obtain ⟨t, a, b⟩ := k T hT X
  exact ⟨t, a, h t b⟩
section PXL
variable {p : Program} {l : Launch} {e : Env} {R : Room} {s : State} {m : MethodId} {args : Array Value} {below : List Frame} {meth : Method} {c : Code} {H : Heap} {locs : List Loc} {cells slots : Nat} {Q : State → Prop}
variable {pc : Nat} {ls : Array Slot} {base : Nat} {ext : UInt32 → Nat} {tA : Nat → ClassId} {D : va_G} {cl : List vw_C} {fty : Nat → Nat → FieldType} {TB : List Cond} {H0 : Heap} {V : px_V} {M : px_M} {lv : px_L} {st : List Value} {G : px_G} {r : px_S × px_G} {n0 s0 : Nat}
theorem px_heap_ok (C : px_C TB M p s m args meth c) (hcl : px_clo cl fty TB) (hw : ∀ idx x, px_mx M idx = some x → px_wd cl TB (px_my M).cls idx x) (hX : px_Xt ext V H0 s) (hK : va_K D cl (px_tys tA) s) (hI : px_I base ext tA D cl H0 G H locs) (hN : px_N base n0 s0 G s cells slots) (hls : ls.size = c.maxLocals) (hR : 1 ≤ R.frames ∧ 25 ≤ R.locals)
    {i : Instr} {n : Nat} (hd : decode (px_mb M) pc = .ok (i, n)) (hn : px_sw i = false → n = px_len i) (h : px_heap cl fty V M i pc lv st G = some r) (hRc : r.2.1.length ≤ R.cells + n0) (hRs : r.2.2 ≤ R.slots + s0)
    (kk : ∀ (H1 : Heap) (locs1 : List Loc) (cells1 slots1 : Nat), r.1.2.1 = lv → px_I base ext tA D cl H0 r.2 H1 locs1 → px_N base n0 s0 r.2 s cells1 slots1 → W p l e R s m args below meth c H1 locs1 cells1 slots1 Q (F0 m r.1.1 ls (r.1.2.2.map (px_rv base ext)))) : W p l e R s m args below meth c H locs cells slots Q (F0 m pc ls (st.map (px_rv base ext))) := by
  have same : ∀ (h1 : r.1.2.1 = lv) (h2 : r.2 = G), W p l e R s m args below meth c H locs cells slots Q (F0 m r.1.1 ls (r.1.2.2.map (px_rv base ext))) := fun h1 h2 => kk H locs cells slots h1 (by rw [h2]; exact hI) (by rw [h2]; exact hN)
  unfold px_heap at h
  split at h
  · cases (hn rfl); exact px_get_ok C hX hcl hw hK hI hd h same
  · cases (hn rfl); exact px_put_ok C hcl hw hK hI hN hd h (fun H1 locs1 => kk H1 locs1 cells slots)
  · cases (hn rfl); exact px_ldi_ok C hX hK hI hd h same
  · cases (hn rfl); exact px_ldl_ok C hK hI hd h same
  · cases (hn rfl); exact px_ldb_ok C hX hK hI hd h same
  · cases (hn rfl); exact px_lda_ok C hK hI hd h same
  · cases (hn rfl); exact px_sti_ok C hK hI hN hd h (fun H1 locs1 => kk H1 locs1 cells slots)
  · cases (hn rfl); exact px_stl_ok C hK hI hN hd h (fun H1 locs1 => kk H1 locs1 cells slots)
  · cases (hn rfl); exact px_stb_ok C hK hI hN hd h (fun H1 locs1 => kk H1 locs1 cells slots)
  · cases (hn rfl); exact px_sta_ok C hK hI hN hd h (fun H1 locs1 => kk H1 locs1 cells slots)
  · cases (hn rfl); exact px_aln_ok C hX hK hI hd h same
  · cases (hn rfl); exact px_nwa_ok C hcl hK hI hN hd h hRc hRs (fun H1 cells1 slots1 => kk H1 locs cells1 slots1)
  · cases (hn rfl); exact px_nwr_ok C hw hK hI hN hd h hRc hRs (fun H1 cells1 slots1 => kk H1 locs cells1 slots1)
  · cases (hn rfl); exact px_new_ok C hcl hw hK hI hN hd h hRc hRs (fun H1 cells1 slots1 => kk H1 locs cells1 slots1)
  · cases (hn rfl); exact px_cst_ok C hX hw (Or.inl ⟨rfl, hd⟩) h same
  · cases (hn rfl); exact px_cst_ok C hX hw (Or.inr ⟨rfl, hd⟩) h same
  · cases (hn rfl); exact px_csl_ok C hw hd h same
  · cases (hn rfl); exact px_obj_ok C hw hls ⟨hR.1, by omega⟩ hd h same
  · cases (hn rfl); exact px_ldc_ok C hX hI hd h same
  · cases (hn rfl)
    have hle : px_le G r.2 := px_heap_le (cl := cl) (fty := fty) (V := V) (M := M) (i := .invokestatic _) h
    obtain ⟨e1, e2, e3⟩ := hN
    have := hle.1
    have := hle.2
    exact px_mm_ok C hw hls hR (by omega) (by omega) hd h same
  · cases (hn rfl); exact px_gst_ok C hX hw hI hd h same
  · cases h
end PXL
def px_o (base : Nat) (ext : UInt32 → Nat) : px_Out → Outcome
  | .inl v => .returned (v.map (px_rv base ext))
  | .inr x => .threw (base + x)
/-- how a method that began with n0 cells of s0 slots ends -/
def px_Qn (base : Nat) (ext : UInt32 → Nat) (tA : Nat → ClassId) (D : va_G) (cl : List vw_C) (H0 : Heap) (below : List Frame) (s : State) (out : px_Out) (G' : px_G) (n0 s0 : Nat) : State → Prop := fun t =>
  t.status = .running ∧ Ended t below (px_o base ext out) ∧ (∃ L, px_End s t L (G'.1.length - n0) (G'.2 - s0) ∧ ∀ q ∈ L, base ≤ q.base) ∧ px_I base ext tA D cl H0 G' t.heap []
section PXR
variable {p : Program} {l : Launch} {e : Env} {R : Room} {s : State} {m : MethodId} {args : Array Value} {below : List Frame} {meth : Method} {c : Code} {H : Heap} {locs : List Loc} {cells slots : Nat}
variable {pc : Nat} {ls : Array Slot} {base : Nat} {ext : UInt32 → Nat} {tA : Nat → ClassId} {D : va_G} {cl : List vw_C} {TB : List Cond} {H0 : Heap} {M : px_M} {st : List Value} {G : px_G} {n0 s0 : Nat}
theorem px_I.bare (hI : px_I base ext tA D cl H0 G H locs) : px_I base ext tA D cl H0 G H [] := ⟨hI.1, hI.2.1, hI.2.2.1, hI.2.2.2.1, fun _ h => by cases h⟩
theorem px_I.dress (hI : px_I base ext tA D cl H0 G H []) (hL : ∀ q ∈ locs, base ≤ q.base) : px_I base ext tA D cl H0 G H locs := ⟨hI.1, hI.2.1, hI.2.2.1, hI.2.2.2.1, hL⟩
theorem px_nar_ok {ty : FieldType} {v : Int32} (h : px_nar ty v = true) : narrow ty (.int v) = .int v := by
  cases ty <;> simp [px_nar] at h <;> first | rfl | skip
  · subst h; rfl
  · obtain ⟨k, hk, rfl⟩ : ∃ k : Nat, k < 65536 ∧ v = nI k := by
      obtain ⟨j, hj, rfl⟩ := nI_of (x := v) (by have := Int32.not_lt.mpr h.1; exact this)
      refine ⟨j, ?_, rfl⟩
      have h2 : nI j ≤ nI 65535 := h.2
      have := (nI_leI hj (by decide)).mp h2
      omega
    exact (pk_charN hk).1
  · rcases h with rfl | rfl <;> rfl
/-- an answer -/
theorem px_ret_ok (C : px_C TB M p s m args meth c) (hI : px_I base ext tA D cl H0 G H locs) (hN : px_N base n0 s0 G s cells slots) {i : Instr} {n : Nat} (hd : decode (px_mb M) pc = .ok (i, n)) (hn : px_sw i = false → n = px_len i) {v : Option Value} (h : px_ret M i st = some v) :
    W p l e R s m args below meth c H locs cells slots (px_Qn base ext tA D cl H0 below s (.inl v) G n0 s0) (F0 m pc ls (st.map (px_rv base ext))) := by
  obtain ⟨hx, hb, hr, -, -, -, hlk, -, -⟩ := C
  obtain ⟨e1, e2, e3⟩ := hN
  have fin : ∀ t, MQ below (fun _ _ o t => o = px_o base ext (.inl v) ∧ px_I base ext tA D cl H0 G t.heap []) args s cells slots (fun q => base ≤ q) t → px_Qn base ext tA D cl H0 below s (.inl v) G n0 s0 t := by
    rintro t ⟨o, q1, q2, ⟨rfl, q3⟩, L, ⟨-, q4, q5⟩, q6⟩
    refine ⟨q1, q2, ⟨L, ⟨q4, ?_⟩, q6⟩, q3⟩
    rw [show G.1.length - n0 = cells by omega, show G.2 - s0 = slots by omega]
    exact q5
  have hq : ∀ t : State, t.heap = H → px_I base ext tA D cl H0 G t.heap [] := fun t ht => by rw [ht]; exact hI.bare
  unfold px_ret at h
  split at h
  · cases (hn rfl)
    split at h
    · rename_i hm
      cases h
      exact px_mono fin (W.vret hx hb (hr.trans hm) (fun t ht _ => ⟨rfl, hq t ht⟩) hI.2.2.2.2 hd)
    · cases h
  · cases (hn rfl)
    split at h
    · rename_i w ty hm
      split at h
      · rename_i hty
        cases h
        exact px_mono fin (W.zret hx hb (hr.trans hm) (px_nar_ok hty) (fun t ht _ => ⟨rfl, hq t ht⟩) hI.2.2.2.2 hd)
      · cases h
    · cases h
  · cases (hn rfl)
    split at h
    · rename_i w hm
      cases h
      exact px_mono fin (W.lret hx hb (hr.trans hm) (fun t ht _ => ⟨rfl, hq t ht⟩) hI.2.2.2.2 hd)
    · cases h
  · cases (hn rfl)
    split at h
    · rename_i w
      split at h
      · rename_i hw
        cases h
        obtain ⟨a, ha⟩ := px_rv_isr (base := base) (ext := ext) hw.1
        have hrt : ∃ rt, px_mr M = some rt ∧ ((∃ n, rt = .object n) ∨ ∃ t, rt = .array t) := by
          have h2 := hw.2
          unfold px_ref at h2
          split at h2
          · rename_i nm hm
            exact ⟨_, hm, Or.inl ⟨_, rfl⟩⟩
          · rename_i nm hm
            exact ⟨_, hm, Or.inr ⟨_, rfl⟩⟩
          · cases h2
        obtain ⟨rt, h3, h4⟩ := hrt
        exact px_mono fin (W.aret (v := px_rv base ext w) hx hb (hr.trans h3) h4 (Or.inr ⟨a, ha⟩) (fun t ht _ => ⟨rfl, hq t ht⟩) hI.2.2.2.2 hd)
      · cases h
    · cases h
  · cases h
end PXR
end
section
/-! ===== THE PURE MACHINE'S RUN IS THE MACHINE'S ===== -/
/-- what the tables must say of a call, a text, an exception -/
def px_wc (cl : List vw_C) (TB : List Cond) (PM : List px_M) (own : String) (idx : Nat) (x : px_X) : Prop := match x with
  | (1, mi, n, _) => ∀ N, PM[mi]? = some N → Cond.methodLink own idx (px_my N) ∈ TB ∧ Cond.instanceMethod (px_my N) ∈ TB ∧ Cond.selects (px_my N).cls (px_my N) (px_my N) ∈ TB ∧ (parseMethodDescriptor (px_my N).desc).map (fun d => d.parameters.length) = some n
  | (9, mi, n, _) => ∀ N, PM[mi]? = some N → (px_my N).name = "<init>" ∧ Cond.instanceMethod (px_my N) ∈ TB ∧ px_mh N = [] ∧ px_mr N = none ∧ (Cond.methodLink own idx (px_my N) ∈ TB ∨ ∃ host, Cond.methodLinkNest own idx (px_my N) host ∈ TB) ∧ (parseMethodDescriptor (px_my N).desc).map (fun d => d.parameters.length) = some n
  | (11, mi, n, _) => ∀ N, PM[mi]? = some N → Cond.methodLink own idx (px_my N) ∈ TB ∧ Cond.static (px_my N) ∈ TB ∧ (parseMethodDescriptor (px_my N).desc).map (fun d => d.parameters.length) = some n
  | (4, _, _, _) => ∃ tx, Cond.stringRef own idx tx ∈ TB
  | (7, ci, _, _) => ∃ r, cl[ci]? = some r ∧ r.2.2 = 0 ∧ Bundle.fit r.1 = true ∧ Cond.classLink own idx r.1 ∈ TB ∧ Cond.instantiable r.1 6 ∈ TB ∧ Cond.initialized r.1 ∈ TB
  | (13, ci, _, _) => ∀ r, cl[ci]? = some r → ∀ w ∈ Bundle.ownAtoms own idx r.1 px_ups, w ∈ TB ∨ w ∈ px_two
  | _ => True
/-- a method's rows are its code's -/
def px_mok (cl : List vw_C) (TB : List Cond) (PM : List px_M) (M : px_M) : Prop :=
  (∀ pc i, px_mi M pc = some i → ∃ n, decode (px_mb M) pc = .ok (i, n) ∧ (px_sw i = false → n = px_len i)) ∧ (∀ idx x, px_mx M idx = some x → px_wd cl TB (px_my M).cls idx x ∧ px_wc cl TB PM (px_my M).cls idx x)
/-- a method may be called -/
def px_cok (TB : List Cond) (M : px_M) : Prop := px_cw M ∈ TB ∧ Cond.initialized (px_my M).cls ∈ TB ∧ plainName (px_my M).cls = true ∧ px_nmh (px_my M) ∧ px_ml M ≤ 23
/-- what holds of the tables and of what lies outside, wherever a method begins -/
def px_Ev (base : Nat) (ext : UInt32 → Nat) (tA : Nat → ClassId) (D : va_G) (cl : List vw_C) (na : Nat → Nat → Bool) (V : px_V) (H0 : Heap) (s : State) : Prop :=
  va_K D cl (px_tys tA) s ∧ px_Xt ext V H0 s ∧ px_Zt base H0 s ∧ ∀ ci cj, na ci cj = true → s.vm.assignable (D.1 ci) (D.1 cj) = false
theorem px_Ev.moved {base : Nat} {ext : UInt32 → Nat} {tA : Nat → ClassId} {D : va_G} {cl : List vw_C} {na : Nat → Nat → Bool} {V : px_V} {H0 : Heap} {s U : State} (h : px_Ev base ext tA D cl na V H0 s) (hW : s.WarmedH U.vm) : px_Ev base ext tA D cl na V H0 U := by
  obtain ⟨h1, h2, ⟨v1, v2, r1, r2, z1, z2⟩, h5⟩ := h
  have hvm := hW.alike
  refine ⟨h1.moved hvm, h2.warm hW, ⟨v1, v2, r1, r2, va_Z.moved hvm z1, va_Z.moved hvm z2⟩, fun ci cj hc => ?_⟩
  rw [hvm.assignable]
  exact h5 ci cj hc
theorem px_args (base : Nat) (ext : UInt32 → Nat) : ∀ (av : List Value) (i : Nat), lv_args i (av.map (px_rv base ext)) = px_rl base ext (lv_args i av) := by
  intro av
  induction av with
  | nil => intro i; rfl
  | cons v vs ih =>
    intro i
    simp only [List.map_cons, lv_args, px_rl, px_rv_cat]
    rw [ih]
    rfl
theorem px_slen (base : Nat) (ext : UInt32 → Nat) (av : List Value) : (lg_sl (av.map (px_rv base ext))).length = (lg_sl av).length := by
  induction av with
  | nil => rfl
  | cons v vs ih =>
    have e1 : ∀ (w : Value) (ws : List Value), (lg_sl (w :: ws)).length = (if w.category = 2 then 2 else 1) + (lg_sl ws).length := by
      intro w ws
      simp only [lg_sl, List.flatMap_cons, List.length_append]
      split <;> rfl
    rw [List.map_cons, e1, e1, ih, px_rv_cat]
section PXS
variable {l : Launch} {cl : List vw_C} {fty : Nat → Nat → FieldType} {TB : List Cond} {PM : List px_M} {na : Nat → Nat → Bool} {V : px_V}
/-- what a run of the pure machine says of the machine -/
def px_Snd (l : Launch) (cl : List vw_C) (TB : List Cond) (na : Nat → Nat → Bool) (V : px_V) (d : Nat) (M : px_M) (S : px_S) (G : px_G) (out : px_Out) (G' : px_G) : Prop :=
  ∀ (p : Program) (e : Env) (s : State) (m : MethodId) (args : Array Value) (below : List Frame) (meth : Method) (c : Code) (base : Nat) (ext : UInt32 → Nat) (tA : Nat → ClassId) (D : va_G) (H0 : Heap) (n0 s0 : Nat) (R : Room) (H : Heap) (locs : List Loc) (cells slots : Nat) (ls : Array Slot),
    px_C TB M p s m args meth c → px_Ev base ext tA D cl na V H0 s → px_I base ext tA D cl H0 G H locs → px_N base n0 s0 G s cells slots → lv_has ls (px_ml M) (px_rl base ext S.2.1) → d + 8 ≤ R.frames → 42 * d + 200 ≤ R.locals → G'.1.length ≤ R.cells + n0 → G'.2 ≤ R.slots + s0 →
    W p l e R s m args below meth c H locs cells slots (px_Qn base ext tA D cl H0 below s out G' n0 s0) (F0 m S.1 ls (S.2.2.map (px_rv base ext)))
set_option maxHeartbeats 2000000 in
/-- a method's free theorem, out of a run from its entry -/
theorem px_met {N : px_M} (hc : px_cok TB N) {d : Nat} {av : List Value} (hav : (lg_sl av).length ≤ px_ml N) {G G' : px_G} {out : px_Out} (hle : px_le G G') (h : px_Snd l cl TB na V d N (0, lv_args 0 av, []) G out G')
    (base : Nat) (ext : UInt32 → Nat) (tA : Nat → ClassId) (D : va_G) (H0 : Heap) :
    MetFree l (px_my N) (headSpec TB { frames := d + 8, cells := G'.1.length - G.1.length, slots := G'.2 - G.2, locals := 42 * d + 200 })
      (fun a s => a = (av.map (px_rv base ext)).toArray ∧ px_Ev base ext tA D cl na V H0 s ∧ px_I base ext tA D cl H0 G s.heap [] ∧ s.heap.size = base + G.1.length) (fun _ _ _ _ _ => True)
      (fun _ st o t => (o = px_o base ext out ∧ px_I base ext tA D cl H0 G' t.heap []) ∧ ∃ L, px_End st t L (G'.1.length - G.1.length) (G'.2 - G.2) ∧ ∀ q ∈ L, base ≤ q.base) := by
  obtain ⟨h1, h2, h3, h4, h5⟩ := hc
  refine MetFree.of_bodyS (code := px_mb N) (maxLocals := px_ml N) (ret := px_mr N) h3 ?_ ?_
  · intro args s m hpre hn
    obtain ⟨mk, meth, c, q1, q2, q3, q4, q5, -, q7, q8, -⟩ := px_cw_spec (atoms_spec (ws := TB) hpre _ h1)
    cases hn.symm.trans q1
    exact ⟨meth, c, q2, q3, q4, q5, q7, q8⟩
  · intro p e s m args below meth c s₁ B hml hP _
    obtain ⟨rfl, hE, hI, hz⟩ := hP
    have hts : ∀ w ∈ TB, w.before (av.map (px_rv base ext)).toArray s = true := atoms_spec (ws := TB) B.pre
    have X₀ : Stand p l e _ s m (av.map (px_rv base ext)).toArray below meth c s₁ [] 0 0 := Stand.of_body B
    have hh0 : s₁.heap = s.heap := by rw [B.state]; rfl
    obtain ⟨mk, meth', c', q1, q2, q3, q4, q5, q6, q7, q8, -⟩ := px_cw_spec (hts _ h1)
    cases B.named.symm.trans q1
    cases B.method.symm.trans q2
    cases X₀.code.symm.trans q3
    have C : px_C TB N p s m (av.map (px_rv base ext)).toArray meth c := ⟨B.exec, B.bytes, B.returns, q5, findClass_of_methodNamed B.named, hts, q8, (name_of_methodNamed B.named B.method).1, q6⟩
    have hl := lv_entry (av.map (px_rv base ext)) (n := px_ml N) (by rw [px_slen]; exact hav)
    rw [px_args] at hl
    have K := h p e s m _ below meth c base ext tA D H0 G.1.length G.2 { frames := d + 8, cells := G'.1.length - G.1.length, slots := G'.2 - G.2, locals := 42 * d + 200 } s.heap [] 0 0 _ C hE hI ⟨hz, by omega, by omega⟩ hl (Nat.le_refl _) (Nat.le_refl _) (by have := hle.1; show _ ≤ (G'.1.length - G.1.length) + _; omega) (by have := hle.2; show _ ≤ (G'.2 - G.2) + _; omega)
    have K2 : W p l e { frames := d + 8, cells := G'.1.length - G.1.length, slots := G'.2 - G.2, locals := 42 * d + 200 } s m (av.map (px_rv base ext)).toArray below meth c s.heap [] 0 0 (px_Qn base ext tA D cl H0 below s out G' G.1.length G.2) (entryFrame m (av.map (px_rv base ext)).toArray (px_ml N)) := by
      rw [lg_entry_eq]
      exact K
    obtain ⟨t, a1, b1, b2, b3, b4⟩ := K2 s₁ hh0 X₀
    exact ⟨t, _, a1, b1, b2, ⟨rfl, b4⟩, b3⟩

theorem px_cov_eq {c : Code} {M : px_M} (hh : c.exceptionTable.toList.map (fun h => (h.startPc, h.endPc, h.handlerPc, h.catchType)) = px_mh M) {pc : Nat} (hn : px_noc M pc = true) : ∀ y ∈ c.exceptionTable.toList, covers y pc = false := by
  intro y hy
  unfold px_noc at hn
  rw [← hh] at hn
  have h1 := List.all_eq_true.mp hn _ (List.mem_map.mpr ⟨y, hy, rfl⟩)
  have h2 : (!(covers y pc)) = true := h1
  cases hc : covers y pc with
  | false => rfl
  | true => rw [hc] at h2; cases h2
theorem px_fd_eq {M : px_M} {ci pc : Nat} : ∀ es : List ExceptionTableEntry, px_fd (fun x => px_tk M ci x.catchType) pc es = px_hfd M pc ci (es.map (fun h => (h.startPc, h.endPc, h.handlerPc, h.catchType))) := by
  intro es
  induction es with
  | nil => rfl
  | cons x t ih =>
    simp only [px_fd, List.map_cons, px_hfd, px_cov, covers]
    rw [ih]
    rfl
/-- linking the call that the pure machine makes -/
theorem px_link {p : Program} {e : Env} {R : Room} {s : State} {m : MethodId} {args : Array Value} {below : List Frame} {meth : Method} {c : Code} {T : State} {locs : List Loc} {cells slots : Nat} {base : Nat} {ext : UInt32 → Nat} {tA : Nat → ClassId} {D : va_G} {H0 : Heap} {M N : px_M} {G : px_G} {st av rest : List Value} {pc : Nat} {ls : Array Slot}
    (hPM : ∀ N ∈ PM, px_mok cl TB PM N ∧ px_cok TB N) (hM : px_mok cl TB PM M) (X : Stand p l e R s m args below meth c T locs cells slots) (C : px_C TB M p s m args meth c) (hX : px_Xt ext V H0 s) (hK : va_K D cl (px_tys tA) s) (hI : px_I base ext tA D cl H0 G T.heap locs)
    {i : Instr} {n : Nat} (hd : decode (px_mb M) pc = .ok (i, n)) (hn : px_sw i = false → n = px_len i) (h : px_inv V cl PM M i st G = some (N, av, rest)) :
    N ∈ PM ∧ n = 3 ∧ px_Lk p l e R s m args below meth c T locs cells slots (px_my N) (F0 m pc ls (st.map (px_rv base ext))) (rest.map (px_rv base ext)) (av.map (px_rv base ext)).toArray := by
  obtain ⟨hx, hb, -, -, hown, hts, -, -, -⟩ := C
  have hsplit : ∀ k : Nat, st.map (px_rv base ext) = ((st.take k).map (px_rv base ext)) ++ ((st.drop k).map (px_rv base ext)) := fun k => by rw [← List.map_append, List.take_append_drop]
  have hlen : ∀ (k : Nat) (y : MethodName), k ≤ st.length → (parseMethodDescriptor y.desc).map (fun d => d.parameters.length) = some k → ∀ sig, parseMethodDescriptor y.desc = some sig → ((st.take k).reverse.map (px_rv base ext)).length = sig.parameters.length := by
    intro k y hk h1 sig h2
    rw [h2] at h1
    have : sig.parameters.length = k := Option.some.inj h1
    rw [this]
    simp [hk]
  have hdl : ∀ {k : Nat} {w : Value} {ws : List Value}, st.drop k = w :: ws → k ≤ st.length := by
    intro k w ws hw
    have := congrArg List.length hw
    simp only [List.length_drop, List.length_cons] at this
    omega
  unfold px_inv at h
  split at h
  · cases (hn rfl)
    split at h
    · rename_i idx mi k z hm
      split at h
      · rename_i N' b rest' hN hst
        split at h
        · rename_i ci fs hg
          split at h
          · rename_i x hc
            split at h
            · rename_i hcls
              cases h
              have hmem : N ∈ PM := List.mem_of_getElem? hN
              obtain ⟨w1, w2, w3, w4⟩ := (hM.2 _ _ hm).2 N hN
              obtain ⟨-, c1, -, -, c4, -⟩ := hPM N hmem
              refine ⟨hmem, rfl, ?_⟩
              obtain ⟨cell, g1, g2, g3⟩ := va_recv hK hI.2.1 hc (px_ws_at hg)
              rw [hcls] at g3
              have := px_lkV (rest := rest.map (px_rv base ext)) (argsL := (st.take k).reverse.map (px_rv base ext)) (g := F0 m pc ls (st.map (px_rv base ext))) X hx hown (hts _ w1) (hts _ w2) (hts _ w3) (hts _ c1) c4 g1 g2 g3 rfl (hlen k _ (hdl hst) w4)
                (by
                  show st.map (px_rv base ext) = _
                  rw [hsplit k, hst, List.map_reverse, List.reverse_reverse]
                  rfl) (by rw [hb]; exact hd)
              exact this
            · cases h
          · cases h
        · cases h
      · rename_i N' j rest' hN hst
        split at h
        · rename_i bs hs
          split at h
          · rename_i hcls
            cases h
            have hmem : N ∈ PM := List.mem_of_getElem? hN
            obtain ⟨w1, w2, w3, w4⟩ := (hM.2 _ _ hm).2 N hN
            obtain ⟨-, c1, -, -, c4, -⟩ := hPM N hmem
            refine ⟨hmem, rfl, ?_⟩
            have hS := hI.2.2
            rw [← hI.1] at hS
            obtain ⟨cell, g1, g2, g3, -⟩ := (hX.2.2.1 j bs hs).1.kept hS.2.1
            rw [← hcls] at g3
            have := px_lkV (rest := rest.map (px_rv base ext)) (argsL := (st.take k).reverse.map (px_rv base ext)) (g := F0 m pc ls (st.map (px_rv base ext))) X hx hown (hts _ w1) (hts _ w2) (hts _ w3) (hts _ c1) c4 g1 g2 g3 rfl (hlen k _ (hdl hst) w4)
              (by
                show st.map (px_rv base ext) = _
                rw [hsplit k, hst, List.map_reverse, List.reverse_reverse]
                rfl) (by rw [hb]; exact hd)
            exact this
          · cases h
        · cases h
      · cases h
    · cases h
  · cases (hn rfl)
    split at h
    · rename_i idx mi k z hm
      split at h
      · rename_i N' b rest' hN hst
        cases h
        have hmem : N ∈ PM := List.mem_of_getElem? hN
        obtain ⟨w1, w2, w3, w4, w5, w6⟩ := (hM.2 _ _ hm).2 N hN
        obtain ⟨-, c1, -, -, c4, -⟩ := hPM N hmem
        refine ⟨hmem, rfl, ?_⟩
        have hcode : (Cond.code (px_my N) (px_mb N) (px_ml N) none).before args s = true := by
          have h2 := hts _ c1
          unfold px_cw at h2
          rw [w3, w4] at h2
          exact h2
        have hstk : (F0 m pc ls (st.map (px_rv base ext))).stack = ((st.take k).reverse.map (px_rv base ext)).reverse ++ .ref (base + b) :: rest.map (px_rv base ext) := by
          show st.map (px_rv base ext) = _
          rw [hsplit k, hst, List.map_reverse, List.reverse_reverse]
          rfl
        rcases w5 with w5 | ⟨host, w5⟩
        · exact px_lkI (g := F0 m pc ls (st.map (px_rv base ext))) X hx hown w1 (hts _ w5) (hts _ w2) hcode c4 rfl (hlen k _ (hdl hst) w6) hstk (by rw [hb]; exact hd)
        · exact px_lkIN (g := F0 m pc ls (st.map (px_rv base ext))) X hx hown w1 (hts _ w5) (hts _ w2) hcode c4 rfl (hlen k _ (hdl hst) w6) hstk (by rw [hb]; exact hd)
      · cases h
    · cases h
  · cases (hn rfl)
    split at h
    · rename_i idx mi k z hm
      split at h
      · rename_i N' hN
        split at h
        · rename_i hk
          cases h
          have hmem : N ∈ PM := List.mem_of_getElem? hN
          obtain ⟨w1, w2, w3⟩ := (hM.2 _ _ hm).2 N hN
          obtain ⟨-, c1, c2, -, c4, -⟩ := hPM N hmem
          refine ⟨hmem, rfl, ?_⟩
          have := px_lkS (rest := (st.drop k).map (px_rv base ext)) (argsL := (st.take k).reverse.map (px_rv base ext)) (g := F0 m pc ls (st.map (px_rv base ext))) X hx hown (hts _ w1) (hts _ w2) (hts _ c2) (hts _ c1) c4 rfl (hlen k _ hk w3)
            (by
              show st.map (px_rv base ext) = _
              rw [hsplit k, List.map_reverse, List.reverse_reverse]) (by rw [hb]; exact hd)
          exact this
        · cases h
      · cases h
    · cases h
  · cases h
end PXS
end
section
/-! ===== THE PURE MACHINE'S RUN IS THE MACHINE'S: by induction on the steps ===== -/
section PXM
variable {l : Launch} {cl : List vw_C} {fty : Nat → Nat → FieldType} {TB : List Cond} {PM : List px_M} {na : Nat → Nat → Bool} {V : px_V}
theorem px_thr_spec {M : px_M} {pc : Nat} {st : List Value} {ci : Nat} (hM : px_mok cl TB PM M) (h : px_thr cl M pc st = some ci) : ∃ (idx js ic n : Nat) (x : vw_C) (tx : String), cl[ci]? = some x ∧ x.2.2 = 0 ∧ Bundle.fit x.1 = true ∧ Cond.classLink (px_my M).cls idx x.1 ∈ TB ∧ Cond.instantiable x.1 6 ∈ TB ∧ Cond.initialized x.1 ∈ TB ∧ Cond.stringRef (px_my M).cls js tx ∈ TB ∧
    (∀ w ∈ Bundle.ownAtoms (px_my M).cls ic x.1 px_ups, w ∈ TB ∨ w ∈ px_two) ∧ decode (px_mb M) pc = .ok (.new idx, 3) ∧ decode (px_mb M) (pc + 3) = .ok (.dup, 1) ∧ ((n = 2 ∧ decode (px_mb M) (pc + 3 + 1) = .ok (.ldc js, 2)) ∨ (n = 3 ∧ decode (px_mb M) (pc + 3 + 1) = .ok (.ldc_w js, 3))) ∧
    decode (px_mb M) (pc + 3 + 1 + n) = .ok (.invokespecial ic, 3) ∧ decode (px_mb M) (pc + 3 + 1 + n + 3) = .ok (.athrow, 1) ∧ px_noc M (pc + 3 + 1 + n + 3) = true ∧ (st.map fun v => v.category).sum ≤ 8 := by
  have dec : ∀ {q : Nat} {i : Instr}, px_mi M q = some i → px_sw i = false → decode (px_mb M) q = .ok (i, px_len i) := by
    intro q i h1 h2
    obtain ⟨n, h3, h4⟩ := hM.1 q i h1
    rw [h3, h4 h2]
  unfold px_thr at h
  split at h
  · rename_i idx h0
    split at h
    · rename_i cj z1 z2 hx
      split at h
      · rename_i j h3 h4
        split at h
        · rename_i z3 z4 z5 k hj h6 h9
          split at h
          · rename_i hq
            cases h
            obtain ⟨x, w1, w2, w3, w4, w5, w6⟩ := (hM.2 _ _ hx).2
            obtain ⟨tx, w7⟩ := (hM.2 _ _ hj).2
            exact ⟨idx, j, k, 2, x, tx, w1, w2, w3, w4, w5, w6, w7, (hM.2 _ _ hq.1).2 x w1, dec h0 rfl, dec h3 rfl, Or.inl ⟨rfl, dec h4 rfl⟩, dec h6 rfl, dec h9 rfl, hq.2.1, hq.2.2⟩
          · cases h
        · cases h
      · rename_i j h3 h4
        split at h
        · rename_i z3 z4 z5 k hj h6 h9
          split at h
          · rename_i hq
            cases h
            obtain ⟨x, w1, w2, w3, w4, w5, w6⟩ := (hM.2 _ _ hx).2
            obtain ⟨tx, w7⟩ := (hM.2 _ _ hj).2
            exact ⟨idx, j, k, 3, x, tx, w1, w2, w3, w4, w5, w6, w7, (hM.2 _ _ hq.1).2 x w1, dec h0 rfl, dec h3 rfl, Or.inr ⟨rfl, dec h4 rfl⟩, dec h6 rfl, dec h9 rfl, hq.2.1, hq.2.2⟩
          · cases h
        · cases h
      · cases h
    · cases h
  · cases h
set_option maxHeartbeats 4000000 in
theorem px_sound (hcl : px_clo cl fty TB) (hgood : px_good TB) (hPM : ∀ N ∈ PM, px_mok cl TB PM N ∧ px_cok TB N) (htr : ∀ e : Env, l.admits e → e.platform.stackTraces = false) :
    ∀ (n d : Nat) (M : px_M) (S : px_S) (G : px_G) (out : px_Out) (G' : px_G), px_mok cl TB PM M → px_run cl fty PM na V n d M S G = some (out, G') → px_Snd l cl TB na V d M S G out G' := by
  intro n
  induction n with
  | zero => intro d M S G out G' hM h; cases h
  | succ n ih =>
    intro d M S G out G' hM h
    have hle := px_run_le (n + 1) d M S G out G' h
    replace h : px_body cl fty PM na V (px_run cl fty PM na V n) d M S G = some (out, G') := h
    intro p e s m args below meth c base ext tA D H0 n0 s0 R H locs cells slots ls C hE hI hN hl hRf hRl hRc hRs
    have hls : ls.size = c.maxLocals := hl.1.trans C.2.2.2.1.symm
    unfold px_body at h
    split at h
    · cases h
    · rename_i i hi
      obtain ⟨len, hd, hlen⟩ := hM.1 _ _ hi
      split at h
      · rename_i S' hp
        exact px_pure_ok C.1 C.2.1 hd hlen hl hp (fun ls' hl' => ih d M S' G out G' hM h p e s m args below meth c base ext tA D H0 n0 s0 R H locs cells slots ls' C hE hI hN hl' hRf hRl hRc hRs)
      · split at h
        · rename_i r hh
          have hle2 := px_run_le n d M r.1 r.2 out G' h
          refine px_heap_ok C hcl (fun idx x hx => (hM.2 idx x hx).1) hE.2.1 hE.1 hI hN hls ⟨by omega, by omega⟩ hd hlen hh (Nat.le_trans hle2.1 hRc) (Nat.le_trans hle2.2 hRs) (fun H1 locs1 cells1 slots1 q1 q2 q3 => ?_)
          exact ih d M r.1 r.2 out G' hM h p e s m args below meth c base ext tA D H0 n0 s0 R H1 locs1 cells1 slots1 ls C hE q2 q3 (by rw [q1]; exact hl) hRf hRl hRc hRs
        · split at h
          · rename_i v hv
            cases h
            exact px_ret_ok C hI hN hd hlen hv
          · split at h
            · rename_i q hq
              obtain ⟨N, av, rest⟩ := q
              split at h
              · cases h
              · rename_i d
                split at h
                · rename_i hfit
                  obtain ⟨hcat, hav⟩ := hfit
                  dsimp only at hcat hav h
                  -- the callee's run
                  have call : ∀ (o1 : px_Out) (G1 : px_G), px_run cl fty PM na V n d N (0, lv_args 0 av, []) G = some (o1, G1) → px_le G1 G' →
                      (∀ (T' : State) (L : List Loc), Stand p l e R s m args below meth c T' (locs ++ L) (cells + (G1.1.length - G.1.length)) (slots + (G1.2 - G.2)) → (∀ q ∈ L, base ≤ q.base) → px_I base ext tA D cl H0 G1 T'.heap (locs ++ L) → px_N base n0 s0 G1 s (cells + (G1.1.length - G.1.length)) (slots + (G1.2 - G.2)) →
                        ∃ t, Steps p.tables e below (px_after (F0 m S.1 ls (rest.map (px_rv base ext))) T' (px_o base ext o1)) t ∧ px_Qn base ext tA D cl H0 below s out G' n0 s0 t) →
                      W p l e R s m args below meth c H locs cells slots (px_Qn base ext tA D cl H0 below s out G' n0 s0) (F0 m S.1 ls (S.2.2.map (px_rv base ext))) := by
                    intro o1 G1 hrun hle1 kk T hT X
                    have hI' : px_I base ext tA D cl H0 G T.heap locs := by rw [hT]; exact hI
                    obtain ⟨hmem, hl3, vm₁, mk, hW₁, hnm, X₁, hstep⟩ := px_link (ls := ls) hPM hM X C hE.2.1 hE.1 hI' hd hlen hq
                    subst hl3
                    have hleN := px_run_le n d N _ G o1 G1 hrun
                    obtain ⟨hNm, hNc⟩ := hPM N hmem
                    have hmet := px_met (l := l) (na := na) (V := V) hNc hav hleN (ih d N _ G o1 G1 hNm hrun) base ext tA D H0
                    obtain ⟨e1, e2, e3⟩ := hN
                    have hz := px_size X hT hI ⟨e1, e2, e3⟩
                    have hnm' : (T.setVm vm₁).methodNamed? (px_my N) = some mk := X₁.named hnm
                    have hle2 := hle1
                    have r1 : cells + (G1.1.length - G.1.length) ≤ R.cells := by have := hle2.1; have := hleN.1; omega
                    have r2 : slots + (G1.2 - G.2) ≤ R.slots := by have := hle2.2; have := hleN.2; omega
                    obtain ⟨o, t, T', L, X', hL, t1, t2, ⟨⟨rfl, t3⟩, hst⟩⟩ := px_back (R := R) hmet X₁ (g := { F0 m S.1 ls (S.2.2.map (px_rv base ext)) with stack := rest.map (px_rv base ext) }) rfl hls (by rw [C.2.1]; exact hd)
                      (by show 2 * 0 + _ ≤ 8; rw [px_cats]; omega) hnm' (by show d + 8 + 1 ≤ R.frames; omega) (by have := hNc.2.2.2.2; show 8 + (px_ml N + 11) + (42 * d + 200) ≤ R.locals; omega) r1 r2 (a := (av.map (px_rv base ext)).toArray)
                      (fun w hw => hgood w hw s args _ (T.setVm vm₁) X₁.warmed (C.2.2.2.2.2.1 w hw)) hNc.1 hNc.2.1
                      ⟨rfl, hE.moved (U := (T.setVm vm₁).calling _ mk _) hW₁, by show px_I base ext tA D cl H0 G T.heap []; exact hI'.bare, by show T.heap.size = _; rw [hT]; exact hz⟩
                    have hI1 : px_I base ext tA D cl H0 G1 T'.heap (locs ++ L) := by
                      rw [t1]
                      refine t3.dress (fun q hq => ?_)
                      rcases List.mem_append.mp hq with z | z
                      · exact hI.2.2.2.2 q z
                      · exact hL q z
                    obtain ⟨t', a1, b1⟩ := kk T' L X' hL hI1 ⟨e1, by have := hleN.1; omega, by have := hleN.2; omega⟩
                    exact ⟨t', hstep _ (hst.trans a1), b1⟩
                  split at h
                  · rename_i v G1 hrun
                    have hle1 := px_run_le n (d + 1) M _ G1 out G' h
                    refine call (.inl v) G1 hrun hle1 (fun T' L X' hL hI1 hN1 => ?_)
                    have K := ih (d + 1) M (S.1 + 3, S.2.1, v.toList ++ rest) G1 out G' hM h p e s m args below meth c base ext tA D H0 n0 s0 R T'.heap (locs ++ L) _ _ ls C hE hI1 hN1 hl hRf hRl hRc hRs T' rfl X'
                    have hst : (v.toList ++ rest).map (px_rv base ext) = (v.map (px_rv base ext)).toList ++ rest.map (px_rv base ext) := by cases v <;> simp
                    rw [hst] at K
                    exact K
                  · rename_i x G1 hrun
                    split at h
                    · rename_i ci fs hg
                      split at h
                      · rename_i hok
                        split at h
                        · rename_i hpc hfd
                          have hle1 := px_run_le n (d + 1) M _ G1 out G' h
                          refine call (.inr x) G1 hrun hle1 (fun T' L X' hL hI1 hN1 => ?_)
                          obtain ⟨r0, hr0, cell, g1, g2, g3, -⟩ := hI1.2.1 x _ (px_ws_at hg)
                          have hKn := hE.1.1 ci r0 hr0
                          have hpl : e.platform.magicAccessors = ({} : Platform).magicAccessors := by rw [X'.admits.platform]
                          have hobj : ∀ k, cell.vm ≠ .statics k := fun k hk => by rw [g3] at hk; cases hk
                          obtain ⟨kC, hkC, -⟩ := hKn.2.2
                          let g : JFrame := F0 m S.1 ls (rest.map (px_rv base ext))
                          have hsr := px_srch (e := e) (f := g) (a := base + x) (s := s) hpl (own := (px_my M).cls) C.2.2.2.2.1 (args := args) (b := fun y => px_tk M ci y.catchType) (cell := cell) hobj ⟨kC, by rw [g2]; exact hkC⟩ c.exceptionTable.toList ((T'.setTop g).pushFrame (.throwing (base + x)))
                            (by rw [Stand.throwing_vm]; exact X'.warmed) (by rw [Stand.throwing_heap]; exact g1)
                            (fun y hy hcov => by
                              have h1 := List.all_eq_true.mp hok (y.startPc, y.endPc, y.handlerPc, y.catchType) (by rw [← C.2.2.2.2.2.2.2.2]; exact List.mem_map.mpr ⟨y, hy, rfl⟩)
                              have hcv : px_cov S.1 (y.startPc, y.endPc, y.handlerPc, y.catchType) = true := hcov
                              rw [hcv] at h1
                              simp only [Bool.not_true, Bool.false_or] at h1
                              split at h1
                              · rename_i cj z1 z2 hmx
                                simp only [Bool.and_eq_true, bne_iff_ne, ne_eq, Bool.or_eq_true, beq_iff_eq] at h1
                                obtain ⟨r2, w1, w2, w3, w4, w5, w6⟩ := (hM.2 _ _ hmx).2
                                have hK2 := hE.1.1 cj r2 w1
                                refine ⟨h1.1, r2.1, D.1 cj, C.2.2.2.2.2.1 _ w4, hK2.2.1, ?_⟩
                                have htk : px_tk M ci y.catchType = (ci == cj) := by unfold px_tk; rw [hmx]; rfl
                                rw [htk, g2]
                                by_cases hcc : ci = cj
                                · subst hcc
                                  rw [va_assign hK2.2]
                                  simp
                                · rw [hE.2.2.2 ci cj (h1.2.resolve_left hcc)]
                                  simp [hcc]
                              · cases h1)
                          obtain ⟨vm', hW', hgo⟩ := hsr
                          have hfe : px_fd (fun y => px_tk M ci y.catchType) g.pc c.exceptionTable.toList = some hpc := by
                            rw [px_fd_eq, C.2.2.2.2.2.2.2.2]
                            exact hfd
                          rw [hfe] at hgo
                          have K := ih (d + 1) M (hpc, S.2.1, [.ref x]) G1 out G' hM h p e s m args below meth c base ext tA D H0 n0 s0 R T'.heap (locs ++ L) _ _ ls C hE hI1 hN1 hl hRf hRl hRc hRs (T'.setVm vm') rfl (X'.noted hW')
                          obtain ⟨t, a1, b1⟩ := K
                          refine ⟨t, ?_, b1⟩
                          have hmeth : ((T'.setTop g).pushFrame (.throwing (base + x))).vm.method? g.method = some meth := by rw [Stand.throwing_vm]; exact X'.method'
                          have hAt : At T' g.method c below := X'.here
                          exact px_caught hAt (vm' := vm') (pc := hpc) (fun Q E dd acts => by rw [W.findHandler_eq hmeth X'.code]; exact hgo Q E dd acts) a1
                        · split at h
                          · rename_i hnoc
                            cases h
                            refine call (.inr x) G' hrun (px_le.rf _) (fun T' L X' hL hI1 hN1 => ?_)
                            obtain ⟨k1, k2, k3, k4, k5⟩ := X'.leaveThrown (base + x) (g := F0 m S.1 ls (rest.map (px_rv base ext))) rfl rfl rfl (px_cov_eq C.2.2.2.2.2.2.2.2 hnoc) C.2.2.2.2.2.2.1
                            refine ⟨_, k1, k2, k3, ⟨locs ++ L, ⟨k4, ?_⟩, hI1.2.2.2.2⟩, ?_⟩
                            · obtain ⟨e1, e2, e3⟩ := hN1
                              rw [show G'.1.length - n0 = cells + (G'.1.length - G.1.length) by omega, show G'.2 - s0 = slots + (G'.2 - G.2) by omega]
                              exact k5
                            · exact hI1.bare
                          · cases h
                      · cases h
                    · cases h
                  · cases h
                · cases h
            · split at h
              · rename_i ci hthr
                cases h
                obtain ⟨idx, js, ic, k, x, tx, w1, w2, w3, w4, w5, w6, w7, w8, d0, d3, d4, d6, d9, hnoc, hcat⟩ := px_thr_spec hM hthr
                intro T hT X
                have hthrow := px_thrown (l := l) (below := below) (R := R) (locs := locs) (ls := ls) (st := S.2.2.map (px_rv base ext)) C hgood hE.2.2.1 (htr e X.admits) hE.1 hI hN w1 w2 w3 w4 w5 w6 w7 w8 d0 d3 d4 d6 d9 (px_cov_eq C.2.2.2.2.2.2.2.2 hnoc) hls (by rw [px_cats]; exact hcat) (by omega) (by omega)
                  (by have : (G.1 ++ [_]).length ≤ _ := hRc; simpa using this) hRs
                obtain ⟨t, a1, b1, b2, b3, b4⟩ := hthrow T hT X
                refine ⟨t, a1, b1, b2, ⟨locs ++ [], ?_, by simpa using hI.2.2.2.2⟩, b4.bare⟩
                obtain ⟨e1, e2, e3⟩ := hN
                have q1 : (G.1 ++ [(.inr (ci, []) : px_E)]).length - n0 = cells + 1 := by simp; omega
                have q2 : G.2 + 6 - s0 = slots + 6 := by omega
                show px_End s t (locs ++ []) ((G.1 ++ [(.inr (ci, []) : px_E)]).length - n0) (G.2 + 6 - s0)
                rw [q1, q2]
                exact b3
              · cases h
end PXM
end
section
/-! ===== runs put together: more steps do no harm; a run that doesn't see the script sees none ===== -/
section PXE
variable {cl : List vw_C} {fty : Nat → Nat → FieldType} {PM : List px_M} {na : Nat → Nat → Bool} {V : px_V}
/-- a run comes to an end -/
def px_ev (cl : List vw_C) (fty : Nat → Nat → FieldType) (PM : List px_M) (na : Nat → Nat → Bool) (V : px_V) (d : Nat) (M : px_M) (S : px_S) (G : px_G) (out : px_Out) (G' : px_G) : Prop := ∃ n, px_run cl fty PM na V n d M S G = some (out, G')
theorem px_run_s (n d : Nat) (M : px_M) (S : px_S) (G : px_G) : px_run cl fty PM na V (n + 1) d M S G = px_body cl fty PM na V (px_run cl fty PM na V n) d M S G := rfl
/-- one step over a longer and a shorter run -/
theorem px_body_up {f g : px_F} (h : ∀ d M S G r, f d M S G = some r → g d M S G = some r) {d : Nat} {M : px_M} {S : px_S} {G : px_G} {r : px_Out × px_G} (hb : px_body cl fty PM na V f d M S G = some r) : px_body cl fty PM na V g d M S G = some r := by
  unfold px_body at hb ⊢
  split at hb
  · cases hb
  · rename_i i hi
    try rw [hi]
    try dsimp only
    split at hb
    · rename_i S' hp
      try rw [hp]
      exact h _ _ _ _ _ hb
    · rename_i hp
      try rw [hp]
      try dsimp only
      split at hb
      · rename_i q hq
        try rw [hq]
        exact h _ _ _ _ _ hb
      · rename_i hq
        try rw [hq]
        try dsimp only
        split at hb
        · rename_i v hv
          try rw [hv]
          exact hb
        · rename_i hv
          try rw [hv]
          try dsimp only
          split at hb
          · rename_i q hq
            try rw [hq]
            try dsimp only
            split at hb
            · cases hb
            · split at hb
              · rename_i hc
                try rw [if_pos hc]
                split at hb
                · rename_i v G1 hr
                  rw [h _ _ _ _ _ hr]
                  exact h _ _ _ _ _ hb
                · rename_i x G1 hr
                  rw [h _ _ _ _ _ hr]
                  try dsimp only
                  split at hb
                  · rename_i ci fs hg
                    try rw [hg]
                    try dsimp only
                    split at hb
                    · rename_i hok
                      try rw [if_pos hok]
                      split at hb
                      · rename_i pc hf
                        try rw [hf]
                        exact h _ _ _ _ _ hb
                      · rename_i hf
                        try rw [hf]
                        exact hb
                    · cases hb
                  · cases hb
                · cases hb
              · cases hb
          · rename_i hq
            try rw [hq]
            exact hb
theorem px_run_up1 : ∀ (n d : Nat) (M : px_M) (S : px_S) (G : px_G) (r : px_Out × px_G), px_run cl fty PM na V n d M S G = some r → px_run cl fty PM na V (n + 1) d M S G = some r := by
  intro n
  induction n with
  | zero => intro d M S G r h; cases h
  | succ n ih =>
    intro d M S G r h
    rw [px_run_s] at h ⊢
    exact px_body_up ih h
theorem px_run_up (n k d : Nat) (M : px_M) (S : px_S) (G : px_G) (r : px_Out × px_G) (h : px_run cl fty PM na V n d M S G = some r) : px_run cl fty PM na V (n + k) d M S G = some r := by
  induction k with
  | zero => exact h
  | succ k ih => exact px_run_up1 _ _ _ _ _ _ ih
theorem px_heap_V {i : Instr} {M : px_M} {pc : Nat} {lv : px_L} {st : List Value} {G : px_G} {w : Option (Nat × (Nat → Int32))} : px_heap cl fty (none, V.2) M i pc lv st G = px_heap cl fty (w, V.2) M i pc lv st G ∨ (px_heap cl fty (none, V.2) M i pc lv st G = none ∧ (i = .iaload ∨ i = .arraylength)) := by
  cases i <;> first | exact Or.inl rfl | skip
  · -- arraylength
    simp only [px_heap]
    unfold px_aln
    split
    · exact Or.inl rfl
    · rename_i j r
      by_cases hj : j = 0
      · refine Or.inr ⟨?_, by simp⟩
        rw [if_pos hj]
      · rw [if_neg hj, if_neg hj]
        exact Or.inl rfl
    · exact Or.inl rfl
  · -- iaload
    simp only [px_heap]
    unfold px_ldi
    split
    · exact Or.inl rfl
    · rename_i i j r
      by_cases hj : j = 0
      · refine Or.inr ⟨?_, by simp⟩
        rw [if_pos hj]
      · rw [if_neg hj, if_neg hj]
        exact Or.inl rfl
    · exact Or.inl rfl
theorem px_inv_V {i : Instr} {M : px_M} {st : List Value} {G : px_G} {w : Option (Nat × (Nat → Int32))} : px_inv (none, V.2) cl PM M i st G = px_inv (w, V.2) cl PM M i st G := rfl
theorem px_run_V (w : Option (Nat × (Nat → Int32))) : ∀ (n d : Nat) (M : px_M) (S : px_S) (G : px_G) (r : px_Out × px_G), px_run cl fty PM na (none, V.2) n d M S G = some r → px_run cl fty PM na (w, V.2) n d M S G = some r := by
  intro n
  induction n with
  | zero => intro d M S G r h; cases h
  | succ n ih =>
    intro d M S G r h
    rw [px_run_s] at h ⊢
    replace h := px_body_up ih h
    unfold px_body at h ⊢
    split at h
    · cases h
    · rename_i i hi
      try rw [hi]
      try dsimp only
      split at h
      · rename_i S' hp
        try rw [hp]
        exact h
      · rename_i hp
        try rw [hp]
        try dsimp only
        rcases px_heap_V (cl := cl) (fty := fty) (V := V) (i := i) (M := M) (pc := S.1) (lv := S.2.1) (st := S.2.2) (G := G) (w := w) with e | ⟨e, ei⟩
        · rw [← e]
          exact h
        · rw [e] at h
          exfalso
          rcases ei with rfl | rfl
          · simp only [px_ret, px_inv] at h
            have ht : px_thr cl M S.1 S.2.2 = none := by unfold px_thr; rw [hi]
            rw [ht] at h
            cases h
          · simp only [px_ret, px_inv] at h
            have ht : px_thr cl M S.1 S.2.2 = none := by unfold px_thr; rw [hi]
            rw [ht] at h
            cases h
end PXE
section PXQ
variable {cl : List vw_C} {fty : Nat → Nat → FieldType} {PM : List px_M} {na : Nat → Nat → Bool} {V : px_V} {d pc : Nat} {M : px_M} {lv : px_L} {st : List Value} {G G' : px_G} {out : px_Out} {i : Instr} {S' : px_S}
/-- a closed run, counted -/
theorem px_ev.of {n : Nat} {S : px_S} (h : px_run cl fty PM na (none, V.2) n d M S G = some (out, G')) : px_ev cl fty PM na V d M S G out G' := ⟨n, by have := px_run_V (V := V) V.1 n d M S G _ h; exact this⟩
theorem px_ev.p (hi : px_mi M pc = some i) (hp : px_pure (px_ml M) i pc lv st = some S') (k : px_ev cl fty PM na V d M S' G out G') : px_ev cl fty PM na V d M (pc, lv, st) G out G' := by
  obtain ⟨n, hn⟩ := k
  refine ⟨n + 1, ?_⟩
  rw [px_run_s]
  unfold px_body
  simp only [hi, hp]
  exact hn
theorem px_ev.h (hi : px_mi M pc = some i) (hp : px_pure (px_ml M) i pc lv st = none) {G1 : px_G} (hh : px_heap cl fty V M i pc lv st G = some (S', G1)) (k : px_ev cl fty PM na V d M S' G1 out G') : px_ev cl fty PM na V d M (pc, lv, st) G out G' := by
  obtain ⟨n, hn⟩ := k
  refine ⟨n + 1, ?_⟩
  rw [px_run_s]
  unfold px_body
  simp only [hi, hp, hh]
  exact hn
theorem px_ev.r (hi : px_mi M pc = some i) (hp : px_pure (px_ml M) i pc lv st = none) (hh : px_heap cl fty V M i pc lv st G = none) {v : Option Value} (hr : px_ret M i st = some v) : px_ev cl fty PM na V d M (pc, lv, st) G (.inl v) G := by
  refine ⟨1, ?_⟩
  rw [px_run_s]
  unfold px_body
  simp only [hi, hp, hh, hr]
theorem px_ev.c (hi : px_mi M pc = some i) (hp : px_pure (px_ml M) i pc lv st = none) (hh : px_heap cl fty V M i pc lv st G = none) (hr : px_ret M i st = none) {N : px_M} {av rest : List Value} (hv : px_inv V cl PM M i st G = some (N, av, rest)) (hc : (rest.map fun v => v.category).sum ≤ 8 ∧ (lg_sl av).length ≤ px_ml N)
    {v : Option Value} {G1 : px_G} (k1 : px_ev cl fty PM na V d N (0, lv_args 0 av, []) G (.inl v) G1) (k : px_ev cl fty PM na V (d + 1) M (pc + 3, lv, v.toList ++ rest) G1 out G') : px_ev cl fty PM na V (d + 1) M (pc, lv, st) G out G' := by
  obtain ⟨n1, h1⟩ := k1
  obtain ⟨n2, h2⟩ := k
  refine ⟨(n1 + n2) + 1, ?_⟩
  rw [px_run_s]
  unfold px_body
  simp only [hi, hp, hh, hr, hv]
  rw [if_pos hc, px_run_up n1 n2 _ _ _ _ _ h1]
  dsimp only
  rw [Nat.add_comm n1 n2]
  exact px_run_up n2 n1 _ _ _ _ _ h2
/-- a call whose exception is caught here -/
theorem px_ev.x (hi : px_mi M pc = some i) (hp : px_pure (px_ml M) i pc lv st = none) (hh : px_heap cl fty V M i pc lv st G = none) (hr : px_ret M i st = none) {N : px_M} {av rest : List Value} (hv : px_inv V cl PM M i st G = some (N, av, rest)) (hc : (rest.map fun v => v.category).sum ≤ 8 ∧ (lg_sl av).length ≤ px_ml N)
    {x : Nat} {G1 : px_G} (k1 : px_ev cl fty PM na V d N (0, lv_args 0 av, []) G (.inr x) G1) {ci : Nat} {fs : List Value} (hg : G1.1[x]? = some (.inr (ci, fs))) (hok : px_hok M na pc ci = true) {hpc : Nat} (hf : px_hfd M pc ci (px_mh M) = some hpc)
    (k : px_ev cl fty PM na V (d + 1) M (hpc, lv, [.ref x]) G1 out G') : px_ev cl fty PM na V (d + 1) M (pc, lv, st) G out G' := by
  obtain ⟨n1, h1⟩ := k1
  obtain ⟨n2, h2⟩ := k
  refine ⟨(n1 + n2) + 1, ?_⟩
  rw [px_run_s]
  unfold px_body
  simp only [hi, hp, hh, hr, hv]
  rw [if_pos hc, px_run_up n1 n2 _ _ _ _ _ h1]
  dsimp only
  rw [hg]
  dsimp only
  rw [if_pos hok, hf]
  dsimp only
  rw [Nat.add_comm n1 n2]
  exact px_run_up n2 n1 _ _ _ _ _ h2
/-- a call whose exception goes on -/
theorem px_ev.o (hi : px_mi M pc = some i) (hp : px_pure (px_ml M) i pc lv st = none) (hh : px_heap cl fty V M i pc lv st G = none) (hr : px_ret M i st = none) {N : px_M} {av rest : List Value} (hv : px_inv V cl PM M i st G = some (N, av, rest)) (hc : (rest.map fun v => v.category).sum ≤ 8 ∧ (lg_sl av).length ≤ px_ml N)
    {x : Nat} {G1 : px_G} (k1 : px_ev cl fty PM na V d N (0, lv_args 0 av, []) G (.inr x) G1) {ci : Nat} {fs : List Value} (hg : G1.1[x]? = some (.inr (ci, fs))) (hm : px_mh M = []) : px_ev cl fty PM na V (d + 1) M (pc, lv, st) G (.inr x) G1 := by
  obtain ⟨n1, h1⟩ := k1
  refine ⟨n1 + 1, ?_⟩
  rw [px_run_s]
  unfold px_body
  simp only [hi, hp, hh, hr, hv]
  rw [if_pos hc, h1]
  dsimp only
  rw [hg]
  dsimp only
  have e1 : px_hok M na pc ci = true := by unfold px_hok; rw [hm]; rfl
  have e2 : px_hfd M pc ci (px_mh M) = none := by rw [hm]; rfl
  have e3 : px_noc M pc = true := by unfold px_noc; rw [hm]; rfl
  rw [if_pos e1, e2]
  dsimp only
  rw [if_pos e3]
/-- a new exception -/
theorem px_ev.t (hi : px_mi M pc = some i) (hp : px_pure (px_ml M) i pc lv st = none) (hh : px_heap cl fty V M i pc lv st G = none) (hr : px_ret M i st = none) (hv : px_inv V cl PM M i st G = none) {ci : Nat} (ht : px_thr cl M pc st = some ci) :
    px_ev cl fty PM na V d M (pc, lv, st) G (.inr G.1.length) (G.1 ++ [.inr (ci, [])], G.2 + 6) := by
  refine ⟨1, ?_⟩
  rw [px_run_s]
  unfold px_body
  simp only [hi, hp, hh, hr, hv, ht]
end PXQ
/-! trees: a table of rows by their numbers -/
def px_nd {α : Type} (k : Nat) (l r : Nat → Option α) : Nat → Option α := fun q => bif Nat.blt q k then l q else r q
def px_lf {α : Type} (k : Nat) (a : α) : Nat → Option α := fun q => bif Nat.beq q k then some a else none
def px_no {α : Type} : Nat → Option α := fun _ => none
def px_all {α : Type} (P : Nat → α → Prop) (f : Nat → Option α) : Prop := ∀ q a, f q = some a → P q a
theorem px_all.nd {α : Type} {P : Nat → α → Prop} {k : Nat} {l r : Nat → Option α} (hl : px_all P l) (hr : px_all P r) : px_all P (px_nd k l r) := by
  intro q a h
  unfold px_nd at h
  cases hb : Nat.blt q k with
  | true => rw [hb] at h; exact hl q a h
  | false => rw [hb] at h; exact hr q a h
theorem px_all.lf {α : Type} {P : Nat → α → Prop} {k : Nat} {a : α} (h : P k a) : px_all P (px_lf k a) := by
  intro q b hq
  unfold px_lf at hq
  cases hb : Nat.beq q k with
  | true =>
    rw [hb] at hq
    have : q = k := Nat.eq_of_beq_eq_true hb
    subst this
    cases hq
    exact h
  | false => rw [hb] at hq; cases hq
theorem px_all.no {α : Type} {P : Nat → α → Prop} : px_all P px_no := fun _ _ h => by cases h
/-- a row is the code's -/
def px_row (cc : ByteArray) (pc : Nat) (i : Instr) : Prop := ∃ n, decode cc pc = .ok (i, n) ∧ (px_sw i = false → n = px_len i)
theorem px_row.of {cc : ByteArray} {pc : Nat} {i : Instr} (h : decode cc pc = .ok (i, px_len i)) : px_row cc pc i := ⟨_, h, fun _ => rfl⟩
theorem px_row.sw {cc : ByteArray} {pc n : Nat} {i : Instr} (h : decode cc pc = .ok (i, n)) (hs : px_sw i = true) : px_row cc pc i := ⟨_, h, fun h2 => by rw [hs] at h2; cases h2⟩
end
