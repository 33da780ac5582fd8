/-! A small machine beside the machine: cells by their place, values with places for addresses. Its runs are functions; part 04 and on say that the machine does what they say. -/
/-- a cell: an array (its kind, its length, what it holds) or an object (its class, its fields) -/
abbrev mj_E : Type := (Nat × Nat × (Nat → Value)) ⊕ (Nat × List Value)
abbrev mj_H : Type := List mj_E
/-- an instruction, and what it was resolved to -/
abbrev mj_I : Type := Instr × Nat × Nat × Nat × Nat × Nat
abbrev mj_L : Type := List (Option Value)
/-- where a run goes on -/
abbrev mj_S : Type := Nat × mj_L × List Value × mj_H
/-- how a method ends: with a value or none, or by the exception of that number -/
abbrev mj_R : Type := (Option Value ⊕ Nat) × mj_H
def mj_st1 (loc : mj_L) (i : Nat) (v : Value) : mj_L :=
  (match i with
  | 0 => loc
  | j + 1 => match loc[j]? with
    | some (some (.long _)) => loc.set j none
    | some (some (.double _)) => loc.set j none
    | _ => loc).set i (some v)
def mj_st2 (loc : mj_L) (i : Nat) (v : Value) : mj_L := (mj_st1 loc i v).set (i + 1) none
/-- an index that lies in an array of n places -/
def mj_in (i : Int32) (n : Nat) : Bool := decide (0 ≤ i) && Nat.blt i.toNatClampNeg n
/-- what a field of that kind takes: 0 int, 1 long, 2 boolean, 3 a reference -/
def mj_fit (k : Nat) (v : Value) : Bool := match k, v with
  | 0, .int _ => true
  | 1, .long _ => true
  | 2, .int x => decide (x = 0) || decide (x = 1)
  | 3, .ref _ => true
  | _, _ => false
def mj_load1 (loc : mj_L) (i : Nat) : Option Value := match loc[i]? with
  | some (some (.int x)) => some (.int x)
  | _ => none
def mj_loadL (loc : mj_L) (i : Nat) : Option Value := match loc[i]? with
  | some (some (.long x)) => some (.long x)
  | _ => none
def mj_loadD (loc : mj_L) (i : Nat) : Option Value := match loc[i]? with
  | some (some (.double x)) => some (.double x)
  | _ => none
def mj_loadA (loc : mj_L) (i : Nat) : Option Value := match loc[i]? with
  | some (some (.ref x)) => some (.ref x)
  | _ => none
def mj_cnd (c : ClassFile.Cond) (x y : Int32) : Bool := match c with
  | .eq => decide (x = y)
  | .ne => !decide (x = y)
  | .lt => decide (x < y)
  | .ge => decide (y ≤ x)
  | .gt => decide (y < x)
  | .le => decide (x ≤ y)
/-- the class whose objects an array of that kind holds -/
def mj_el (t : Nat) : Option Nat := match t with
  | 3 => some 0
  | 4 => some 3
  | 5 => some 8
  | _ => none
def mj_isref (t : Nat) : Bool := match t with
  | 3 => true
  | 4 => true
  | 5 => true
  | 6 => true
  | _ => false
def mj_df (t : Nat) : Value := match t with
  | 1 => .long 0
  | 0 => .int 0
  | 2 => .int 0
  | _ => .null
/-- the bytes of a place of an array of that kind -/
def mj_by (t : Nat) : Nat := match t with
  | 0 => 4
  | 1 => 8
  | 2 => 1
  | _ => 4
def mj_rows (n k z : Nat) : mj_H := (List.range n).map (fun _ => .inl (1, k, fun _ => .long 0))
/-- one step that stays in its method -/
def mj_step (ins : Instr) (r1 r2 r3 : Nat) (flds : Nat → List Value) (pc : Nat) (loc : mj_L) (st : List Value) (h : mj_H) : Option mj_S :=
  match ins with
  | .iconst n => some (pc + 1, loc, .int (Int32.ofInt n) :: st, h)
  | .bipush n => some (pc + 2, loc, .int (Int32.ofInt n) :: st, h)
  | .sipush n => some (pc + 3, loc, .int (Int32.ofInt n) :: st, h)
  | .lconst n => some (pc + 1, loc, .long (Int64.ofNat n.val) :: st, h)
  | .ldc _ => some (pc + 2, loc, (match r2 with | 0 => .int (Int32.ofNat r1) | _ => .float (UInt32.ofNat r1)) :: st, h)
  | .ldc_w _ => some (pc + 3, loc, (match r2 with | 0 => .int (Int32.ofNat r1) | _ => .float (UInt32.ofNat r1)) :: st, h)
  | .ldc2_w _ => some (pc + 3, loc, (match r2 with | 0 => .long (Int64.ofNat r1) | _ => .double (UInt64.ofNat r1)) :: st, h)
  | .iload_n n => (mj_load1 loc n.val).map fun v => (pc + 1, loc, v :: st, h)
  | .iload n => (mj_load1 loc n).map fun v => (pc + 2, loc, v :: st, h)
  | .lload_n n => (mj_loadL loc n.val).map fun v => (pc + 1, loc, v :: st, h)
  | .lload n => (mj_loadL loc n).map fun v => (pc + 2, loc, v :: st, h)
  | .dload_n n => (mj_loadD loc n.val).map fun v => (pc + 1, loc, v :: st, h)
  | .dload n => (mj_loadD loc n).map fun v => (pc + 2, loc, v :: st, h)
  | .aload_n n => (mj_loadA loc n.val).map fun v => (pc + 1, loc, v :: st, h)
  | .aload n => (mj_loadA loc n).map fun v => (pc + 2, loc, v :: st, h)
  | .istore_n n => match st with
    | .int x :: st => if n.val < loc.length then some (pc + 1, mj_st1 loc n.val (.int x), st, h) else none
    | _ => none
  | .istore n => match st with
    | .int x :: st => if n < loc.length then some (pc + 2, mj_st1 loc n (.int x), st, h) else none
    | _ => none
  | .astore_n n => match st with
    | .ref x :: st => if n.val < loc.length then some (pc + 1, mj_st1 loc n.val (.ref x), st, h) else none
    | _ => none
  | .astore n => match st with
    | .ref x :: st => if n < loc.length then some (pc + 2, mj_st1 loc n (.ref x), st, h) else none
    | _ => none
  | .lstore_n n => match st with
    | .long x :: st => if n.val + 1 < loc.length then some (pc + 1, mj_st2 loc n.val (.long x), st, h) else none
    | _ => none
  | .lstore n => match st with
    | .long x :: st => if n + 1 < loc.length then some (pc + 2, mj_st2 loc n (.long x), st, h) else none
    | _ => none
  | .dstore_n n => match st with
    | .double x :: st => if n.val + 1 < loc.length then some (pc + 1, mj_st2 loc n.val (.double x), st, h) else none
    | _ => none
  | .dstore n => match st with
    | .double x :: st => if n + 1 < loc.length then some (pc + 2, mj_st2 loc n (.double x), st, h) else none
    | _ => none
  | .iinc n c => match loc[n]? with
    | some (some (.int x)) => some (pc + 3, mj_st1 loc n (.int (x + Int32.ofInt c)), st, h)
    | _ => none
  | .iadd => match st with
    | .int y :: .int x :: st => some (pc + 1, loc, .int (x + y) :: st, h)
    | _ => none
  | .isub => match st with
    | .int y :: .int x :: st => some (pc + 1, loc, .int (x - y) :: st, h)
    | _ => none
  | .imul => match st with
    | .int y :: .int x :: st => some (pc + 1, loc, .int (x * y) :: st, h)
    | _ => none
  | .idiv => match st with
    | .int y :: .int x :: st => if y = 0 then none else some (pc + 1, loc, .int (x / y) :: st, h)
    | _ => none
  | .irem => match st with
    | .int y :: .int x :: st => if y = 0 then none else some (pc + 1, loc, .int (x - x / y * y) :: st, h)
    | _ => none
  | .ineg => match st with
    | .int x :: st => some (pc + 1, loc, .int (-x) :: st, h)
    | _ => none
  | .iand => match st with
    | .int y :: .int x :: st => some (pc + 1, loc, .int (x &&& y) :: st, h)
    | _ => none
  | .ishr => match st with
    | .int y :: .int x :: st => some (pc + 1, loc, .int (x >>> (y &&& 31)) :: st, h)
    | _ => none
  | .iushr => match st with
    | .int y :: .int x :: st => some (pc + 1, loc, .int ((x.toUInt32 >>> (y.toUInt32 &&& Int32.toUInt32 31)).toInt32) :: st, h)
    | _ => none
  | .ladd => match st with
    | .long y :: .long x :: st => some (pc + 1, loc, .long (x + y) :: st, h)
    | _ => none
  | .lsub => match st with
    | .long y :: .long x :: st => some (pc + 1, loc, .long (x - y) :: st, h)
    | _ => none
  | .lmul => match st with
    | .long y :: .long x :: st => some (pc + 1, loc, .long (x * y) :: st, h)
    | _ => none
  | .ldiv => match st with
    | .long y :: .long x :: st => if y = 0 then none else some (pc + 1, loc, .long (x / y) :: st, h)
    | _ => none
  | .lrem => match st with
    | .long y :: .long x :: st => if y = 0 then none else some (pc + 1, loc, .long (x - x / y * y) :: st, h)
    | _ => none
  | .lneg => match st with
    | .long x :: st => some (pc + 1, loc, .long (-x) :: st, h)
    | _ => none
  | .land => match st with
    | .long y :: .long x :: st => some (pc + 1, loc, .long (x &&& y) :: st, h)
    | _ => none
  | .lor => match st with
    | .long y :: .long x :: st => some (pc + 1, loc, .long (x ||| y) :: st, h)
    | _ => none
  | .lshl => match st with
    | .int y :: .long x :: st => some (pc + 1, loc, .long (x <<< (y.toInt64 &&& 63)) :: st, h)
    | _ => none
  | .lcmp => match st with
    | .long y :: .long x :: st => some (pc + 1, loc, .int (lg_cmp x y) :: st, h)
    | _ => none
  | .i2l => match st with
    | .int x :: st => some (pc + 1, loc, .long x.toInt64 :: st, h)
    | _ => none
  | .l2i => match st with
    | .long x :: st => some (pc + 1, loc, .int x.toInt32 :: st, h)
    | _ => none
  | .i2b => match st with
    | .int x :: st => some (pc + 1, loc, .int x.toInt8.toInt32 :: st, h)
    | _ => none
  | .dup => match st with
    | .int x :: st => some (pc + 1, loc, .int x :: .int x :: st, h)
    | .ref x :: st => some (pc + 1, loc, .ref x :: .ref x :: st, h)
    | _ => none
  | .dup2 => match st with
    | .int x :: .ref y :: st => some (pc + 1, loc, .int x :: .ref y :: .int x :: .ref y :: st, h)
    | _ => none
  | .pop => match st with
    | .int _ :: st => some (pc + 1, loc, st, h)
    | .ref _ :: st => some (pc + 1, loc, st, h)
    | _ => none
  | .pop2 => match st with
    | .long _ :: st => some (pc + 1, loc, st, h)
    | .double _ :: st => some (pc + 1, loc, st, h)
    | _ => none
  | .goto _ => some (r1, loc, st, h)
  | .ifCond c _ => match st with
    | .int x :: st => some (if mj_cnd c x 0 then r1 else pc + 3, loc, st, h)
    | _ => none
  | .if_icmp c _ => match st with
    | .int y :: .int x :: st => some (if mj_cnd c x y then r1 else pc + 3, loc, st, h)
    | _ => none
  | .tableswitch dflt lo hi offs => match st with
    | .int x :: st =>
      if x.toInt < lo ∨ hi < x.toInt then (if 0 ≤ (pc : Int) + dflt then some (((pc : Int) + dflt).toNat, loc, st, h) else none)
      else match offs[(x.toInt - lo).toNat]? with
        | some off => if 0 ≤ (pc : Int) + off then some (((pc : Int) + off).toNat, loc, st, h) else none
        | none => none
    | _ => none
  | .i2f => match st with
    | .int x :: st => some (pc + 1, loc, .float (FP.i2f x) :: st, h)
    | _ => none
  | .i2d => match st with
    | .int x :: st => some (pc + 1, loc, .double (FP.i2d x) :: st, h)
    | _ => none
  | .fdiv => match st with
    | .float y :: .float x :: st => if FP.fdiv x y &&& 0x7fffffff ≤ 0x7f800000 then some (pc + 1, loc, .float (FP.fdiv x y) :: st, h) else none
    | _ => none
  | .ddiv => match st with
    | .double y :: .double x :: st => if FP.ddiv x y &&& 0x7fffffffffffffff ≤ 0x7ff0000000000000 then some (pc + 1, loc, .double (FP.ddiv x y) :: st, h) else none
    | _ => none
  | .f2d => match st with
    | .float x :: st => if FP.f2d x &&& 0x7fffffffffffffff ≤ 0x7ff0000000000000 then some (pc + 1, loc, .double (FP.f2d x) :: st, h) else none
    | _ => none
  | .dcmp op => match st with
    | .double y :: .double x :: st => some (pc + 1, loc, .int (Op.cmpValue (FP.dcmp x y) op) :: st, h)
    | _ => none
  | .getfield _ => match st with
    | .ref a :: st => match h[a]? with
      | some (.inr (ci, fs)) => if ci = r1 then (match fs[r2]? with
        | some v => some (pc + 3, loc, v :: st, h)
        | none => none) else none
      | _ => none
    | _ => none
  | .putfield _ => match st with
    | v :: .ref a :: st => match h[a]? with
      | some (.inr (ci, fs)) => if ci = r1 ∧ r2 < fs.length ∧ mj_fit r3 v = true then some (pc + 3, loc, st, h.set a (.inr (ci, fs.set r2 v))) else none
      | _ => none
    | _ => none
  | .arraylength => match st with
    | .ref a :: st => match h[a]? with
      | some (.inl (_, n, _)) => some (pc + 1, loc, .int (nI n) :: st, h)
      | _ => none
    | _ => none
  | .iaload => match st with
    | .int i :: .ref a :: st => match h[a]? with
      | some (.inl (t, n, f)) => if (t = 0 ∨ t = 100) ∧ mj_in i n = true then some (pc + 1, loc, f i.toNatClampNeg :: st, h) else none
      | _ => none
    | _ => none
  | .laload => match st with
    | .int i :: .ref a :: st => match h[a]? with
      | some (.inl (t, n, f)) => if t = 1 ∧ mj_in i n = true then some (pc + 1, loc, f i.toNatClampNeg :: st, h) else none
      | _ => none
    | _ => none
  | .baload => match st with
    | .int i :: .ref a :: st => match h[a]? with
      | some (.inl (t, n, f)) => if t = 2 ∧ mj_in i n = true then some (pc + 1, loc, f i.toNatClampNeg :: st, h) else none
      | _ => none
    | _ => none
  | .aaload => match st with
    | .int i :: .ref a :: st => match h[a]? with
      | some (.inl (t, n, f)) => if mj_isref t = true ∧ mj_in i n = true then some (pc + 1, loc, f i.toNatClampNeg :: st, h) else none
      | _ => none
    | _ => none
  | .iastore => match st with
    | .int x :: .int i :: .ref a :: st => match h[a]? with
      | some (.inl (t, n, f)) => if t = 0 ∧ mj_in i n = true then some (pc + 1, loc, st, h.set a (.inl (t, n, updV f i.toNatClampNeg (.int x)))) else none
      | _ => none
    | _ => none
  | .lastore => match st with
    | .long x :: .int i :: .ref a :: st => match h[a]? with
      | some (.inl (t, n, f)) => if t = 1 ∧ mj_in i n = true then some (pc + 1, loc, st, h.set a (.inl (t, n, updV f i.toNatClampNeg (.long x)))) else none
      | _ => none
    | _ => none
  | .bastore => match st with
    | .int x :: .int i :: .ref a :: st => match h[a]? with
      | some (.inl (t, n, f)) => if t = 2 ∧ mj_in i n = true then some (pc + 1, loc, st, h.set a (.inl (t, n, updV f i.toNatClampNeg (.int x.toInt8.toInt32)))) else none
      | _ => none
    | _ => none
  | .aastore => match st with
    | .ref v :: .int i :: .ref a :: st => match h[a]? with
      | some (.inl (t, n, f)) => match h[v]? with
        | some (.inr (cv, _)) => if mj_el t = some cv ∧ mj_in i n = true then some (pc + 1, loc, st, h.set a (.inl (t, n, updV f i.toNatClampNeg (.ref v)))) else none
        | _ => none
      | _ => none
    | _ => none
  | .newarray _ => match st with
    | .int n :: st => if 0 ≤ n ∧ n.toNatClampNeg * 8 ≤ 536870912 ∧ r1 ≤ 2 then some (pc + 2, loc, .ref h.length :: st, h ++ [.inl (r1, n.toNatClampNeg, fun _ => mj_df r1)]) else none
    | _ => none
  | .anewarray _ => match st with
    | .int n :: st => if 0 ≤ n ∧ n.toNatClampNeg * 4 ≤ 536870912 then some (pc + 3, loc, .ref h.length :: st, h ++ [.inl (r1, n.toNatClampNeg, fun _ => .null)]) else none
    | _ => none
  | .multianewarray _ _ => match st with
    | .int k :: .int n :: st => if 0 ≤ n ∧ 0 ≤ k ∧ n.toNatClampNeg * 4 ≤ 536870912 ∧ k.toNatClampNeg * 8 ≤ 536870912 then some (pc + 4, loc, .ref h.length :: st, h ++ (.inl (6, n.toNatClampNeg, fun i => if i < n.toNatClampNeg then .ref (h.length + 1 + i) else .null) :: mj_rows n.toNatClampNeg k.toNatClampNeg 0)) else none
    | _ => none
  | .new _ => some (pc + 3, loc, .ref h.length :: st, h ++ [.inr (r1, flds r1)])
  | _ => none
