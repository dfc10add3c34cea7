/-! THE SMALL MACHINE. Memory: how many cells, the shape (kind, size) of each, references, ints, longs, cells made, slots made.
Kinds: 0..10 the classes of vwCl; 50 a String constant, 51 its bytes, 52 the script; 100 int[], 101 byte[], 102 long[], 103 LostRound$Wood[]. Reference 0 in a field is null. -/
abbrev dd_M : Type := Nat × (Nat → Nat × Nat) × (Nat → Nat → Nat) × (Nat → Nat → Int32) × (Nat → Nat → Int64) × Nat × Nat
/-- pc, instruction, length, x, y, z, number -/
abbrev dd_E : Type := Nat × Instr × Nat × Nat × Nat × Nat × Int32
/-- pc, locals, stack, memory -/
abbrev dd_C : Type := Nat × List Value × List Value × dd_M
/-- thrown (none: returned), the answer, memory -/
abbrev dd_O : Type := Option Nat × Value × dd_M
/-- code, locals, kind of the answer (0 void, 1 int, 2 boolean, 3 long, 4 byte, 5 char), the class that the receiver must have (99: static), handlers -/
abbrev dd_I : Type := (Nat → Option dd_E) × Nat × Nat × Nat × List (Nat × Nat × Nat × Nat × Nat)
abbrev dd_kd (M : dd_M) (k : Nat) : Nat := (M.2.1 k).1
abbrev dd_sz (M : dd_M) (k : Nat) : Nat := (M.2.1 k).2
abbrev dd_r (M : dd_M) (k j : Nat) : Nat := M.2.2.1 k j
abbrev dd_i (M : dd_M) (k j : Nat) : Int32 := M.2.2.2.1 k j
abbrev dd_l (M : dd_M) (k j : Nat) : Int64 := M.2.2.2.2.1 k j
def dd_u {α : Type} (I : Nat → Nat → α) (k : Nat) (f : Nat → α) : Nat → Nat → α := fun a => if a = k then f else I a
def dd_ui (M : dd_M) (k j : Nat) (x : Int32) : dd_M := match M with
  | (n, sh, rf, I, L, c, s) => (n, sh, rf, dd_u I k (upd (I k) j x), L, c, s)
def dd_ul (M : dd_M) (k j : Nat) (x : Int64) : dd_M := match M with
  | (n, sh, rf, I, L, c, s) => (n, sh, rf, I, dd_u L k (vp_updL (L k) j x), c, s)
def dd_ur (M : dd_M) (k j : Nat) (x : Nat) : dd_M := match M with
  | (n, sh, rf, I, L, c, s) => (n, sh, dd_u rf k (va_up (rf k) j x), I, L, c, s)
/-- a new cell: kind, size, how many slots it takes -/
def dd_nw (M : dd_M) (kd sz : Nat) : dd_M := match M with
  | (n, sh, rf, I, L, c, s) => (n + 1, (fun a => if a = n then (kd, sz) else sh a), dd_u rf n (fun _ => 0), dd_u I n (fun _ => 0), dd_u L n (fun _ => 0), c + 1, s + sz)
def dd_cp (M : dd_M) (k0 k1 sp dp n : Nat) : dd_M := match M with
  | (m, sh, rf, I, L, c, s) => (m, sh, rf, dd_u I k1 (va_cpy (I k0) (I k1) sp dp n), L, c, s)
/-- one object and six slots more: a thrown thing, which the world forgets -/
def dd_tw (M : dd_M) : dd_M := match M with
  | (m, sh, rf, I, L, c, s) => (m, sh, rf, I, L, c + 1, s + 6)
def dd_at : List dd_E → Nat → Option dd_E
  | [], _ => none
  | e :: r, pc => match Nat.beq e.1 pc with
    | true => some e
    | false => dd_at r pc
/-- a store of a value of one word -/
def dd_s1 (ls : List Value) (i : Nat) (v : Value) : List Value := match i with
  | 0 => ls.set 0 v
  | j + 1 => match ls[j]? with
    | some (.long _) => (ls.set j .null).set (j + 1) v
    | some (.double _) => (ls.set j .null).set (j + 1) v
    | _ => ls.set (j + 1) v
def dd_s2 (ls : List Value) (i : Nat) (v : Value) : List Value := (dd_s1 ls i v).set (i + 1) .null
/-- the locals at a method's entry -/
def dd_en : List Value → List Value
  | [] => []
  | .long x :: r => .long x :: .null :: dd_en r
  | .double _ :: r => .null :: .null :: dd_en r
  | v :: r => v :: dd_en r
def dd_ent (n : Nat) (vs : List Value) : List Value := dd_en vs ++ List.replicate (n - (dd_en vs).length) .null
def dd_cat (st : List Value) : Nat := (st.map fun v => v.category).sum
/-- the class that a field's row asks for: 20 is either reader -/
def dd_ck (x kd : Nat) : Bool := match Nat.beq x 20 with
  | true => Nat.beq kd 3 || Nat.beq kd 8
  | false => Nat.beq kd x
/-- every reference is of a cell that there is, or of a foreign one -/
def dd_okv (n : Nat) : List Value → Bool
  | [] => true
  | .ref k :: r => (Nat.blt k n || Nat.ble 1000000 k) && dd_okv n r
  | _ :: r => dd_okv n r
/-- what the instruction does, if it is no call, no return and no throw -/
def dd_stp (e : dd_E) (ls st : List Value) (M : dd_M) : Option dd_C := match e with
  | (pc, i, len, x, y, z, k) => match i with
    | .iconst _ => some (pc + len, ls, .int k :: st, M)
    | .bipush _ => some (pc + len, ls, .int k :: st, M)
    | .sipush _ => some (pc + len, ls, .int k :: st, M)
    | .lconst _ => some (pc + len, ls, .long (Int64.ofNat x) :: st, M)
    | .ldc2_w _ => some (pc + len, ls, .long (Int64.ofNat x) :: st, M)
    | .getstatic _ => some (pc + len, ls, .int k :: st, M)
    | .ldc _ => match z with
      | 0 => some (pc + len, ls, .int k :: st, M)
      | _ => some (pc + len, ls, .ref (1000000 + x) :: st, M)
    | .ldc_w _ => match z with
      | 0 => some (pc + len, ls, .int k :: st, M)
      | _ => some (pc + len, ls, .ref (1000000 + x) :: st, M)
    | .iload _ | .iload_n _ => match ls[x]? with
      | some (.int v) => some (pc + len, ls, .int v :: st, M)
      | _ => none
    | .lload _ | .lload_n _ => match ls[x]? with
      | some (.long v) => some (pc + len, ls, .long v :: st, M)
      | _ => none
    | .aload _ | .aload_n _ => match ls[x]? with
      | some (.ref v) => some (pc + len, ls, .ref v :: st, M)
      | _ => none
    | .istore _ | .istore_n _ => match st with
      | .int v :: st => some (pc + len, dd_s1 ls x (.int v), st, M)
      | _ => none
    | .lstore _ | .lstore_n _ => match st with
      | .long v :: st => some (pc + len, dd_s2 ls x (.long v), st, M)
      | _ => none
    | .astore _ | .astore_n _ => match st with
      | .ref v :: st => some (pc + len, dd_s1 ls x (.ref v), st, M)
      | _ => none
    | .iinc _ _ => match ls[x]? with
      | some (.int v) => some (pc + len, dd_s1 ls x (.int (v + k)), st, M)
      | _ => none
    | .iadd => match st with
      | .int b :: .int a :: st => some (pc + len, ls, .int (a + b) :: st, M)
      | _ => none
    | .isub => match st with
      | .int b :: .int a :: st => some (pc + len, ls, .int (a - b) :: st, M)
      | _ => none
    | .imul => match st with
      | .int b :: .int a :: st => some (pc + len, ls, .int (a * b) :: st, M)
      | _ => none
    | .idiv => match st with
      | .int b :: .int a :: st => if b = 0 then none else some (pc + len, ls, .int (a / b) :: st, M)
      | _ => none
    | .irem => match st with
      | .int b :: .int a :: st => if b = 0 then none else some (pc + len, ls, .int (a - a / b * b) :: st, M)
      | _ => none
    | .iand => match st with
      | .int b :: .int a :: st => some (pc + len, ls, .int (a &&& b) :: st, M)
      | _ => none
    | .ior => match st with
      | .int b :: .int a :: st => some (pc + len, ls, .int (a ||| b) :: st, M)
      | _ => none
    | .ixor => match st with
      | .int b :: .int a :: st => some (pc + len, ls, .int (a ^^^ b) :: st, M)
      | _ => none
    | .ishl => match st with
      | .int b :: .int a :: st => some (pc + len, ls, .int (a <<< (b &&& 31)) :: st, M)
      | _ => none
    | .ishr => match st with
      | .int b :: .int a :: st => some (pc + len, ls, .int (a >>> (b &&& 31)) :: st, M)
      | _ => none
    | .iushr => match st with
      | .int b :: .int a :: st => some (pc + len, ls, .int ((a.toUInt32 >>> (b.toUInt32 &&& Int32.toUInt32 31)).toInt32) :: st, M)
      | _ => none
    | .ineg => match st with
      | .int a :: st => some (pc + len, ls, .int (-a) :: st, M)
      | _ => none
    | .i2b => match st with
      | .int a :: st => some (pc + len, ls, .int a.toInt8.toInt32 :: st, M)
      | _ => none
    | .i2c => match st with
      | .int a :: st => some (pc + len, ls, .int ((a.toUInt32 % 65536).toInt32) :: st, M)
      | _ => none
    | .i2l => match st with
      | .int a :: st => some (pc + len, ls, .long a.toInt64 :: st, M)
      | _ => none
    | .l2i => match st with
      | .long a :: st => some (pc + len, ls, .int a.toInt32 :: st, M)
      | _ => none
    | .ladd => match st with
      | .long b :: .long a :: st => some (pc + len, ls, .long (a + b) :: st, M)
      | _ => none
    | .lsub => match st with
      | .long b :: .long a :: st => some (pc + len, ls, .long (a - b) :: st, M)
      | _ => none
    | .land => match st with
      | .long b :: .long a :: st => some (pc + len, ls, .long (a &&& b) :: st, M)
      | _ => none
    | .lor => match st with
      | .long b :: .long a :: st => some (pc + len, ls, .long (a ||| b) :: st, M)
      | _ => none
    | .lxor => match st with
      | .long b :: .long a :: st => some (pc + len, ls, .long (a ^^^ b) :: st, M)
      | _ => none
    | .lshl => match st with
      | .int b :: .long a :: st => some (pc + len, ls, .long (a <<< (b.toInt64 &&& 63)) :: st, M)
      | _ => none
    | .lushr => match st with
      | .int b :: .long a :: st => some (pc + len, ls, .long ((a.toUInt64 >>> (b.toInt64.toUInt64 &&& Int64.toUInt64 63)).toInt64) :: st, M)
      | _ => none
    | .lcmp => match st with
      | .long b :: .long a :: st => some (pc + len, ls, .int (lg_cmp a b) :: st, M)
      | _ => none
    | .dup => match st with
      | .int a :: st => some (pc + len, ls, .int a :: .int a :: st, M)
      | .ref a :: st => some (pc + len, ls, .ref a :: .ref a :: st, M)
      | _ => none
    | .pop => match st with
      | .int _ :: st => some (pc + len, ls, st, M)
      | .ref _ :: st => some (pc + len, ls, st, M)
      | _ => none
    | .dup2 => match st with
      | .int b :: .ref a :: st => some (pc + len, ls, .int b :: .ref a :: .int b :: .ref a :: st, M)
      | .int b :: .int a :: st => some (pc + len, ls, .int b :: .int a :: .int b :: .int a :: st, M)
      | _ => none
    | .goto _ => some (x, ls, st, M)
    | .ifCond c _ => match st with
      | .int a :: st => match c with
        | .eq => if a = 0 then some (x, ls, st, M) else some (pc + len, ls, st, M)
        | .ne => if a = 0 then some (pc + len, ls, st, M) else some (x, ls, st, M)
        | .lt => if a < 0 then some (x, ls, st, M) else some (pc + len, ls, st, M)
        | .ge => if 0 ≤ a then some (x, ls, st, M) else some (pc + len, ls, st, M)
        | .gt => if 0 < a then some (x, ls, st, M) else some (pc + len, ls, st, M)
        | .le => if a ≤ 0 then some (x, ls, st, M) else some (pc + len, ls, st, M)
      | _ => none
    | .if_icmp c _ => match st with
      | .int b :: .int a :: st => match c with
        | .eq => if a = b then some (x, ls, st, M) else some (pc + len, ls, st, M)
        | .ne => if a = b then some (pc + len, ls, st, M) else some (x, ls, st, M)
        | .lt => if a < b then some (x, ls, st, M) else some (pc + len, ls, st, M)
        | .ge => if b ≤ a then some (x, ls, st, M) else some (pc + len, ls, st, M)
        | .gt => if b < a then some (x, ls, st, M) else some (pc + len, ls, st, M)
        | .le => if a ≤ b then some (x, ls, st, M) else some (pc + len, ls, st, M)
      | _ => none
    | .tableswitch dflt lo hi offs => match st with
      | .int a :: st =>
        if a.toInt < lo ∨ hi < a.toInt then some (x, ls, st, M)
        else match offs[(a.toInt - lo).toNat]? with
          | some off => if 0 ≤ (pc : Int) + off then some (((pc : Int) + off).toNat, ls, st, M) else none
          | none => none
      | _ => none
    | .getfield _ => match st with
      | .ref a :: st => match dd_ck x (dd_kd M a) with
        | true => match z with
          | 0 => some (pc + len, ls, .int (dd_i M a y) :: st, M)
          | 1 => some (pc + len, ls, .long (dd_l M a y) :: st, M)
          | 2 => match dd_r M a y with
            | 0 => none
            | r + 1 => some (pc + len, ls, .ref (r + 1) :: st, M)
          | 3 => some (pc + len, ls, .int (dd_i M a y) :: st, M)
          | _ => none
        | false => none
      | _ => none
    | .putfield _ => match z with
      | 0 => match st with
        | .int v :: .ref a :: st => match dd_ck x (dd_kd M a) with
          | true => some (pc + len, ls, st, dd_ui M a y v)
          | false => none
        | _ => none
      | 1 => match st with
        | .long v :: .ref a :: st => match dd_ck x (dd_kd M a) with
          | true => some (pc + len, ls, st, dd_ul M a y v)
          | false => none
        | _ => none
      | 2 => match st with
        | .ref v :: .ref a :: st => match dd_ck x (dd_kd M a), Nat.ble 1 v, Nat.blt v M.1 with
          | true, true, true => some (pc + len, ls, st, dd_ur M a y v)
          | _, _, _ => none
        | _ => none
      | 3 => match st with
        | .int v :: .ref a :: st => match dd_ck x (dd_kd M a) with
          | true => if v = 0 ∨ v = 1 then some (pc + len, ls, st, dd_ui M a y v) else none
          | false => none
        | _ => none
      | _ => none
    | .arraylength => match st with
      | .ref a :: st => match Nat.beq (dd_kd M a) 51 || Nat.beq (dd_kd M a) 52 || Nat.ble 100 (dd_kd M a) with
        | true => some (pc + len, ls, .int (Int32.ofNat (dd_sz M a)) :: st, M)
        | false => none
      | _ => none
    | .iaload => match st with
      | .int j :: .ref a :: st => match Nat.beq (dd_kd M a) 100 || Nat.beq (dd_kd M a) 52 with
        | true => if 0 ≤ j ∧ j.toNatClampNeg < dd_sz M a then some (pc + len, ls, .int (dd_i M a j.toNatClampNeg) :: st, M) else none
        | false => none
      | _ => none
    | .baload => match st with
      | .int j :: .ref a :: st => match Nat.beq (dd_kd M a) 101 || Nat.beq (dd_kd M a) 51 with
        | true => if 0 ≤ j ∧ j.toNatClampNeg < dd_sz M a then some (pc + len, ls, .int (dd_i M a j.toNatClampNeg) :: st, M) else none
        | false => none
      | _ => none
    | .laload => match st with
      | .int j :: .ref a :: st => match Nat.beq (dd_kd M a) 102 with
        | true => if 0 ≤ j ∧ j.toNatClampNeg < dd_sz M a then some (pc + len, ls, .long (dd_l M a j.toNatClampNeg) :: st, M) else none
        | false => none
      | _ => none
    | .aaload => match st with
      | .int j :: .ref a :: st => match Nat.beq (dd_kd M a) 103 with
        | true => if 0 ≤ j ∧ j.toNatClampNeg < dd_sz M a then (match dd_r M a j.toNatClampNeg with
            | 0 => none
            | r + 1 => some (pc + len, ls, .ref (r + 1) :: st, M)) else none
        | false => none
      | _ => none
    | .iastore => match st with
      | .int v :: .int j :: .ref a :: st => match Nat.beq (dd_kd M a) 100 with
        | true => if 0 ≤ j ∧ j.toNatClampNeg < dd_sz M a then some (pc + len, ls, st, dd_ui M a j.toNatClampNeg v) else none
        | false => none
      | _ => none
    | .bastore => match st with
      | .int v :: .int j :: .ref a :: st => match Nat.beq (dd_kd M a) 101 with
        | true => if 0 ≤ j ∧ j.toNatClampNeg < dd_sz M a then some (pc + len, ls, st, dd_ui M a j.toNatClampNeg (v.toInt8.toInt32)) else none
        | false => none
      | _ => none
    | .lastore => match st with
      | .long v :: .int j :: .ref a :: st => match Nat.beq (dd_kd M a) 102 with
        | true => if 0 ≤ j ∧ j.toNatClampNeg < dd_sz M a then some (pc + len, ls, st, dd_ul M a j.toNatClampNeg v) else none
        | false => none
      | _ => none
    | .aastore => match st with
      | .ref v :: .int j :: .ref a :: st => match Nat.beq (dd_kd M a) 103, Nat.beq (dd_kd M v) 7, Nat.ble 1 v with
        | true, true, true => if 0 ≤ j ∧ j.toNatClampNeg < dd_sz M a then some (pc + len, ls, st, dd_ur M a j.toNatClampNeg v) else none
        | _, _, _ => none
      | _ => none
    | .newarray _ => match st with
      | .int n :: st => if 0 ≤ n ∧ n.toNatClampNeg ≤ 100000 ∧ M.1 < 100000 ∧ (dd_okv M.1 ls && dd_okv M.1 st) = true then some (pc + len, ls, .ref M.1 :: st, dd_nw M x n.toNatClampNeg) else none
      | _ => none
    | .anewarray _ => match st with
      | .int n :: st => if 0 ≤ n ∧ n.toNatClampNeg ≤ 100000 ∧ M.1 < 100000 ∧ (dd_okv M.1 ls && dd_okv M.1 st) = true then some (pc + len, ls, .ref M.1 :: st, dd_nw M 103 n.toNatClampNeg) else none
      | _ => none
    | .new _ => if M.1 < 100000 ∧ (dd_okv M.1 ls && dd_okv M.1 st) = true then some (pc + len, ls, .ref M.1 :: st, dd_nw M x y) else none
    | _ => none

/-- methods that are no code here: 900 System.arraycopy (ints), 901 String.checkIndex, 902 Object.<init>, 903 Math.abs, 904 Math.max, 905 Math.min -/
def dd_bi (x len pc : Nat) (ls st : List Value) (M : dd_M) : Option dd_C := match x with
  | 900 => match st with
    | .int n :: .int dp :: .ref k1 :: .int sp :: .ref k0 :: st => match Nat.beq (dd_kd M k0) 100, Nat.beq (dd_kd M k1) 100, Nat.ble (dd_cat st) 8 with
      | true, true, true => if 0 ≤ sp ∧ 0 ≤ dp ∧ 0 ≤ n ∧ sp.toNatClampNeg + n.toNatClampNeg ≤ dd_sz M k0 ∧ dp.toNatClampNeg + n.toNatClampNeg ≤ dd_sz M k1 then some (pc + len, ls, st, dd_cp M k0 k1 sp.toNatClampNeg dp.toNatClampNeg n.toNatClampNeg) else none
      | _, _, _ => none
    | _ => none
  | 901 => match st with
    | .int n :: .int i :: st => match Nat.ble (dd_cat st) 8 with
      | true => if 0 ≤ i ∧ i < n then some (pc + len, ls, st, M) else none
      | false => none
    | _ => none
  | 902 => match st with
    | .ref _ :: st => match Nat.ble (dd_cat st) 8 with
      | true => some (pc + len, ls, st, M)
      | false => none
    | _ => none
  | 903 => match st with
    | .int a :: st => match Nat.ble (dd_cat st) 8 with
      | true => some (pc + len, ls, .int (if 0 ≤ a then a else 0 - a) :: st, M)
      | false => none
    | _ => none
  | 904 => match st with
    | .int b :: .int a :: st => match Nat.ble (dd_cat st) 8 with
      | true => some (pc + len, ls, .int (if a < b then b else a) :: st, M)
      | false => none
    | _ => none
  | 905 => match st with
    | .int b :: .int a :: st => match Nat.ble (dd_cat st) 8 with
      | true => some (pc + len, ls, .int (if b < a then b else a) :: st, M)
      | false => none
    | _ => none
  | _ => none
/-- whom a call calls, with what, and what is left on the stack -/
def dd_cl (mt : Nat → dd_I) (e : dd_E) (st : List Value) (M : dd_M) : Option (Nat × List Value × List Value) := match e with
  | (_, i, _, x, y, z, _) => match Nat.ble y st.length, Nat.ble (dd_cat (st.drop y)) 8 with
    | true, true => match i with
      | .invokevirtual _ => match (st.take y).reverse with
        | .ref a :: as => match z with
          | 0 => match Nat.beq (dd_kd M a) (mt x).2.2.2.1, Nat.ble (dd_en (.ref a :: as)).length (mt x).2.1 with
            | true, true => some (x, .ref a :: as, st.drop y)
            | _, _ => none
          | z' + 1 => match Nat.beq (dd_kd M a) 3, Nat.ble (dd_en (.ref a :: as)).length (mt x).2.1 with
            | true, true => some (x, .ref a :: as, st.drop y)
            | _, _ => match Nat.beq (dd_kd M a) 8, Nat.ble (dd_en (.ref a :: as)).length (mt z').2.1 with
              | true, true => some (z', .ref a :: as, st.drop y)
              | _, _ => none
        | _ => none
      | .invokespecial _ => match (st.take y).reverse with
        | .ref a :: as => match Nat.ble (dd_en (.ref a :: as)).length (mt x).2.1 with
          | true => some (x, .ref a :: as, st.drop y)
          | false => none
        | _ => none
      | .invokestatic _ => match Nat.ble (dd_en (st.take y).reverse).length (mt x).2.1 with
        | true => some (x, (st.take y).reverse, st.drop y)
        | false => none
      | _ => none
    | _, _ => none
/-- only a call of this kind may throw -/
def dd_isV (e : dd_E) : Bool := match e with
  | (_, .invokevirtual _, _, _, _, 0, _) => true
  | _ => false
/-- the handler: its place behind the store, and the local that it stores to -/
def dd_hd : List (Nat × Nat × Nat × Nat × Nat) → Nat → Nat → Option (Nat × Nat)
  | [], _, _ => none
  | (a, b, h, k, E') :: r, pc, E => match Nat.ble a pc, Nat.blt pc b, Nat.beq E E' with
    | true, true, true => some (h, k)
    | _, _, _ => dd_hd r pc E
def dd_pu (v : Value) (st : List Value) : List Value := match v with
  | .null => st
  | v => v :: st
def dd_rt (rt : Nat) (st : List Value) (M : dd_M) : Option dd_O := match st with
  | [] => match rt with
    | 0 => some (none, .null, M)
    | _ => none
  | [.int v] => match rt with
    | 1 => some (none, .int v, M)
    | 2 => if v = 0 ∨ v = 1 then some (none, .int v, M) else none
    | 4 => if vp_nar .byte v = v then some (none, .int v, M) else none
    | 5 => if vp_nar .char v = v then some (none, .int v, M) else none
    | _ => none
  | [.long v] => match rt with
    | 3 => some (none, .long v, M)
    | _ => none
  | _ => none
/-- is it a call, a return, a throw, or none of these -/
def dd_how (i : Instr) (z : Nat) (x : Nat) : Nat := match i with
  | .ireturn => 1
  | .lreturn => 1
  | .return_ => 1
  | .invokevirtual _ => 2
  | .invokestatic _ => match Nat.ble 900 x with
    | true => 3
    | false => 2
  | .invokespecial _ => match Nat.ble 900 x with
    | true => 3
    | false => 2
  | .new _ => match z with
    | 0 => 0
    | _ => 4
  | _ => 0
/-- fuel, depth, method, place -/
def dd_run (mt : Nat → dd_I) : Nat → Nat → Nat → dd_C → Option dd_O
  | 0, _, _, _ => none
  | n + 1, d, y, (pc, ls, st, M) => match (mt y).1 pc with
    | none => none
    | some e => match dd_how e.2.1 e.2.2.2.2.2.1 e.2.2.2.1 with
      | 0 => match dd_stp e ls st M with
        | none => none
        | some cf => dd_run mt n d y cf
      | 1 => dd_rt (mt y).2.2.1 st M
      | 2 => match d with
        | 0 => none
        | d' + 1 => match dd_cl mt e st M with
          | none => none
          | some (x, as, rest) => match dd_run mt n d' x (0, dd_ent (mt x).2.1 as, [], M) with
            | none => none
            | some (none, v, M') => match Nat.beq M'.1 M.1 || (dd_okv M.1 ls && dd_okv M.1 rest) with
              | true => dd_run mt n (d' + 1) y (pc + e.2.2.1, ls, dd_pu v rest, M')
              | false => none
            | some (some E, _, M') => match dd_isV e with
              | false => none
              | true => match dd_hd (mt y).2.2.2.2 pc E with
              | none => match (mt y).2.2.2.2 with
                | [] => some (some E, .null, M')
                | _ => none
              | some (h, k) => match Nat.beq M'.1 M.1 with
                | true => dd_run mt n (d' + 1) y (h, dd_s1 ls k .null, [], M')
                | false => none
      | 3 => match Nat.ble 12 d with
        | true => match dd_bi e.2.2.2.1 e.2.2.1 pc ls st M with
          | none => none
          | some cf => dd_run mt n d y cf
        | false => none
      | _ => match Nat.ble 12 d, Nat.ble (dd_cat st) 8 with
        | true, true => some (some (e.2.2.2.2.2.1 - 1), .null, dd_tw M)
        | _, _ => none
