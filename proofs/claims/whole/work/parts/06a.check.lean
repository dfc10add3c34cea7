/-! the words of the tables, with two more: kindAt is private, and the readers are made -/
def dd_ka : MethodName := ⟨"LostRound$Reader", "kindAt", "(I)I"⟩
def dd_tbl : List Cond := [.selects "LostRound$LawReader" dd_ka dd_ka, .selects "LostRound$WoodReader" dd_ka dd_ka] ++ lw_tbl

def dd_strs : List (String × Nat × String) := [("LostRound$LawReader", 19, "stay"), ("LostRound$LawReader", 31, "far"), ("LostRound$LawReader", 33, "near"), ("LostRound$LawReader", 43, "if"), ("LostRound$LawReader", 62, "not"), ("LostRound$LawReader", 97, "silent"), ("LostRound$LawReader", 99, "ferny"), ("LostRound$LawReader", 110, "boy"), ("LostRound$LawReader", 112, "part"), ("LostRound$LawReader", 114, "ear"), ("LostRound$LawReader", 116, "x"), ("LostRound$LawReader", 118, "y"), ("LostRound$LawReader", 120, "away"), ("LostRound$LawReader", 122, "bad"), ("LostRound$LawReader", 124, "beat"), ("LostRound$LawReader", 74, "and"), ("LostRound$LawReader", 76, "or"), ("LostRound$WoodReader", 15, "part"), ("LostRound$WoodReader", 25, "boy"), ("LostRound$WoodReader", 72, "at"), ("LostRound$WoodReader", 81, "sings"), ("LostRound$WoodReader", 87, "ear"), ("LostRound$WoodReader", 30, "trees"), ("LostRound$WoodReader", 35, "ferns"), ("LostRound$WoodReader", 40, "fire"), ("LostRound$WoodReader", 121, "loud"), ("LostRound$WoodReader", 125, "stray"), ("LostRound$WoodReader", 129, "beat"), ("LostRound$WoodReader", 133, "night"), ("LostRound", 128, "the text is wrong"), ("LostRound", 138, "there are twelve texts"), ("LostRound", 157, "there is no such cell"), ("LostRound", 192, "a cell has no such thing"), ("LostRound", 163, "there is no such part"), ("LostRound", 170, "there is no such beat"), ("LostRound", 168, "there is no such boy"), ("LostRound", 231, "a boy has no such thing"), ("LostRound", 172, "the number is none"), ("LostRound", 287, "there are trees"), ("LostRound", 296, "the fire or a boy is there"), ("LostRound", 302, "he is in"), ("LostRound", 308, "there are trees, or the fire"), ("LostRound", 370, "the tape is not that, or there are no parts"), ("LostRound", 375, "the tape is not that"), ("LostRound", 174, "both are one"), ("LostRound", 449, "a row has no such thing"), ("LostRoundModel", 165, "part"), ("LostRoundModel", 171, "boy"), ("LostRoundModel", 144, "at"), ("LostRoundModel", 152, "sings"), ("LostRoundModel", 154, "ear"), ("LostRoundModel", 176, "trees"), ("LostRoundModel", 181, "ferns"), ("LostRoundModel", 186, "fire"), ("LostRoundModel", 191, "loud"), ("LostRoundModel", 193, "stray"), ("LostRoundModel", 195, "beat"), ("LostRoundModel", 197, "night"), ("LostRoundModel", 254, "far"), ("LostRoundModel", 256, "near"), ("LostRoundModel", 258, "stay"), ("LostRoundModel", 260, "if"), ("LostRoundModel", 233, "not"), ("LostRoundModel", 223, "silent"), ("LostRoundModel", 225, "ferny"), ("LostRoundModel", 202, "x"), ("LostRoundModel", 204, "y"), ("LostRoundModel", 206, "away"), ("LostRoundModel", 208, "bad"), ("LostRoundModel", 247, "and"), ("LostRoundModel", 252, "or")]
/-- what the fields hold: 0 int, 1 long, 2 a reference, 3 boolean -/
def dd_fzt : List (List Nat) := [[2, 0, 0], [2, 2, 2, 2], [2, 0, 0, 0, 3], [2, 0, 0, 0, 0, 0, 2, 2, 0, 0, 0], [2, 2, 2, 2, 2], [2, 2, 2, 2, 0, 0], [2, 2], [1, 2, 2, 2, 2, 2, 2, 2, 0, 0, 0, 0, 0, 0, 0, 0, 0, 0, 0], [2, 0, 0, 0, 0, 0, 2], [2, 2, 2, 2, 2, 2, 3, 2, 2, 0, 0, 2, 2, 2, 2, 2, 2, 2], [0, 2, 2, 2, 2, 2, 3, 0, 2, 0, 0, 0, 0, 0, 0, 2, 0, 2, 0, 2, 2, 0, 2, 2, 2, 2]]
def dd_fz (ci j : Nat) : Nat := (dd_fzt.getD ci []).getD j 0
def dd_fty (ci : Nat) : Nat → FieldType := match ci with
  | 0 => tyX0
  | 1 => tyX1
  | 2 => tyX2
  | 3 => tyX3
  | 4 => tyX5
  | 5 => tyX6
  | 6 => tyX7
  | 7 => tyX8
  | 8 => tyX9
  | 9 => tyX10
  | _ => tyX11

def dd_T (ci : Nat) : vw_C := vwCl.getD ci ("", fun _ => ("", "", "", false), 0)
def dd_gw : List Cond := dd_tbl.filter goodWord
def dd_w (p : List Nat) (j : Nat) (w : Cond) : Bool := decide (dd_tbl[p.getD j 0]? = some w) && goodWord w
def dd_exc : List String := ["java/lang/IllegalArgumentException", "java/lang/UnsupportedOperationException", "java/lang/IndexOutOfBoundsException", "java/util/NoSuchElementException", "java/lang/IllegalStateException"]
/-- a field's row: own, index, class, slot, kind of what it holds -/
def dd_cf (own : String) (idx x y z : Nat) (p : List Nat) : Bool :=
  match dd_T x with
  | (C, T, N) => decide (x < 11) && decide (y < N) && decide (dd_fz x y = z) &&
    ((dd_w p 0 (.fieldLink own idx (T y).1 (T y).2.1 (T y).2.2.1)) || (dd_w p 0 (.fieldLink own idx C (T y).2.1 (T y).2.2.1) && dd_w p 1 (.sameField C (T y).1 (T y).2.1 (T y).2.2.1)))
/-- an entry, and where its words stand: all but calls, returns and throws -/
def dd_chk1 (own : String) (maxL : Nat) (e : dd_E) (p : List Nat) : Bool := match e with
  | (pc, i, len, x, y, z, k) => match i with
    | .iconst n => decide (len = 1) && decide (Int32.ofInt n = k)
    | .bipush n => decide (len = 2) && decide ((Int8.ofInt n).toInt32 = k)
    | .sipush n => decide (len = 3) && decide ((Int16.ofInt n).toInt32 = k)
    | .lconst n => decide (len = 1) && decide (Int64.ofNat n = Int64.ofNat x)
    | .ldc2_w idx => decide (len = 3) && dd_w p 0 (.constantLong own idx (Int64.ofNat x))
    | .getstatic idx => decide (len = 3) && dd_w p 0 (.fieldLink own idx "java/lang/String" "COMPACT_STRINGS" "Z") && decide (k = 1)
    | .ldc idx => decide (len = 2) && (match z with
      | 0 => dd_w p 0 (.constant own idx k)
      | _ => decide ((dd_strs[x]?).map (fun t => (t.1, t.2.1)) = some (own, idx)))
    | .ldc_w idx => decide (len = 3) && (match z with
      | 0 => dd_w p 0 (.constant own idx k)
      | _ => decide ((dd_strs[x]?).map (fun t => (t.1, t.2.1)) = some (own, idx)))
    | .iload j => decide (len = 2) && decide (j = x)
    | .iload_n j => decide (len = 1) && decide ((j : Nat) = x)
    | .lload j => decide (len = 2) && decide (j = x)
    | .lload_n j => decide (len = 1) && decide ((j : Nat) = x)
    | .aload j => decide (len = 2) && decide (j = x)
    | .aload_n j => decide (len = 1) && decide ((j : Nat) = x)
    | .istore j => decide (len = 2) && decide (j = x) && decide (x < maxL)
    | .istore_n j => decide (len = 1) && decide ((j : Nat) = x) && decide (x < maxL)
    | .lstore j => decide (len = 2) && decide (j = x) && decide (x + 1 < maxL)
    | .lstore_n j => decide (len = 1) && decide ((j : Nat) = x) && decide (x + 1 < maxL)
    | .astore j => decide (len = 2) && decide (j = x) && decide (x < maxL)
    | .astore_n j => decide (len = 1) && decide ((j : Nat) = x) && decide (x < maxL)
    | .iinc j n => decide (len = 3) && decide (j = x) && decide (Int32.ofInt n = k) && decide (x < maxL)
    | .goto off => decide (len = 3) && decide ((pc : Int) + off = (x : Int))
    | .ifCond _ off => decide (len = 3) && decide ((pc : Int) + off = (x : Int))
    | .if_icmp _ off => decide (len = 3) && decide ((pc : Int) + off = (x : Int))
    | .tableswitch dflt _ _ _ => decide ((pc : Int) + dflt = (x : Int))
    | .getfield idx => decide (len = 3) && (match x with
      | 50 => (decide (y = 0) && decide (z = 2) && dd_w p 0 (.fieldLink own idx "java/lang/String" "value" "[B")) || (decide (y = 1) && decide (z = 0) && dd_w p 0 (.fieldLink own idx "java/lang/String" "coder" "B"))
      | 20 => dd_cf own idx 3 y z p && dd_cf own idx 8 y z p
      | x => dd_cf own idx x y z p)
    | .putfield idx => decide (len = 3) && (match x with
      | 20 => dd_cf own idx 3 y z p && dd_cf own idx 8 y z p
      | x => dd_cf own idx x y z p)
    | .newarray t => decide (len = 2) && ((decide (x = 100) && decide (t = .int) && dd_w p 0 (.arrayClass .int)) || (decide (x = 101) && decide (t = .byte) && dd_w p 0 (.arrayClass .byte)) || (decide (x = 102) && decide (t = .long) && dd_w p 0 (.arrayClass .long)))
    | .anewarray idx => decide (len = 3) && dd_w p 0 (.classLink own idx "LostRound$Wood")
    | .new idx => decide (len = 3) && decide (x < 11) && (match dd_T x with
      | (C, _, N) => decide (y = N) && dd_w p 0 (.classLink own idx C) && dd_w p 1 (.instantiable C N) && dd_w p 2 (.initialized C))
    | _ => decide (len = 1)

