/-! Bits of ints and longs -/
def bL (x : Int64) (i : Nat) : Bool := x.toBitVec.getLsbD i
def bX (x : Int32) (i : Nat) : Bool := x.toBitVec.getLsbD i
theorem bL_ext {x y : Int64} (h : ∀ i, i < 64 → bL x i = bL y i) : x = y := Int64.toBitVec_inj.mp (BitVec.eq_of_getLsbD_eq h)
theorem bX_ext {x y : Int32} (h : ∀ i, i < 32 → bX x i = bX y i) : x = y := Int32.toBitVec_inj.mp (BitVec.eq_of_getLsbD_eq h)
theorem bL_or (x y : Int64) (i : Nat) : bL (x ||| y) i = (bL x i || bL y i) := by
  unfold bL
  rw [Int64.toBitVec_or, BitVec.getLsbD_or]
theorem bL_and (x y : Int64) (i : Nat) : bL (x &&& y) i = (bL x i && bL y i) := by
  unfold bL
  rw [Int64.toBitVec_and, BitVec.getLsbD_and]
theorem bL_xor (x y : Int64) (i : Nat) : bL (x ^^^ y) i = (bL x i ^^ bL y i) := by
  unfold bL
  rw [Int64.toBitVec_xor, BitVec.getLsbD_xor]
theorem bX_or (x y : Int32) (i : Nat) : bX (x ||| y) i = (bX x i || bX y i) := by
  unfold bX
  rw [Int32.toBitVec_or, BitVec.getLsbD_or]
theorem bX_and (x y : Int32) (i : Nat) : bX (x &&& y) i = (bX x i && bX y i) := by
  unfold bX
  rw [Int32.toBitVec_and, BitVec.getLsbD_and]
theorem bX_xor (x y : Int32) (i : Nat) : bX (x ^^^ y) i = (bX x i ^^ bX y i) := by
  unfold bX
  rw [Int32.toBitVec_xor, BitVec.getLsbD_xor]
theorem bL_big {x : Int64} {i : Nat} (h : 64 ≤ i) : bL x i = false := BitVec.getLsbD_of_ge _ _ h
theorem bX_big {x : Int32} {i : Nat} (h : 32 ≤ i) : bX x i = false := BitVec.getLsbD_of_ge _ _ h
set_option maxRecDepth 20000 in
theorem sh_r : ∀ k : Fin 64, (((nI k.val).toInt64.toUInt64 &&& Int64.toUInt64 63).toBitVec % 64).toNat = k.val := by decide
set_option maxRecDepth 20000 in
theorem sh_l : ∀ k : Fin 64, (((nI k.val).toInt64 &&& 63).toBitVec.smod 64).toNat = k.val := by decide
set_option maxRecDepth 20000 in
theorem sh_x : ∀ k : Fin 32, ((nI k.val &&& 31).toBitVec.smod 32).toNat = k.val := by decide
theorem bL_shr (x : Int64) {k : Nat} (hk : k < 64) (i : Nat) : bL ((x.toUInt64 >>> ((nI k).toInt64.toUInt64 &&& Int64.toUInt64 63)).toInt64) i = bL x (k + i) := by
  have e := sh_r ⟨k, hk⟩
  unfold bL
  show (x.toBitVec >>> (((nI k).toInt64.toUInt64 &&& Int64.toUInt64 63).toBitVec % 64)).getLsbD i = _
  rw [BitVec.ushiftRight_eq', BitVec.getLsbD_ushiftRight, e]
theorem bL_shl (x : Int64) {k i : Nat} (hk : k < 64) (hi : i < 64) : bL (x <<< ((nI k).toInt64 &&& 63)) i = (decide (k ≤ i) && bL x (i - k)) := by
  have e := sh_l ⟨k, hk⟩
  unfold bL
  show (x.toBitVec <<< (((nI k).toInt64 &&& 63).toBitVec.smod 64)).getLsbD i = _
  rw [BitVec.shiftLeft_eq', BitVec.getLsbD_shiftLeft, e]
  show (decide (i < 64) && !decide (i < k) && x.toBitVec.getLsbD (i - k)) = _
  rw [decide_eq_true hi, Bool.true_and]
  congr 1
  by_cases q : k ≤ i
  · rw [decide_eq_true q, decide_eq_false (by omega)]; rfl
  · rw [decide_eq_false q, decide_eq_true (by omega)]; rfl
theorem bX_sar (x : Int32) {k i : Nat} (hk : k < 32) (hi : i < 32) : bX (x >>> (nI k &&& 31)) i = if k + i < 32 then bX x (k + i) else bX x 31 := by
  have e := sh_x ⟨k, hk⟩
  unfold bX
  show (x.toBitVec.sshiftRight' ((nI k &&& 31).toBitVec.smod 32)).getLsbD i = _
  rw [BitVec.sshiftRight_eq', BitVec.getLsbD_sshiftRight, e]
  show (!decide (32 ≤ i) && if k + i < 32 then x.toBitVec.getLsbD (k + i) else x.toBitVec.msb) = _
  rw [decide_eq_false (by omega), BitVec.msb_eq_getLsbD_last]
  rfl
theorem bX_shl (x : Int32) {k i : Nat} (hk : k < 32) (hi : i < 32) : bX (x <<< (nI k &&& 31)) i = (decide (k ≤ i) && bX x (i - k)) := by
  have e := sh_x ⟨k, hk⟩
  unfold bX
  show (x.toBitVec <<< ((nI k &&& 31).toBitVec.smod 32)).getLsbD i = _
  rw [BitVec.shiftLeft_eq', BitVec.getLsbD_shiftLeft, e]
  show (decide (i < 32) && !decide (i < k) && x.toBitVec.getLsbD (i - k)) = _
  rw [decide_eq_true hi, Bool.true_and]
  congr 1
  by_cases q : k ≤ i
  · rw [decide_eq_true q, decide_eq_false (by omega)]; rfl
  · rw [decide_eq_false q, decide_eq_true (by omega)]; rfl
theorem bX_n {n i : Nat} (hi : i < 32) : bX (nI n) i = n.testBit i := by
  unfold bX
  show (BitVec.ofNat 32 n).getLsbD i = _
  rw [BitVec.getLsbD_ofNat, decide_eq_true hi, Bool.true_and]
theorem bL_n {n i : Nat} (hi : i < 64) : bL (Int64.ofNat n) i = n.testBit i := by
  unfold bL
  show (BitVec.ofNat 64 n).getLsbD i = _
  rw [BitVec.getLsbD_ofNat, decide_eq_true hi, Bool.true_and]
theorem tb1 (i : Nat) : Nat.testBit 1 i = decide (i = 0) := by
  by_cases h : i = 0
  · subst h; rfl
  · rw [decide_eq_false h]
    exact Bool.eq_false_iff.mpr (fun q => h (Nat.testBit_one_eq_true_iff_self_eq_zero.mp q))
theorem bL_1 (i : Nat) : bL (Int64.ofNat 1) i = decide (i = 0) := by
  by_cases h : i < 64
  · rw [bL_n h, tb1]
  · rw [bL_big (by omega), decide_eq_false (by omega)]
theorem bL_0 (i : Nat) : bL (Int64.ofNat 0) i = false := by
  by_cases h : i < 64
  · rw [bL_n h, Nat.zero_testBit]
  · rw [bL_big (by omega)]
theorem bX_1 (i : Nat) : bX 1 i = decide (i = 0) := by
  by_cases h : i < 32
  · rw [li_1, bX_n h, tb1]
  · rw [bX_big (by omega), decide_eq_false (by omega)]
theorem bX_0 (i : Nat) : bX 0 i = false := by
  by_cases h : i < 32
  · rw [li_0, bX_n h, Nat.zero_testBit]
  · rw [bX_big (by omega)]
theorem bL_one {k i : Nat} (hk : k < 64) (hi : i < 64) : bL (Int64.ofNat 1 <<< ((nI k).toInt64 &&& 63)) i = decide (i = k) := by
  rw [bL_shl _ hk hi, bL_1]
  by_cases q : i = k
  · rw [decide_eq_true q, decide_eq_true (by omega), decide_eq_true (by omega)]; rfl
  · rw [decide_eq_false q]
    by_cases q2 : k ≤ i
    · rw [decide_eq_false (show ¬ i - k = 0 by omega), Bool.and_false]
    · rw [decide_eq_false q2, Bool.false_and]
theorem bX_one {k i : Nat} (hk : k < 32) (hi : i < 32) : bX ((1 : Int32) <<< (nI k &&& 31)) i = decide (i = k) := by
  rw [bX_shl _ hk hi, bX_1]
  by_cases q : i = k
  · rw [decide_eq_true q, decide_eq_true (by omega), decide_eq_true (by omega)]; rfl
  · rw [decide_eq_false q]
    by_cases q2 : k ≤ i
    · rw [decide_eq_false (show ¬ i - k = 0 by omega), Bool.and_false]
    · rw [decide_eq_false q2, Bool.false_and]
theorem bL_not (x : Int64) {i : Nat} (hi : i < 64) : bL (x ^^^ Int64.ofNat 18446744073709551615) i = !bL x i := by
  rw [bL_xor, bL_n hi, show (18446744073709551615 : Nat) = 2 ^ 64 - 1 from rfl, Nat.testBit_two_pow_sub_one, decide_eq_true hi, Bool.xor_true]
theorem bX_not (x : Int32) {i : Nat} (hi : i < 32) : bX (x ^^^ (-1)) i = !bX x i := by
  rw [bX_xor, show (-1 : Int32) = nI 4294967295 from by decide, bX_n hi, show (4294967295 : Nat) = 2 ^ 32 - 1 from rfl, Nat.testBit_two_pow_sub_one, decide_eq_true hi, Bool.xor_true]
theorem cmp0 (x y : Int64) : (lg_cmp x y = 0) = (x = y) := by
  apply propext
  unfold lg_cmp
  constructor
  · intro h
    split at h
    · exact absurd h (by decide)
    · split at h
      · assumption
      · exact absurd h (by decide)
  · intro h
    subst h
    rw [if_neg (by rw [gt_iff_lt, Int64.lt_iff_toInt_lt]; omega), if_pos rfl]
theorem L_bit {x : Int64} {k : Nat} (hk : k < 64) : (lg_cmp (((x.toUInt64 >>> ((nI k).toInt64.toUInt64 &&& Int64.toUInt64 63)).toInt64) &&& (Int64.ofNat 1)) (Int64.ofNat 0) = 0) = (bL x k = false) := by
  rw [cmp0]
  apply propext
  constructor
  · intro h
    have := congrArg (fun y => bL y 0) h
    simp only [bL_and, bL_shr x hk, bL_1, bL_0, Nat.add_zero] at this
    rw [decide_true, Bool.and_true] at this
    exact this
  · intro h
    refine bL_ext fun i hi => ?_
    rw [bL_and, bL_shr x hk, bL_1, bL_0]
    by_cases q : i = 0
    · subst q; rw [Nat.add_zero, h, Bool.false_and]
    · rw [decide_eq_false q, Bool.and_false]
theorem L_zero {x : Int64} : (lg_cmp x (Int64.ofNat 0) = 0) = (∀ i, i < 64 → bL x i = false) := by
  rw [cmp0]
  apply propext
  constructor
  · intro h i _
    rw [h, bL_0]
  · intro h
    exact bL_ext fun i hi => by rw [h i hi, bL_0]
theorem X_bit {x : Int32} {k : Nat} (hk : k < 32) : ((x >>> (nI k &&& 31)) &&& 1 = 0) = (bX x k = false) := by
  apply propext
  constructor
  · intro h
    have := congrArg (fun y => bX y 0) h
    simp only [bX_and, bX_1, bX_0] at this
    rw [bX_sar x hk (by omega), if_pos (by omega), Nat.add_zero, decide_true, Bool.and_true] at this
    exact this
  · intro h
    refine bX_ext fun i hi => ?_
    rw [bX_and, bX_1, bX_0]
    by_cases q : i = 0
    · subst q; rw [bX_sar x hk (by omega), if_pos (by omega), Nat.add_zero, h, Bool.false_and]
    · rw [decide_eq_false q, Bool.and_false]
