theorem nw3 {i : Nat} (h : i < 2 ^ 60) : (i + i / 256) % 2 ^ 64 = i + i / 256 ∧ i + i / 256 < 2 ^ 61 := by omega
theorem nw4 {i : Nat} (h : i < 2 ^ 61) : (i + i / 65536) % 2 ^ 64 = i + i / 65536 ∧ i + i / 65536 < 2 ^ 62 := by omega
theorem nw5 {i : Nat} (h : i < 2 ^ 62) : (i + i / 4294967296) % 2 ^ 64 = i + i / 4294967296 := by omega
/-- a long as a number -/
def nL (x : Int64) : Nat := x.toBitVec.toNat
theorem nL_lt (x : Int64) : nL x < 2 ^ 64 := x.toBitVec.isLt
theorem nL_bit (x : Int64) (i : Nat) : (nL x).testBit i = bL x i := BitVec.testBit_toNat _
theorem nL_shr (x : Int64) {k : Nat} (hk : k < 64) : nL ((x.toUInt64 >>> ((nI k).toInt64.toUInt64 &&& Int64.toUInt64 63)).toInt64) = nL x / 2 ^ k := by
  refine Nat.eq_of_testBit_eq (fun i => ?_)
  rw [nL_bit, bL_shr x hk, Nat.testBit_div_two_pow, nL_bit, Nat.add_comm]
theorem nL_and (x y : Int64) : nL (x &&& y) = nL x &&& nL y := by
  refine Nat.eq_of_testBit_eq (fun i => ?_)
  rw [nL_bit, bL_and, Nat.testBit_and, nL_bit, nL_bit]
theorem nL_add (x y : Int64) : nL (x + y) = (nL x + nL y) % 2 ^ 64 := by
  unfold nL
  rw [Int64.toBitVec_add, BitVec.toNat_add]
theorem nL_sub (x y : Int64) (h : nL y ≤ nL x) : nL (x - y) = nL x - nL y := by
  have h1 := nL_lt x
  unfold nL at *
  rw [Int64.toBitVec_sub, BitVec.toNat_sub]
  omega
theorem nL_of {n : Nat} (h : n < 2 ^ 64) : nL (Int64.ofNat n) = n := by
  show n % 2 ^ 64 = n
  exact Nat.mod_eq_of_lt h
theorem nL_i32 (x : Int64) : x.toInt32 = nI (nL x) := by
  apply Int32.toBitVec_inj.mp
  rw [Int64.toBitVec_toInt32, BitVec.signExtend_eq_setWidth_of_le _ (by decide)]
  exact (BitVec.ofNat_toNat 32 _).symm
theorem J_pop {d Ln c s : Nat} {I : Nat → Nat → Int32} {L : Nat → Nat → Int64} {K : Int32 → (Nat → Nat → Int32) → (Nat → Nat → Int64) → Prop} {x : Int64} (hd : 28 ≤ d) (k : K (nI (popL (nL x))) I L) : dd_Ev d m_J13_bitCount_95d88 [.long x] (sM Ln I L c s) (dd_RI Ln c s K) := by
  refine w_J13_bitCount_95d88_0 hd (dd_qI ?_ k)
  clear k
  obtain ⟨p1, s1, s2, q1, b1, q2, b2, b3, q3⟩ := pc3 (nL_lt x)
  generalize g1 : (x - (((x.toUInt64 >>> ((1 : Int32).toInt64.toUInt64 &&& Int64.toUInt64 63)).toInt64) &&& (Int64.ofNat 6148914691236517205))) = S1
  have n1 : nL S1 = s1 := by
    rw [← g1, nL_sub _ _ (by rw [nL_and, li_1, nL_shr _ (by decide), nL_of (by decide)]; exact p1), nL_and, li_1, nL_shr _ (by decide), nL_of (by decide), q1]
  clear g1
  generalize g2 : ((S1 &&& (Int64.ofNat 3689348814741910323)) + (((S1.toUInt64 >>> ((2 : Int32).toInt64.toUInt64 &&& Int64.toUInt64 63)).toInt64) &&& (Int64.ofNat 3689348814741910323))) = S2
  have n2 : nL S2 = s2 := by
    rw [← g2, nL_add, nL_and, nL_and, li_2, nL_shr _ (by decide), nL_of (by decide), n1]
    show ((s1 &&& 3689348814741910323) + (s1 / 4 &&& 3689348814741910323)) % 2 ^ 64 = s2
    rw [← q2, Nat.mod_eq_of_lt b2]
  clear g2
  generalize g3 : ((S2 + ((S2.toUInt64 >>> ((4 : Int32).toInt64.toUInt64 &&& Int64.toUInt64 63)).toInt64)) &&& (Int64.ofNat 1085102592571150095)) = S3
  have n3 : nL S3 = vlB ((bysB (nL x) 8).map pop8) := by
    rw [← g3, nL_and, nL_add, li_4, nL_shr _ (by decide), nL_of (by decide), n2]
    show ((s2 + s2 / 16) % 2 ^ 64) &&& 1085102592571150095 = _
    rw [Nat.mod_eq_of_lt b3, q3]
  clear g3
  obtain ⟨u0, u4⟩ := pc5 (pop8_le (nL x % 256)) (pop8_le (nL x / 256 % 256)) (pop8_le (nL x / 256 / 256 % 256)) (pop8_le (nL x / 256 / 256 / 256 % 256)) (pop8_le (nL x / 256 / 256 / 256 / 256 % 256)) (pop8_le (nL x / 256 / 256 / 256 / 256 / 256 % 256)) (pop8_le (nL x / 256 / 256 / 256 / 256 / 256 / 256 % 256)) (pop8_le (nL x / 256 / 256 / 256 / 256 / 256 / 256 / 256 % 256)) (i := nL S3) n3 rfl rfl rfl
  generalize g4 : (S3 + ((S3.toUInt64 >>> ((8 : Int32).toInt64.toUInt64 &&& Int64.toUInt64 63)).toInt64)) = S4
  have n4 : nL S4 = nL S3 + nL S3 / 256 := by
    rw [← g4, nL_add, li_8, nL_shr _ (by decide)]
    exact (nw3 u0).1
  clear g4
  generalize g5 : (S4 + ((S4.toUInt64 >>> ((16 : Int32).toInt64.toUInt64 &&& Int64.toUInt64 63)).toInt64)) = S5
  have n5 : nL S5 = nL S4 + nL S4 / 65536 := by
    rw [← g5, nL_add, li_16, nL_shr _ (by decide)]
    exact (nw4 (by rw [n4]; exact (nw3 u0).2)).1
  clear g5
  generalize g6 : (S5 + ((S5.toUInt64 >>> ((32 : Int32).toInt64.toUInt64 &&& Int64.toUInt64 63)).toInt64)) = S6
  have n6 : nL S6 = nL S5 + nL S5 / 4294967296 := by
    rw [← g6, nL_add, li_32, nL_shr _ (by decide)]
    exact nw5 (by rw [n5]; exact (nw4 (by rw [n4]; exact (nw3 u0).2)).2)
  clear g6
  rw [nL_i32, nI_mod, pk_andN (by omega) 7 (by decide)]
  have fin : nL S6 % 2 ^ 32 % 2 ^ 7 = popL (nL x) := by
    rw [n6, n5, n4]
    rw [show (2 : Nat) ^ 7 = 128 by decide, u4]
    have := popB_sm 8 (nL x)
    unfold popL
    rw [← this]
    show _ = pop8 (nL x % 256) + (pop8 (nL x / 256 % 256) + (pop8 (nL x / 256 / 256 % 256) + (pop8 (nL x / 256 / 256 / 256 % 256) + (pop8 (nL x / 256 / 256 / 256 / 256 % 256) + (pop8 (nL x / 256 / 256 / 256 / 256 / 256 % 256) + (pop8 (nL x / 256 / 256 / 256 / 256 / 256 / 256 % 256) + (pop8 (nL x / 256 / 256 / 256 / 256 / 256 / 256 / 256 % 256) + 0)))))))
    simp only [Nat.add_assoc, Nat.add_zero]
  rw [fin]
theorem A_dense {d Ln c s : Nat} {I0 I : Nat → Nat → Int32} {L : Nat → Nat → Int64} {w : Nat → Nat} {im : Option (Nat → Nat)} {na od : Nat} {A : Nat → Nat → Nat} {tp : Nat → Nat} {tl : Nat} {fa : Option Nat} (hd : 60 ≤ d) (h : INV I0 w im na od A tp tl fa I L) : PIw d m_X10_dense [.ref 0] m_X11_dense [.ref 148] I0 Ln c s I L := by
  have hO := h.1.1
  have hC := h.2.2.1
  refine PIw.q h (nI (smA w 11 64)) ?_ ?_
  · intro K g
    refine w_X10_dense_0 (by omega) ?_
    refine J_pop (by omega) ?_
    have e : popL (nL (L 1 0)) = smA w 11 64 := by
      refine smF_cong (f := fun i => ((nL (L 1 0)).testBit i).toNat) (g := fun i => w (11 + i)) (fun i hi => ?_)
      show ((nL (L 1 0)).testBit i).toNat = w (11 + i)
      rw [nL_bit, hC.tree hi]
      have := (hO.2.1 i hi).1
      by_cases q : w (11 + i) = 1
      · rw [decide_eq_true q, q]; rfl
      · rw [decide_eq_false q]
        show 0 = w (11 + i)
        omega
    rw [e]
    exact dd_qi (g I L (FC.refl I L))
  · intro I1 L1 h1 K g
    have hR := h1.2.1
    refine w_X11_dense_0 (by omega) ?_
    rw [li_11]
    refine M_sumOfCells (w := w) (by omega) (hR.of (dd_un (by decide))) (by omega) ?_
    exact mqR hR rfl g
