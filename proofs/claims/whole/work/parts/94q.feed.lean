/-! feed -/
theorem Int8_bit (x : Int32) (i : Nat) (hi : i < 8) : x.toInt8.toBitVec.getLsbD i = bX x i := by
  rw [Int32.toBitVec_toInt8, BitVec.signExtend_eq_setWidth_of_le _ (by decide), BitVec.getLsbD_setWidth, decide_eq_true hi, Bool.true_and]
  rfl
theorem Int8_ext {x y : Int8} (h : ∀ i, i < 8 → x.toBitVec.getLsbD i = y.toBitVec.getLsbD i) : x = y := Int8.toBitVec_inj.mp (BitVec.eq_of_getLsbD_eq h)
theorem byt_sh {m k : Nat} (hm : m < 2 ^ 32) (hk : k + 8 ≤ 32) : ((((nI m >>> (nI k &&& 31)).toInt8.toInt32).toInt8).toInt32) = byt (m / 2 ^ k % 256) := by
  have e1 : ∀ z : Int8, z.toInt32.toInt8 = z := fun z => Int8.toInt8_toInt32 z
  rw [e1]
  unfold byt
  congr 1
  refine Int8_ext fun i hi => ?_
  rw [Int8_bit _ i hi, Int8_bit _ i hi, bX_sar _ (by omega) (by omega), if_pos (by omega), bX_n (by omega), bX_n (by omega), show (256 : Nat) = 2 ^ 8 by decide, Nat.testBit_mod_two_pow, decide_eq_true hi, Bool.true_and, Nat.testBit_div_two_pow, Nat.add_comm]
theorem C_putBytes {d Ln c s : Nat} {I : Nat → Nat → Int32} {L : Nat → Nat → Int64} {K : (Nat → Nat → Int32) → (Nat → Nat → Int64) → Prop} {m t : Nat} (hd : 28 ≤ d) (hm : m < 2 ^ 32) (ht : t + 4 ≤ 400) (h9 : I 0 9 = nI t) (kk : ∀ I', (∀ k, k ≠ 0 → k ≠ 129 → I' k = I k) → (∀ j, j ≠ 9 → I' 0 j = I 0 j) → I' 0 9 = nI (t + 4) → (∀ j, j < t ∨ t + 4 ≤ j → I' 129 j = I 129 j) → (∀ r, r < 4 → I' 129 (t + r) = nI (m / 2 ^ (24 - 8 * r) % 256)) → K I' L) : dd_Ev d m_X10_putBytes [.ref 0, .int (nI m)] (sM Ln I L c s) (dd_RV Ln c s K) := by
  refine w_X10_putBytes_0 hd ?_
  have key : ∀ I' : Nat → Nat → Int32, (∀ k, k ≠ 0 → k ≠ 129 → I' k = I k) → (∀ j, j ≠ 9 → I' 0 j = I 0 j) → I' 0 9 = nI (t + 0) → (∀ j, j < t ∨ t + 4 ≤ j → I' 129 j = I 129 j) → (∀ r, r < 0 → I' 129 (t + r) = nI (m / 2 ^ (24 - 8 * r) % 256)) → dd_Rn d m_X10_putBytes (3, [.ref 0, .int (nI m), .int (if 0 < 4 then nI (24 - 8 * 0) else -8)], [], sM Ln I' L c s) (dd_RV Ln c s K) := by
    refine dd_lp (fun i => ∀ I' : Nat → Nat → Int32, (∀ k, k ≠ 0 → k ≠ 129 → I' k = I k) → (∀ j, j ≠ 9 → I' 0 j = I 0 j) → I' 0 9 = nI (t + i) → (∀ j, j < t ∨ t + 4 ≤ j → I' 129 j = I 129 j) → (∀ r, r < i → I' 129 (t + r) = nI (m / 2 ^ (24 - 8 * r) % 256)) → dd_Rn d m_X10_putBytes (3, [.ref 0, .int (nI m), .int (if i < 4 then nI (24 - 8 * i) else -8)], [], sM Ln I' L c s) (dd_RV Ln c s K)) 4 ?_ ?_
    · intro I' h1 h2 h3 h4 h5
      refine w_X10_putBytes_3 hd ?_
      rw [if_neg (by decide)]
      exact ⟨fun _ => dd_qV (kk I' h1 h2 h3 h4 h5), fun z => absurd (by decide) z⟩
    · intro i hi ih I' h1 h2 h3 h4 h5
      have tt : tn (nI (t + i)) = t + i := nI_clamp (by omega)
      have en : nI (24 - 8 * i) + (-8) = if i + 1 < 4 then nI (24 - 8 * (i + 1)) else -8 := by
        have e : i = 0 ∨ i = 1 ∨ i = 2 ∨ i = 3 := by omega
        rcases e with e | e | e | e <;> subst e <;> decide
      have eb : ((((nI m).toUInt32 >>> ((nI (24 - 8 * i)).toUInt32 &&& Int32.toUInt32 31)).toInt32) &&& (255 : Int32)) = nI (m / 2 ^ (24 - 8 * i) % 256) := by
        rw [pk_ushrN hm (nI (24 - 8 * i)) (24 - 8 * i) (by
          have e : i = 0 ∨ i = 1 ∨ i = 2 ∨ i = 3 := by omega
          rcases e with e | e | e | e <;> subst e <;> decide), pk_andN (Nat.lt_of_le_of_lt (Nat.div_le_self _ _) hm) 8 (by decide)]
      refine w_X10_putBytes_3 hd ?_
      rw [if_pos hi, h3, tt, li_400, nI_leI (by omega) (by omega), eb, en, nI_1]
      refine ⟨fun z => absurd z (nI_pos (by omega)), fun _ => ⟨fun z => absurd z (by omega), fun _ => ⟨⟨nI_pos' (by omega), by omega⟩, ih _ ?_ ?_ ?_ ?_ ?_⟩⟩⟩
      · intro k k0 k1
        rw [dd_un k0, dd_un k1]; exact h1 k k0 k1
      · intro j hj
        rw [dd_us, pk_un hj]; exact h2 j hj
      · rw [dd_us, pk_us]; rfl
      · intro j hj
        rw [dd_un (by decide), dd_us, pk_un (by omega)]; exact h4 j hj
      · intro r hr
        rw [dd_un (by decide), dd_us]
        by_cases e : r = i
        · subst e; rw [pk_us]
        · rw [pk_un (by omega)]; exact h5 r (by omega)
  have := key I (fun _ _ _ => rfl) (fun _ _ => rfl) (by rw [h9]; rfl) (fun _ _ => rfl) (fun r hr => absurd hr (Nat.not_lt_zero r))
  rw [if_pos (by decide)] at this
  exact this
def fdB (M : Nat → Nat) (i : Nat) : Nat := M (i / 4) / 2 ^ (24 - 8 * (i % 4)) % 256
def fdT (tp : Nat → Nat) (tl : Nat) (M : Nat → Nat) : Nat → Nat := fun j => if tl ≤ j ∧ j < tl + 20 then fdB M (j - tl) else tp j
def sel5 (m0 m1 m2 m3 m4 : Nat) : Nat → Nat := fun i => if i = 0 then m0 else if i = 1 then m1 else if i = 2 then m2 else if i = 3 then m3 else m4
theorem A_feed {d Ln c s : Nat} {I0 I : Nat → Nat → Int32} {L : Nat → Nat → Int64} {w : Nat → Nat} {im : Option (Nat → Nat)} {na od : Nat} {A : Nat → Nat → Nat} {tp : Nat → Nat} {tl : Nat} {fa : Option Nat} (hd : 60 ≤ d) (h : INV I0 w im na od A tp tl fa I L) (a1 a2 a3 a4 a5 : Int32) : PIw d m_X10_feed [.ref 0, .int a1, .int a2, .int a3, .int a4, .int a5] m_X11_feed [.ref 148, .int a1, .int a2, .int a3, .int a4, .int a5] I0 Ln c s I L := by
  obtain ⟨t1, t2, t3, t4, t5⟩ := h.2.2.2.2.2.2.1
  have e20 : nI tl + 20 = nI (tl + 20) := by rw [li_20, nI_add]
  by_cases hv : tl + 20 ≤ 400
  · obtain ⟨m0, b0, rfl⟩ := i32_of a1
    obtain ⟨m1, b1, rfl⟩ := i32_of a2
    obtain ⟨m2, b2, rfl⟩ := i32_of a3
    obtain ⟨m3, b3, rfl⟩ := i32_of a4
    obtain ⟨m4, b4, rfl⟩ := i32_of a5
    let M := sel5 m0 m1 m2 m3 m4
    have bM : ∀ i, M i < 2 ^ 32 := by
      intro i
      show sel5 m0 m1 m2 m3 m4 i < _
      unfold sel5
      split
      · exact b0
      · split
        · exact b1
        · split
          · exact b2
          · split
            · exact b3
            · exact b4
    intro G g
    refine w_X10_feed_0 (by omega) ?_
    rw [t4, e20, li_400, nI_leI (by omega) (by omega)]
    refine ⟨fun _ => ?_, fun z => absurd hv z⟩
    refine C_putBytes (t := tl) (by omega) b0 (by omega) t4 fun I1 p1 q1 r1 u1 v1 => ?_
    refine C_putBytes (t := tl + 4) (by omega) b1 (by omega) r1 fun I2 p2 q2 r2 u2 v2 => ?_
    refine C_putBytes (t := tl + 4 + 4) (by omega) b2 (by omega) r2 fun I3 p3 q3 r3 u3 v3 => ?_
    refine C_putBytes (t := tl + 4 + 4 + 4) (by omega) b3 (by omega) r3 fun I4 p4 q4 r4 u4 v4 => ?_
    refine C_putBytes (t := tl + 4 + 4 + 4 + 4) (by omega) b4 (by omega) r4 fun I5 p5 q5 r5 u5 v5 => ?_
    rw [r5]
    refine dd_qi ?_
    have fk : ∀ k, k ≠ 0 → k ≠ 129 → I5 k = I k := fun k k0 k1 => by rw [p5 k k0 k1, p4 k k0 k1, p3 k k0 k1, p2 k k0 k1, p1 k k0 k1]
    refine ⟨fun k hk => by rw [fk k (by omega) (by omega)]; exact h.2.2.2.2.2.2.2.2 k hk, ?_⟩
    have f0 : ∀ j, j ≠ 9 → I5 0 j = I 0 j := fun j hj => by rw [q5 j hj, q4 j hj, q3 j hj, q2 j hj, q1 j hj]
    have f29 : ∀ j, j < 400 → I5 129 j = nI (fdT tp tl M j) := by
      intro j hj
      unfold fdT
      by_cases z : tl ≤ j ∧ j < tl + 20
      · rw [if_pos z]
        obtain ⟨i, rfl⟩ : ∃ i, j = tl + i := ⟨j - tl, by omega⟩
        rw [Nat.add_sub_cancel_left]
        unfold fdB
        have hi : i < 20 := by omega
        have eM : i / 4 = 0 ∨ i / 4 = 1 ∨ i / 4 = 2 ∨ i / 4 = 3 ∨ i / 4 = 4 := by omega
        rcases eM with e | e | e | e | e
        · rw [u5 _ (by omega), u4 _ (by omega), u3 _ (by omega), u2 _ (by omega), show tl + i = tl + i % 4 by omega, v1 (i % 4) (by omega), e]; rfl
        · rw [u5 _ (by omega), u4 _ (by omega), u3 _ (by omega), show tl + i = tl + 4 + i % 4 by omega, v2 (i % 4) (by omega), e]; rfl
        · rw [u5 _ (by omega), u4 _ (by omega), show tl + i = tl + 4 + 4 + i % 4 by omega, v3 (i % 4) (by omega), e]; rfl
        · rw [u5 _ (by omega), show tl + i = tl + 4 + 4 + 4 + i % 4 by omega, v4 (i % 4) (by omega), e]; rfl
        · rw [show tl + i = tl + 4 + 4 + 4 + 4 + i % 4 by omega, v5 (i % 4) (by omega), e]; rfl
      · rw [if_neg z, u5 _ (by omega), u4 _ (by omega), u3 _ (by omega), u2 _ (by omega), u1 _ (by omega)]
        exact (t5 j hj).1
    refine w_X11_feed_0 (by omega) ?_
    have e148 : I5 148 = I 148 := fk 148 (by omega) (by omega)
    rw [e148, t3, e20, li_400, nI_leI (by omega) (by omega)]
    refine ⟨fun _ => ?_, fun z => absurd hv z⟩
    simp only [dd_u_u]
    have k155 : ∀ q, q < 5 → dd_u (dd_u I5 148 (upd (I 148) 0 0)) 155 (upd (upd (upd (upd (upd (I5 155) 0 (nI m0)) 1 (nI m1)) 2 (nI m2)) 3 (nI m3)) 4 (nI m4)) 155 q = nI (M q) := by
      intro q hq
      rw [dd_us]
      have e : q = 0 ∨ q = 1 ∨ q = 2 ∨ q = 3 ∨ q = 4 := by omega
      rcases e with e | e | e | e | e <;> subst e
      · rw [pk_un (by decide), pk_un (by decide), pk_un (by decide), pk_un (by decide), pk_us]; rfl
      · rw [pk_un (by decide), pk_un (by decide), pk_un (by decide), pk_us]; rfl
      · rw [pk_un (by decide), pk_un (by decide), pk_us]; rfl
      · rw [pk_un (by decide), pk_us]; rfl
      · rw [pk_us]; rfl
    have k148 : ∀ j, j ≠ 0 → dd_u (dd_u I5 148 (upd (I 148) 0 0)) 155 (upd (upd (upd (upd (upd (I5 155) 0 (nI m0)) 1 (nI m1)) 2 (nI m2)) 3 (nI m3)) 4 (nI m4)) 148 j = I 148 j := fun j hj => by
      rw [dd_un (by decide), dd_us, pk_un hj]
    have kk : ∀ k, k ≠ 148 → k ≠ 155 → dd_u (dd_u I5 148 (upd (I 148) 0 0)) 155 (upd (upd (upd (upd (upd (I5 155) 0 (nI m0)) 1 (nI m1)) 2 (nI m2)) 3 (nI m3)) 4 (nI m4)) k = I5 k := fun k k1 k2 => by
      rw [dd_un k2, dd_un k1]
    generalize dd_u (dd_u I5 148 (upd (I 148) 0 0)) 155 (upd (upd (upd (upd (upd (I5 155) 0 (nI m0)) 1 (nI m1)) 2 (nI m2)) 3 (nI m3)) 4 (nI m4)) = J at *
    have key : ∀ f, (∀ j, j < 400 → ¬ (tl ≤ j ∧ j < tl + 20) → f j = byt (tp j)) → (∀ i, i < 0 → f (tl + i) = byt (fdB M i)) → dd_Rn d m_X11_feed (60, [.ref 148, .int (nI m0), .int (nI m1), .int (nI m2), .int (nI m3), .int (nI m4), .int (nI 0)], [], sM Ln (dd_u J 154 f) L c s) (dd_RI Ln c s (fun x2 I2 L2 => G (nI (tl + 4 + 4 + 4 + 4 + 4)) x2 I2 L2)) := by
      refine dd_lp (fun i => ∀ f, (∀ j, j < 400 → ¬ (tl ≤ j ∧ j < tl + 20) → f j = byt (tp j)) → (∀ r, r < i → f (tl + r) = byt (fdB M r)) → dd_Rn d m_X11_feed (60, [.ref 148, .int (nI m0), .int (nI m1), .int (nI m2), .int (nI m3), .int (nI m4), .int (nI i)], [], sM Ln (dd_u J 154 f) L c s) (dd_RI Ln c s (fun x2 I2 L2 => G (nI (tl + 4 + 4 + 4 + 4 + 4)) x2 I2 L2))) 20 ?_ ?_
      · intro f h1 h2
        refine w_X11_feed_60 (by omega) ?_
        have e9 : dd_u J 154 f 148 9 = nI tl := by rw [dd_un (by decide), k148 9 (by decide)]; exact t3
        rw [e9, e20, li_20, nI_leI (by omega) (by omega)]
        refine ⟨fun _ => dd_qi ?_, fun z => absurd (Nat.le_refl _) z⟩
        rw [show tl + 20 = tl + 4 + 4 + 4 + 4 + 4 by omega]
        refine g _ _ L ⟨w, im, na, od, A, fdT tp tl M, tl + 20, fa, h.tape hv ?_ ?_ ?_ ?_ ?_ ?_ ?_ ?_ ?_ ?_⟩
        · intro j
          unfold fdT
          split
          · unfold fdB; omega
          · exact t2 j
        · intro k k0 k8 k129 k154 k155'
          rw [dd_un k8, dd_un k154, kk k k8 k155', fk k k0 k129]
        · rw [dd_un (by decide), dd_un (by decide), kk 0 (by decide) (by decide), f0 6 (by decide)]
        · rw [dd_un (by decide), dd_un (by decide), kk 0 (by decide) (by decide), r5]
        · rw [dd_un (by decide), dd_un (by decide), kk 0 (by decide) (by decide), f0 10 (by decide)]
        · rw [dd_us, pk_un (by decide), dd_un (by decide), k148 6 (by decide)]
        · rw [dd_us, pk_un (by decide), dd_un (by decide), k148 7 (by decide)]
        · rw [dd_us, pk_us]
        · rw [dd_us, pk_un (by decide), dd_un (by decide), k148 14 (by decide)]
        · intro j hj
          refine ⟨?_, ?_⟩
          · rw [dd_un (by decide), dd_un (by decide), kk 129 (by decide) (by decide)]; exact f29 j hj
          · rw [dd_un (by decide), dd_us]
            unfold fdT
            by_cases z : tl ≤ j ∧ j < tl + 20
            · rw [if_pos z]
              have := h2 (j - tl) (by omega)
              rw [show tl + (j - tl) = j by omega] at this
              exact this
            · rw [if_neg z]; exact h1 j hj z
      · intro i hi ih f h1 h2
        refine w_X11_feed_60 (by omega) ?_
        have e9 : dd_u J 154 f 148 9 = nI tl := by rw [dd_un (by decide), k148 9 (by decide)]; exact t3
        have e4 : nI i / 4 = nI (i / 4) := by rw [li_4, pk_div (by omega) (by omega) (by omega)]
        have t4' : tn (nI (i / 4)) = i / 4 := nI_clamp (by omega)
        have ti : tn (nI (tl + i)) = tl + i := nI_clamp (by omega)
        have em : nI i - nI (i / 4) * 4 = nI (i % 4) := by rw [li_4, pk_mul, pk_sub (by omega)]; congr 1; omega
        have es : (24 : Int32) - 8 * nI (i % 4) = nI (24 - 8 * (i % 4)) := by rw [li_24, li_8, pk_mul, pk_sub (by omega)]
        have eti : nI tl + nI i = nI (tl + i) := by rw [nI_add]
        have e55 : dd_u J 154 f 155 (i / 4) = nI (M (i / 4)) := by rw [dd_un (by decide)]; exact k155 _ (by omega)
        rw [e9, li_20, nI_leI (by omega) (by omega), e4, t4', em, es, eti, ti, e55, byt_sh (bM _) (by omega), dd_us, dd_u_u, nI_1]
        refine ⟨fun z => absurd z (by omega), fun _ => ⟨⟨nI_pos' (by omega), by omega⟩, ⟨nI_pos' (by omega), by omega⟩, ih _ (fun j hj hz => ?_) (fun r hr => ?_)⟩⟩
        · rw [pk_un (by omega)]; exact h1 j hj hz
        · by_cases e : r = i
          · subst e; rw [pk_us]; rfl
          · rw [pk_un (by omega)]; exact h2 r (by omega)
    have e154 : ∀ j, j < 400 → J 154 j = byt (tp j) := fun j hj => by rw [kk 154 (by decide) (by decide), fk 154 (by omega) (by omega)]; exact (t5 j hj).2
    have := key (J 154) (fun j hj _ => e154 j hj) (fun r hr => absurd hr (Nat.not_lt_zero r))
    rw [dd_u_id] at this
    exact this
  · refine PIw.q h (-1) ?_ ?_
    · intro K g
      refine w_X10_feed_0 (by omega) ?_
      rw [t4, e20, li_400, nI_leI (by omega) (by omega)]
      exact ⟨fun z => absurd z hv, fun _ => dd_qi (g I L (FC.refl I L))⟩
    · intro I1 L1 h1 K g
      refine w_X11_feed_0 (by omega) ?_
      rw [h1.2.2.2.2.2.2.1.2.2.1, e20, li_400, nI_leI (by omega) (by omega)]
      exact ⟨fun z => absurd z hv, fun _ => mqR h1.2.1 rfl g⟩
