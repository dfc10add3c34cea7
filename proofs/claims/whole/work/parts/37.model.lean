/-! The model: who is out; how soon -/
def outV (u : Nat → Nat) (v : Int32) : Prop := ∀ i, i < 32 → bX v i = (decide (i < u 1) && !decide (u (187 + 5 * i + 3) = 1))
theorem M_outOnes {d Ln c s : Nat} {I : Nat → Nat → Int32} {L : Nat → Nat → Int64} {K : Int32 → (Nat → Nat → Int32) → (Nat → Nat → Int64) → Prop} {w : Nat → Nat} (hd : 28 ≤ d) (hR : RM w I) (hO : OKW w) (k : ∀ v, outV w v → K v I L) : dd_Ev d m_X11_outOnes [.ref 148] (sM Ln I L c s) (dd_RI Ln c s K) := by
  have h1 := hO.1.2.1
  refine w_X11_outOnes_0 hd ?_
  have key : ∀ v : Int32, (∀ i, i < 32 → bX v i = (decide (i < 0) && !decide (w (187 + 5 * i + 3) = 1))) → dd_Rn d m_X11_outOnes (4, [.ref 148, .int v, .int (nI 0)], [], sM Ln I L c s) (dd_RI Ln c s K) := by
    refine dd_lp (fun b => ∀ v : Int32, (∀ i, i < 32 → bX v i = (decide (i < b) && !decide (w (187 + 5 * i + 3) = 1))) → dd_Rn d m_X11_outOnes (4, [.ref 148, .int v, .int (nI b)], [], sM Ln I L c s) (dd_RI Ln c s K)) (w 1) ?_ ?_
    · intro v hv
      refine w_X11_outOnes_4 hd ?_
      simp (disch := omega) only [nI_add, pk_mul, tn, nI_clamp, nI_eq, nI_leI, nI_ltI, pk_sub, pk_div, pk_rem, nI_nm, nI_nm2, nI_nle1, nI_nlt1, nI_le1, nI_lt1, li_0, li_1, li_2, li_3, li_4, li_5, li_6, li_7, li_8, li_9, li_10, li_11, li_12, li_13, li_14, li_15, li_16, li_17, li_18, li_19, li_20, li_21, li_22, li_23, li_24, li_25, li_26, li_27, li_28, li_29, li_30, li_31, li_32, li_33, li_34, li_35, li_36, li_37, li_38, li_39, li_40, li_41, li_42, li_43, li_44, li_45, li_46, li_47, li_48, li_49, li_50, li_51, li_52, li_53, li_54, li_55, li_56, li_57, li_58, li_59, li_60, li_61, li_62, li_63, li_64, li_65, li_66, li_67, li_68, li_69, li_75, li_97, li_99, li_100, li_101, li_102, li_120, li_122, li_127, li_139, li_187, li_222, li_223, li_224, li_225, li_226, li_255, li_256, li_299, li_400, li_465, li_522, li_523, li_571, li_849, li_999, li_1000, li_1100, li_1371, li_1372, li_1420, li_1984, li_2220, li_5742, li_6264, li_9999, li_10000, li_12345, li_32767, li_65536, li_1000000, li_252645135, li_858993459, li_1103515245, li_1431655765, dd_us, dd_un, dd_u_u, pk_us, pk_un, Bool.true_eq_false, Bool.false_eq_true, true_and, and_true, true_implies, false_implies, implies_true, not_true_eq_false, not_false_eq_true, ne_eq, forall_const, sdm, Nat.add_zero, Nat.zero_add, sb_m1n, nmn1, nmn2, nmn3, nmn4, nmn5, nmn6, bI_0n, bI_1n, ck_and, im_t, im_f, if_pos, if_neg, hR.g]
      exact dd_qi (k v hv)
    · intro b hb ih v hv
      have b3 := (hO.2.2.2.1 b (by omega)).2.2.2.2.1
      have vb : bX v b = false := by rw [hv b (by omega), decide_eq_false (Nat.lt_irrefl b)]; rfl
      have lt1 : ∀ i, i ≠ b → decide (i < b + 1) = decide (i < b) := fun i hi => by
        by_cases q : i < b
        · rw [decide_eq_true q, decide_eq_true (by omega)]
        · rw [decide_eq_false q, decide_eq_false (by omega)]
      refine w_X11_outOnes_4 hd ?_
      rw [hR.g (by omega), nI_leI (by omega) (by omega), im_f (by omega), true_and, im_t (by omega)]
      have ei : tn ((187 : Int32) + (5 : Int32) * nI b + 3) = 187 + 5 * b + 3 := by
        rw [li_187, li_5, li_3, pk_mul, nI_add, nI_add]
        exact nI_clamp (by omega)
      have e0 : 0 ≤ (187 : Int32) + (5 : Int32) * nI b + 3 := by
        rw [li_187, li_5, li_3, pk_mul, nI_add, nI_add]
        exact nI_pos' (by omega)
      rw [ei, hR.g (by omega), nI_1]
      refine ⟨⟨e0, by omega⟩, ?_⟩
      rw [li_1, nI_eq (by omega) (by omega), ← li_1]
      refine ⟨fun q => ih _ fun i hi => ?_, fun q => ih _ fun i hi => ?_⟩
      · rw [bX_or, bX_0, Bool.or_false]
        by_cases e : i = b
        · subst e
          rw [vb, decide_eq_true q, Bool.not_true, Bool.and_false]
        · rw [hv i hi, lt1 i e]
      · rw [bX_or, bX_one (by omega) hi]
        by_cases e : i = b
        · subst e
          rw [decide_eq_true rfl, Bool.or_true, decide_eq_true (by omega), decide_eq_false q]; rfl
        · rw [hv i hi, lt1 i e, decide_eq_false e, Bool.or_false]
  exact key 0 fun i hi => by rw [bX_0, decide_eq_false (Nat.not_lt_zero i)]; rfl
/-- all of a set are in -/
def allIn (u : Nat → Nat) (m : Int32) : Bool := allN (fun b => !bX m b || decide (u (187 + 5 * b + 3) = 1)) (u 1)
theorem allIn_iff {u : Nat → Nat} {m : Int32} : allIn u m = true ↔ ∀ b, b < u 1 → bX m b = true → u (187 + 5 * b + 3) = 1 := by
  unfold allIn
  rw [allN_iff]
  constructor
  · intro h b hb hm
    have := h b hb
    rw [hm] at this
    simpa using this
  · intro h b hb
    cases hm : bX m b with
    | false => rfl
    | true =>
      have := h b hb hm
      simp [this]
theorem outV_and {u : Nat → Nat} {v m : Int32} (h1 : u 1 ≤ 6) (hv : outV u v) : (v &&& m = 0) = (allIn u m = true) := by
  apply propext
  rw [allIn_iff]
  constructor
  · intro h b hb hm
    have := congrArg (fun x => bX x b) h
    simp only [bX_and, bX_0, hm, Bool.and_true] at this
    rw [hv b (by omega), decide_eq_true hb, Bool.true_and, Bool.not_eq_false'] at this
    exact of_decide_eq_true this
  · intro h
    refine bX_ext fun i hi => ?_
    rw [bX_and, bX_0, hv i hi]
    cases hm : bX m i with
    | false => rw [Bool.and_false]
    | true =>
      rw [Bool.and_true]
      by_cases q : i < u 1
      · rw [decide_eq_true q, decide_eq_true (h i q hm)]; rfl
      · rw [decide_eq_false q]; rfl
def due (p : Nat → Bool) : Nat := match frst p 101 with | some n => n | none => 101
theorem due_some {p : Nat → Bool} {n : Nat} (hp : p n = true) (hm : ∀ i, i < n → p i = false) (hn : n < 101) : due p = n := by
  unfold due
  rw [frst_some hp hm hn]
theorem due_none {p : Nat → Bool} (hm : ∀ i, i < 101 → p i = false) : due p = 101 := by
  unfold due
  rw [frst_none hm]
theorem due_le (p : Nat → Bool) : due p ≤ 101 := by
  unfold due
  rcases frst_cases p 101 with ⟨h, _⟩ | ⟨n, h1, h, _⟩
  · rw [h]; exact Nat.le_refl _
  · rw [h]; show n ≤ 101; omega
theorem M_soonFor {d Ln c s : Nat} {I : Nat → Nat → Int32} {L : Nat → Nat → Int64} {K : Int32 → (Nat → Nat → Int32) → (Nat → Nat → Int64) → Prop} {w w0 : Nat → Nat} {m : Int32} (hd : 37 ≤ d) (hR : RM w I) (hO : OKW w) (hT : ∀ j, j < 522 → I 152 j = nI (w0 j)) (hL : ∀ j, 522 ≤ j → w j = w0 j) (k : ∀ I', RM w0 I' → FW I I' → K (nI (due (fun n => allIn (goA true w n).1 m))) I' L) : dd_Ev d m_X11_soonFor [.ref 148, .int m] (sM Ln I L c s) (dd_RI Ln c s K) := by
  refine w_X11_soonFor_0 (by omega) ?_
  have fin : ∀ n I' v, RM (goA true w n).1 I' → FW I I' → due (fun n => allIn (goA true w n).1 m) = v → dd_Ev (d - 1) m_X11_bringsBack [.ref 148] (sM Ln I' L c s) (dd_RV Ln c s (fun I1 L1 => dd_RI Ln c s K (none, .int (nI v), sM Ln I1 L1 c s))) := by
    intro n I' v r f e
    have s1 := (goA_ok hO (cm := true) n).2
    refine M_bringsBack (w0 := w0) (by omega) r (fun j hj => by rw [f.1 152 (by decide) (by decide)]; exact hT j hj) (fun j hj => by rw [s1 j (by omega)]; exact hL j hj) fun g r1 => ?_
    have := k _ r1 (f.u (by decide) (by decide))
    rw [e] at this
    exact dd_qi this
  have key : ∀ I', RM (goA true w 0).1 I' → FW I I' → (∀ i, i < 0 → allIn (goA true w i).1 m = false) → dd_Rn d m_X11_soonFor (5, [.ref 148, .int m, .int (nI 101), .int (nI 0)], [], sM Ln I' L c s) (dd_RI Ln c s K) := by
    refine dd_lp (fun n => ∀ I', RM (goA true w n).1 I' → FW I I' → (∀ i, i < n → allIn (goA true w i).1 m = false) → dd_Rn d m_X11_soonFor (5, [.ref 148, .int m, .int (nI 101), .int (nI n)], [], sM Ln I' L c s) (dd_RI Ln c s K)) 101 ?_ ?_
    · intro I1 r1 f1 nf
      refine w_X11_soonFor_5 (by omega) ?_
      rw [li_100, nI_ltI (by omega) (by omega), im_t (by omega), im_f (by omega), and_true]
      exact fin 101 I1 101 r1 f1 (due_none nf)
    · intro n hn ih I1 r1 f1 nf
      obtain ⟨o1, s1⟩ := goA_ok hO (cm := true) n
      have e1 := s1 1 (by omega)
      refine w_X11_soonFor_5 (by omega) ?_
      rw [li_100, nI_ltI (by omega) (by omega), im_f (by omega), true_and, im_t (by omega), li_101, nI_eq (by omega) (by omega), im_t rfl, im_f (fun h => h rfl), and_true, nI_1]
      refine M_outOnes (by omega) r1 o1 fun v hv => ?_
      rw [outV_and (by rw [e1]; exact hO.1.2.1) hv]
      refine ⟨fun q => ?_, fun q => ?_⟩
      · refine M_oneBeat (cm := true) (by omega) r1 o1 fun I2 r2 f2 => ?_
        have ed := due_some (p := fun n => allIn (goA true w n).1 m) q nf hn
        refine w_X11_soonFor_5 (by omega) ?_
        rw [li_100, nI_ltI (by omega) (by omega), li_101, nI_eq (by omega) (by omega)]
        have f12 := f1.trans f2
        refine ⟨fun _ => fin (n + 1) I2 n r2 f12 ed, fun _ => ⟨fun q2 => absurd q2 (by omega), fun _ => fin (n + 1) I2 n r2 f12 ed⟩⟩
      · refine M_oneBeat (cm := true) (by omega) r1 o1 fun I2 r2 f2 => ?_
        refine ih I2 r2 (f1.trans f2) (lt_s nf ?_)
        cases hh : allIn (goA true w n).1 m with
        | true => exact absurd hh q
        | false => rfl
  exact key I hR (FR.refl I) (fun i hi => absurd hi (Nat.not_lt_zero i))
