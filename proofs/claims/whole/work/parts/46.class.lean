/-! The class: a real beat of a boy -/
theorem upw_id {w : Nat → Nat} {j : Nat} : upw w j (w j) = w := by
  funext i
  unfold upw
  split
  · rename_i h; rw [h]
  · rfl
theorem upw_uu {w : Nat → Nat} {j a b : Nat} : upw (upw w j a) j b = upw w j b := by
  funext i
  unfold upw
  split <;> rfl
theorem upw_sw {w : Nat → Nat} {i j a b : Nat} (h : i ≠ j) : upw (upw w i a) j b = upw (upw w j b) i a := by
  funext x
  unfold upw
  by_cases e1 : x = j
  · rw [if_pos e1, if_neg (by omega), if_pos e1]
  · rw [if_neg e1]
    by_cases e2 : x = i
    · rw [if_pos e2, if_pos e2]
    · rw [if_neg e2, if_neg e2, if_neg e1]
theorem tel_upw {w : Nat → Nat} {b x j v : Nat} (h : j < 222) (h9 : j ≠ 9) (h7 : j ≠ 7) (h8 : j ≠ 8) (hc : j ≠ 187 + 5 * b) (hb : b ≤ 6) : tel (upw w j v) b x = upw (tel w b x) j v := by
  funext i
  by_cases e : i = j
  · subst e
    rw [upw_eq, tel_lo h h9, upw_eq]
  · rw [upw_ne e]
    unfold tel
    rw [upw_ne (fun q => h9 q.symm), upw_ne (fun q => h7 q.symm), upw_ne (fun q => h8 q.symm), upw_ne (fun q => hc q.symm)]
    by_cases e9 : i = 9
    · rw [if_pos e9, if_pos e9]
    · rw [if_neg e9, if_neg e9]
      by_cases e1 : i < 222 ∨ 522 ≤ i
      · rw [if_pos e1, if_pos e1, upw_ne e]
      · rw [if_neg e1, if_neg e1]
        by_cases e2 : i = 222
        · rw [if_pos e2, if_pos e2]
        · rw [if_neg e2, if_neg e2]
          by_cases e3 : i = 223
          · rw [if_pos e3, if_pos e3]
          · rw [if_neg e3, if_neg e3]
            by_cases e4 : i = 224
            · rw [if_pos e4, if_pos e4]
            · rw [if_neg e4, if_neg e4]
              by_cases e5 : i = 225
              · rw [if_pos e5, if_pos e5]
              · rw [if_neg e5, if_neg e5]
                by_cases e6 : i = 226
                · rw [if_pos e6, if_pos e6]
                · rw [if_neg e6, if_neg e6, upw_ne (by omega)]
abbrev BN : List Nat := [1, 4, 7, 8, 133, 134, 135]
theorem BNs {z : Nat} {A B : List Nat} {I J : Nat → Nat → Int32} (h : FR z A [] I J) (hA : ∀ x, x ∈ A → x ∈ BN) : FR z BN B I J := h.mono hA (fun x hx => absurd hx List.not_mem_nil)
theorem C_bnE {d Ln c s : Nat} {I : Nat → Nat → Int32} {L : Nat → Nat → Int64} {K : Int32 → (Nat → Nat → Int32) → (Nat → Nat → Int64) → Prop} {u : Nat → Nat} {b : Nat} (hd : 29 ≤ d) (hC : RC u I L) (hO : OKW u) (hb : b < 6) (ht : ∀ I', RC (tel (upw u (187 + 5 * b + 3) 1) b 0) I' L → FR 25 BN [3, 4] I I' → u (187 + 5 * b) = u 4 → K 1 I' L) (hf : ¬ u (187 + 5 * b) = u 4 → K 0 I L) : (I 4 b = I 1 13 → dd_Ev (d - 1) m_X8_putBoy [.ref 1, .int (nI b), .int (I 1 13)] (sM Ln I L c s) (dd_RV Ln c s (fun I4 L4 => dd_Ev (d - 1) m_X8_writeRow [.ref 1, .int (nI b), .int 0] (sM Ln I4 L4 c s) (dd_RV Ln c s (fun I5 L5 => dd_RI Ln c s K (none, .int 1, sM Ln I5 L5 c s)))))) ∧ (¬ I 4 b = I 1 13 → dd_RI Ln c s K (none, .int 0, sM Ln I L c s)) := by
  have h4 := hO.1.2.2.2.1
  have b1 := (hO.2.2.2.1 b (by omega)).2.1
  rw [hC.cell hb, hC.fire, nI_eq (by omega) (by omega)]
  refine ⟨fun q => ?_, fun q => dd_qi (hf q)⟩
  refine C_putBoy (by omega) hC h4 hb h4 fun I1 c1 f1 => ?_
  have e : pbw u b (u 4) = upw u (187 + 5 * b + 3) 1 := by
    unfold pbw
    rw [if_pos rfl, ← q, upw_id]
  rw [e] at c1
  have o1 : OKW (upw u (187 + 5 * b + 3) 1) := okW_b hO (by omega) (by omega) (by omega)
  rw [li_0]
  refine C_writeRow (by omega) c1 o1 hb (by omega) fun I2 c2 f2 => ?_
  exact dd_qi (ht I2 c2 ((BNs f1 (by decide)).trans (BNs f2 (by decide))) q)
set_option maxHeartbeats 2000000 in
theorem C_beatNow {d Ln c s : Nat} {I : Nat → Nat → Int32} {L : Nat → Nat → Int64} {K : Int32 → (Nat → Nat → Int32) → (Nat → Nat → Int64) → Prop} {w : Nat → Nat} {b : Nat} (hd : 33 ≤ d) (hC : RC w I L) (hO : OKW w) (hL : RLw w I) (hb : b < 6) (hin : ¬ w (187 + 5 * b + 3) = 1) (hi : inb w b) (kk : ∀ I', RC (oneB false b w) I' L → FR 25 BN [3, 4] I I' → K (nI (oneC false b w)) I' L) : dd_Ev d m_X6_beatNow [.ref 133, .int (nI b)] (sM Ln I L c s) (dd_RI Ln c s K) := by
  have hk : (133 : Nat) = 133 ∨ (133 : Nat) = 136 := Or.inl rfl
  obtain ⟨w0, w1, w2, w4, w5, w6, w7, w8, w9, w10⟩ := hO.1
  obtain ⟨b0, b1, b2, b3, b4, b5⟩ := hO.2.2.2.1 b (by omega)
  have hcf : ¬ w (187 + 5 * b) = w 4 := fun q => hin (hi.mpr q)
  have hN := hO.2.2.1 _ b2 _ w7
  have tb : tn (nI b) = b := nI_clamp (by omega)
  have cb : 0 ≤ nI b ∧ b < 6 := ⟨nI_pos' (by omega), hb⟩
  refine w_X6_beatNow_0 (by omega) hk ?_
  refine C_follow (by omega) hk hC hO hb fun I1 v1 f1 => ?_
  have c1 := hC.fr f1 (kA hk)
  have l1 := hL.fr f1 (kA26 hk)
  have F1 : FR 25 BN [3, 4] I I1 := f1.mono (by decide) (by decide)
  have e7 : I1 (133 + 1) 7 &&& 7 = nI (w 7) := by rw [v1.1.2.2.2.2.1, and7 (by omega), Nat.mod_eq_of_lt w7]
  rw [e7, show tn (nI (w 7)) = w 7 from nI_clamp (by omega), v1.1.2.2.2.2.2.1 (w 7) w7]
  refine ⟨⟨nI_pos' (by omega), w7⟩, ?_⟩
  refine C_goesTo (by omega) hk c1 hO l1 v1 (by omega) b2 b3 b5 w7 w5 b1 hN fun I2 f2 => ?_
  have c2 : RC w I2 L := c1.fr f2 (fun _ _ _ => List.not_mem_nil)
  have F2 : FR 25 BN [3, 4] I I2 := F1.trans (f2.mono (fun x hx => absurd hx List.not_mem_nil) (fun x hx => hx))
  have vc2 : I2 133 4 = nI (w (187 + 5 * b)) := by rw [f2.1 133 List.not_mem_nil (by decide)]; exact v1.2.2.2.2
  rw [vF_fct]
  unfold oneB oneC at kk
  simp only [if_neg hin] at kk
  rw [tb]
  have m2 : ∀ n, n < 64 → (nI n = -2) = False := fun n hn => by
    refine eq_false fun h => ?_
    have := congrArg Int32.toInt h
    rw [nI_toInt (by omega)] at this
    have e : (-2 : Int32).toInt = -2 := rfl
    omega
  have eN : prow w (w (187 + 5 * b + 1)) (w 7) = ntB w b := rfl
  rw [eN]
  have eS : sts w (fct w b) (w (75 + w (187 + 5 * b))) (ntB w b) = stB w b (ntB w b) := rfl
  have eH : hrs w (fct w b) (w 5) (w (75 + w (187 + 5 * b))) (ntB w b) = hrB w b (ntB w b) := rfl
  unfold gtv
  rw [eS, eH]
  -- one who goes
  have go : ∀ x, x < 64 → (oneG false w b = if x = w 4 then upw (upw w (187 + 5 * b) x) (187 + 5 * b + 3) 1 else upw w (187 + 5 * b) x) → ((0 ≤ nI b ∧ b < 6) ∧ ((0 ≤ nI b ∧ b < 6) ∧ (((upd (I2 4) b (nI x)) b = I2 1 13 → dd_Ev (d - 1) m_X8_putBoy [.ref 1, .int (nI b), .int (I2 1 13)] (sM Ln (dd_u I2 4 (upd (I2 4) b (nI x))) L c s) (dd_RV Ln c s (fun I11 L11 => dd_Ev (d - 1) m_X8_writeRow [.ref 1, .int (nI b), .int 0] (sM Ln I11 L11 c s) (dd_RV Ln c s (fun I12 L12 => dd_RI Ln c s K (none, .int 1, sM Ln I12 L12 c s)))))) ∧ (¬ ((upd (I2 4) b (nI x)) b = I2 1 13) → dd_RI Ln c s K (none, .int 0, sM Ln (dd_u I2 4 (upd (I2 4) b (nI x))) L c s))))) := by
    intro x hx eg
    refine ⟨cb, cb, ?_⟩
    have c3 : RC (upw w (187 + 5 * b) x) (dd_u I2 4 (upd (I2 4) b (nI x))) L := c2.uCell hb
    have o3 : OKW (upw w (187 + 5 * b) x) := okW_b (k := 0) hO (by omega) (by omega) (by omega)
    have F3 : FR 25 BN [3, 4] I (dd_u I2 4 (upd (I2 4) b (nI x))) := F2.u (by decide) (by decide)
    have := C_bnE (K := K) (s := s) (c := c) (Ln := Ln) (d := d) (by omega) c3 o3 hb (fun I' r f q => ?_) (fun q => ?_)
    · rw [dd_us, dd_un (by decide : (1 : Nat) ≠ 4)] at this
      exact this
    · rw [upw_eq, upw_ne (by omega)] at q
      rw [eg, if_pos q] at kk
      rw [if_pos upw_eq, if_pos upw_eq] at kk
      exact kk I' r (F3.trans f)
    · rw [upw_eq, upw_ne (by omega)] at q
      rw [eg, if_neg q] at kk
      have hin' : ¬ upw w (187 + 5 * b) x (187 + 5 * b + 3) = 1 := by rw [upw_ne (by omega)]; exact hin
      rw [if_neg hin', if_neg hin'] at kk
      exact kk _ c3 F3
  by_cases q1 : stB w b (ntB w b) = true
  · simp only [if_pos q1, m2 _ b1, Bool.true_eq_false, Bool.false_eq_true, true_and, and_true, true_implies, false_implies, implies_true, not_true_eq_false, not_false_eq_true, ne_eq, forall_const]
    refine go _ b1 ?_
    rw [if_neg hcf, upw_id]
    unfold oneG gbS gbW
    rw [q1, if_pos (Or.inr (Or.inl rfl))]
    simp
  · have q1f : stB w b (ntB w b) = false := by cases hh : stB w b (ntB w b) with | true => exact absurd hh q1 | false => rfl
    simp only [if_neg q1]
    by_cases q2 : hrB w b (ntB w b) = true
    · simp only [if_pos q2, m2 _ (cby_lt b1), Bool.true_eq_false, Bool.false_eq_true, true_and, and_true, true_implies, false_implies, implies_true, not_true_eq_false, not_false_eq_true, ne_eq, forall_const]
      refine go _ (cby_lt b1) ?_
      have eW : gbW w b (ntB w b) = ist w b (cby w (w (187 + 5 * b)) (ntB w b)) := by
        unfold gbW
        rw [q1f, q2, if_neg (by simp [hin])]
      have eS0 : gbS w b (ntB w b) = false := by
        unfold gbS
        rw [q1f, q2]
        simp
      unfold oneG
      rw [eS0, eW]
      rfl
    · have q2f : hrB w b (ntB w b) = false := by cases hh : hrB w b (ntB w b) with | true => exact absurd hh q2 | false => rfl
      simp only [if_neg q2, Bool.true_eq_false, Bool.false_eq_true, true_and, and_true, true_implies, false_implies, implies_true, not_true_eq_false, not_false_eq_true, ne_eq, forall_const]
      have eg : oneG false w b = stry w b := by
        unfold oneG gbS gbW
        rw [q1f, q2f, decide_eq_true hin, if_pos (Or.inr (Or.inr rfl))]
        simp
      rw [eg] at kk
      unfold stry at kk
      have o1 := okW_drw hO
      have o2 := okW_drw o1
      refine C_takeDraw (by omega) c2 fun I3 c3 f3 => ?_
      have F3 : FR 25 BN [3, 4] I I3 := F2.trans (BNs f3 (by decide))
      have e6 : drw w 6 = w 6 := drw_ne (by omega)
      have ec : drw w (187 + 5 * b) = w (187 + 5 * b) := drw_ne (by omega)
      have ei : drw w (187 + 5 * b + 3) = w (187 + 5 * b + 3) := drw_ne (by omega)
      have e4 : drw w 4 = w 4 := drw_ne (by omega)
      have ed : nI ((1103515245 * w 10 + 12345) % 2 ^ 32 / 65536 % 32768) - nI ((1103515245 * w 10 + 12345) % 2 ^ 32 / 65536 % 32768) / 100 * 100 = nI (drn w 100) := by
        rw [li_100, pk_rem (by omega) (by omega) (by omega)]
        rfl
      have dl : drn w 100 < 100 := Nat.mod_lt _ (by omega)
      rw [ed, c3.stray, e6, nI_leI (by omega) (by omega)]
      refine ⟨fun q3 => ⟨cb, ?_⟩, fun q3 => ?_⟩
      · simp only [if_pos q3] at kk
        refine C_bnE (by omega) c3 o1 hb (fun I' _ _ q => ?_) (fun q => ?_)
        · rw [ec, e4] at q
          exact absurd q hcf
        · rw [ei, if_neg hin, if_neg hin] at kk
          exact kk I3 c3 F3
      · simp only [if_neg q3] at kk
        refine C_takeDraw (by omega) c3 fun I4 c4 f4 => ?_
        have F4 : FR 25 BN [3, 4] I I4 := F3.trans (BNs f4 (by decide))
        have vc3 : I3 133 4 = nI (w (187 + 5 * b)) := by rw [f3.1 133 (by decide) (by decide)]; exact vc2
        have ed4 : (1 : Int32) + (nI ((1103515245 * drw w 10 + 12345) % 2 ^ 32 / 65536 % 32768) - nI ((1103515245 * drw w 10 + 12345) % 2 ^ 32 / 65536 % 32768) / 4 * 4) = nI (1 + drn (drw w) 4) := by
          rw [li_4, pk_rem (by omega) (by omega) (by omega), li_1, nI_add]
          rfl
        have dl4 : drn (drw w) 4 < 4 := Nat.mod_lt _ (by omega)
        rw [ed4, vc3]
        refine C_stepTo (by omega) c4 b1 (by omega) ?_
        have st_lt : stp (drw (drw w)) (w (187 + 5 * b)) (1 + drn (drw w) 4) < 64 := stp_lt b1
        have e2c : drw (drw w) (187 + 5 * b) = w (187 + 5 * b) := by rw [drw_ne (by omega), ec]
        have e2b : drw (drw w) (187 + 5 * b + 4) = w (187 + 5 * b + 4) := by rw [drw_ne (by omega), drw_ne (by omega)]
        have e2i : drw (drw w) (187 + 5 * b + 3) = w (187 + 5 * b + 3) := by rw [drw_ne (by omega), ei]
        have e24 : drw (drw w) 4 = w 4 := by rw [drw_ne (by omega), e4]
        have kk3 : str3 (drw w) b = upw (ist (drw (drw w)) b (stp (drw (drw w)) (w (187 + 5 * b)) (1 + drn (drw w) 4))) (187 + 5 * b + 4) (min 99 (w (187 + 5 * b + 4) + 1)) := by
          unfold str3 str2
          rw [e2c]
          congr 2
          unfold ist
          split
          · rw [upw_ne (by omega), upw_ne (by omega), e2b]
          · rw [upw_ne (by omega), e2b]
        rw [kk3] at kk
        generalize hx : stp (drw (drw w)) (w (187 + 5 * b)) (1 + drn (drw w) 4) = x at *
        refine ⟨cb, cb, cb, ?_⟩
        have c5 : RC (upw (upw (drw (drw w)) (187 + 5 * b) x) (187 + 5 * b + 4) (min 99 (w (187 + 5 * b + 4) + 1))) (dd_u (dd_u I4 4 (upd (I4 4) b (nI x))) 7 (upd (I4 7) b (nI (min 99 (w (187 + 5 * b + 4) + 1))))) L := by
          have := (c4.uCell (v := x) hb).uBad (v := min 99 (w (187 + 5 * b + 4) + 1)) hb
          rw [dd_un (by decide)] at this
          exact this
        have ebad : (if (99 : Int32) < I4 7 b + 1 then 99 else I4 7 b + 1) = nI (min 99 (w (187 + 5 * b + 4) + 1)) := by
          rw [c4.bad hb, e2b, nI_1, li_99]
          simp (disch := omega) only [nI_ltI, ite_n]
          refine congrArg nI ?_
          split <;> omega
        rw [ebad]
        have o5 : OKW (upw (upw (drw (drw w)) (187 + 5 * b) x) (187 + 5 * b + 4) (min 99 (w (187 + 5 * b + 4) + 1))) := okW_b (okW_b (k := 0) o2 (by omega) (by omega) (by omega)) (by omega) (by omega) (by omega)
        have F5 : FR 25 BN [3, 4] I (dd_u (dd_u I4 4 (upd (I4 4) b (nI x))) 7 (upd (I4 7) b (nI (min 99 (w (187 + 5 * b + 4) + 1))))) := (F4.u (by decide) (by decide)).u (by decide) (by decide)
        rw [li_1]
        refine C_writeRow (by omega) c5 o5 hb (by omega) fun I6 c6 f6 => ⟨cb, ?_⟩
        have F6 : FR 25 BN [3, 4] I I6 := F5.trans (BNs f6 (by decide))
        have o6 := okW_tel o5 (b := b) (x := 1)
        refine C_bnE (by omega) c6 o6 hb (fun I' r f q => ?_) (fun q => ?_)
        · rw [tel_lo (by omega) (by omega), tel_lo (by omega) (by omega), upw_ne (by omega), upw_eq, upw_ne (by omega), upw_ne (by omega), e24] at q
          have ei2 : ist (drw (drw w)) b x = upw (upw (drw (drw w)) (187 + 5 * b) x) (187 + 5 * b + 3) 1 := by unfold ist; rw [if_pos (by rw [e24]; exact q)]
          rw [ei2, upw_sw (by omega), tel_upw (by omega) (by omega) (by omega) (by omega) (by omega) (by omega)] at kk
          rw [if_pos upw_eq, if_pos upw_eq] at kk
          exact kk I' r (F6.trans f)
        · rw [tel_lo (by omega) (by omega), tel_lo (by omega) (by omega), upw_ne (by omega), upw_eq, upw_ne (by omega), upw_ne (by omega), e24] at q
          have ei2 : ist (drw (drw w)) b x = upw (drw (drw w)) (187 + 5 * b) x := by unfold ist; rw [if_neg (by rw [e24]; exact q)]
          rw [ei2] at kk
          have hin' : ¬ tel (upw (upw (drw (drw w)) (187 + 5 * b) x) (187 + 5 * b + 4) (min 99 (w (187 + 5 * b + 4) + 1))) b 1 (187 + 5 * b + 3) = 1 := by
            rw [tel_lo (by omega) (by omega), upw_ne (by omega), upw_ne (by omega), e2i]
            exact hin
          rw [if_neg hin', if_neg hin'] at kk
          exact kk I6 c6 F6
