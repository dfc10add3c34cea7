/-! Acts: sing; what beats keep -/
def GD (w : Nat → Nat) : Prop := opF w ∧ okL w ∧ zbs w
theorem opn_stp {w : Nat → Nat} {x sd : Nat} (h : ¬ w (11 + x) = 1) : ¬ w (11 + stp w x sd) = 1 := by
  unfold stp
  split
  · split
    · rename_i q; exact q.2
    · exact h
  · split
    · split
      · rename_i q; exact q.2
      · exact h
    · split
      · split
        · rename_i q; exact q.2
        · exact h
      · split
        · split
          · rename_i q; exact q.2
          · exact h
        · exact h
theorem opn_nrx {w : Nat → Nat} {x : Nat} (h : ¬ w (11 + x) = 1) : ¬ w (11 + nrx w x) = 1 := by
  unfold nrx
  split
  · exact h
  · split
    · exact opn_stp h
    · exact opn_stp h
theorem opn_nry {w : Nat → Nat} {x : Nat} (h : ¬ w (11 + x) = 1) : ¬ w (11 + nry w x) = 1 := by
  unfold nry
  split
  · exact h
  · split
    · exact opn_stp h
    · exact opn_stp h
theorem opn_cby {w : Nat → Nat} {x n : Nat} (h : ¬ w (11 + x) = 1) : ¬ w (11 + cby w x n) = 1 := by
  unfold cby nrr
  split
  · split
    · split
      · exact opn_nry h
      · exact opn_nrx h
    · split
      · exact opn_nrx h
      · exact opn_nry h
  · split
    · exact opn_stp h
    · exact h
theorem okL_tel {w : Nat → Nat} {b x : Nat} (h : okL w) (h9 : w 9 ≤ 60) (h8 : w 8 ≤ 9999) (h7 : w 7 < 8) (hb : b < 8) (hx : x ≤ 1) (hc : w (187 + 5 * b) < 64) : okL (tel w b x) := by
  intro a ha
  rw [tel_9] at ha
  by_cases q : a = 0
  · subst q
    have e0 : tel w b x (222 + 5 * 0) = w 8 := rfl
    have e1 : tel w b x (222 + 5 * 0 + 1) = w 7 := rfl
    have e2 : tel w b x (222 + 5 * 0 + 2) = b := rfl
    have e3 : tel w b x (222 + 5 * 0 + 3) = x := rfl
    have e4 : tel w b x (222 + 5 * 0 + 4) = w (187 + 5 * b) := rfl
    rw [e0, e1, e2, e3, e4]
    exact ⟨h8, h7, hb, hx, hc⟩
  · have e : ∀ k, k < 5 → tel w b x (222 + 5 * a + k) = w (222 + 5 * (a - 1) + k) := by
      intro k hk
      unfold tel
      rw [if_neg (by omega), if_neg (by omega), if_neg (by omega), if_neg (by omega), if_neg (by omega), if_neg (by omega), if_neg (by omega)]
      congr 1
      omega
    have e0 : tel w b x (222 + 5 * a) = w (222 + 5 * (a - 1)) := e 0 (by omega)
    rw [e0, e 1 (by omega), e 2 (by omega), e 3 (by omega), e 4 (by omega)]
    exact h (a - 1) (by omega)
theorem GD_tel {w : Nat → Nat} {b x : Nat} (hO : OKW w) (h : GD w) (hb : b < 6) (hx : x ≤ 1) : GD (tel w b x) := by
  obtain ⟨⟨g3, g4⟩, g5, g6⟩ := h
  have w1 := hO.1.2.1
  have w4 := hO.1.2.2.2.1
  refine ⟨⟨?_, ?_⟩, ?_, ?_⟩
  · rw [tel_lo (show 4 < 222 by omega) (by omega), tel_lo (by omega) (by omega)]
    exact g3
  · intro b' hb'
    rw [tel_lo (by omega) (by omega)] at hb'
    have c1 := (hO.2.2.2.1 b' (by omega)).2.1
    rw [tel_lo (show 187 + 5 * b' < 222 by omega) (by omega), tel_lo (by omega) (by omega)]
    exact g4 b' hb'
  · exact okL_tel g5 hO.1.2.2.2.2.2.2.2.2.1 hO.1.2.2.2.2.2.2.2.1 hO.1.2.2.2.2.2.2.1 (by omega) hx (hO.2.2.2.1 b (by omega)).2.1
  · intro b' hb' h6
    rw [tel_lo (by omega) (by omega)] at hb'
    rw [tel_lo (by omega) (by omega)]
    exact g6 b' hb' h6
theorem GD_of {w u : Nat → Nat} (hO : OKW w) (h : GD w) (h4 : u 4 = w 4) (h1 : u 1 = w 1) (h9 : u 9 = w 9) (ht : ∀ j, 11 ≤ j → j < 75 → u j = w j) (hc : ∀ b, b < w 1 → u (187 + 5 * b) < 64 ∧ ¬ w (11 + u (187 + 5 * b)) = 1) (hl : ∀ j, 222 ≤ j → j < 522 → u j = w j) (hz : ∀ b, w 1 ≤ b → b < 6 → u (187 + 5 * b + 3) = w (187 + 5 * b + 3)) : GD u := by
  obtain ⟨⟨g3, g4⟩, g5, g6⟩ := h
  have w4 := hO.1.2.2.2.1
  have w9 := hO.1.2.2.2.2.2.2.2.2.1
  refine ⟨⟨?_, ?_⟩, ?_, ?_⟩
  · rw [h4, ht _ (by omega) (by omega)]; exact g3
  · intro b hb
    rw [h1] at hb
    rw [ht _ (by omega) (by have := (hc b hb).1; omega)]
    exact (hc b hb).2
  · intro a ha
    rw [h9] at ha
    rw [hl _ (by omega) (by omega), hl _ (by omega) (by omega), hl _ (by omega) (by omega), hl _ (by omega) (by omega), hl _ (by omega) (by omega)]
    exact g5 a ha
  · intro b hb h6
    rw [h1] at hb
    rw [hz b hb h6]
    exact g6 b hb h6
theorem GD_ist {w : Nat → Nat} {b x : Nat} (hO : OKW w) (h : GD w) (hb : b < w 1) (hx : x < 64) (ho : ¬ w (11 + x) = 1) : GD (ist w b x) := by
  have w1 := hO.1.2.1
  refine GD_of hO h (ist_o (by omega) (by omega)) (ist_o (by omega) (by omega)) (ist_o (by omega) (by omega)) (fun j _ _ => ist_o (by omega) (by omega)) ?_ (fun j _ _ => ist_o (by omega) (by omega)) (fun b' _ _ => ist_o (by omega) (by omega))
  intro b' hb'
  by_cases q : b' = b
  · subst q
    have e : ist w b' x (187 + 5 * b') = x := by
      unfold ist
      split
      · rw [upw_ne (by omega), upw_eq]
      · rw [upw_eq]
    rw [e]
    exact ⟨hx, ho⟩
  · rw [ist_o (by omega) (by omega)]
    exact ⟨(hO.2.2.2.1 b' (by omega)).2.1, h.1.2 b' hb'⟩
theorem GD_up {w : Nat → Nat} {j v : Nat} (hO : OKW w) (h : GD w) (hj : j = 7 ∨ j = 8 ∨ j = 10 ∨ ∃ b, b < 7 ∧ j = 187 + 5 * b + 4) : GD (upw w j v) := by
  have w1 := hO.1.2.1
  have hj' : j ≠ 1 ∧ j ≠ 4 ∧ j ≠ 9 ∧ (j < 11 ∨ (187 ≤ j ∧ j < 222)) ∧ ∀ b, j ≠ 187 + 5 * b ∧ j ≠ 187 + 5 * b + 3 := by
    rcases hj with q | q | q | ⟨b, hb, q⟩
    · subst q; exact ⟨by omega, by omega, by omega, by omega, fun b => by omega⟩
    · subst q; exact ⟨by omega, by omega, by omega, by omega, fun b => by omega⟩
    · subst q; exact ⟨by omega, by omega, by omega, by omega, fun b => by omega⟩
    · subst q; exact ⟨by omega, by omega, by omega, by omega, fun b => by omega⟩
  obtain ⟨j1, j4, j9, jr, jb⟩ := hj'
  refine GD_of hO h (upw_ne (by omega)) (upw_ne (by omega)) (upw_ne (by omega)) (fun i _ _ => upw_ne (by omega)) ?_ (fun i _ _ => upw_ne (by omega)) (fun b _ _ => upw_ne (fun q => (jb b).2 q.symm))
  intro b hb
  rw [upw_ne (fun q => (jb b).1 q.symm)]
  exact ⟨(hO.2.2.2.1 b (by omega)).2.1, h.1.2 b hb⟩
theorem GD_gbW {w : Nat → Nat} {b n : Nat} (hO : OKW w) (h : GD w) (hb : b < w 1) : GD (gbW w b n) := by
  have w1 := hO.1.2.1
  unfold gbW
  split
  · exact h
  · exact GD_ist hO h hb (cby_lt (hO.2.2.2.1 b (by omega)).2.1) (opn_cby (h.1.2 b hb))
theorem GD_drw {w : Nat → Nat} (hO : OKW w) (h : GD w) : GD (drw w) := GD_up hO h (Or.inr (Or.inr (Or.inl rfl)))
theorem GD_stry {w : Nat → Nat} {b : Nat} (hO : OKW w) (h : GD w) (hb : b < w 1) : GD (stry w b) := by
  have w1 := hO.1.2.1
  unfold stry
  split
  · exact GD_drw hO h
  · have o1 := okW_drw hO
    have g1 := GD_drw hO h
    have o2 := okW_drw o1
    have g2 := GD_drw o1 g1
    have hb1 : b < (drw (drw w)) 1 := by rw [drw_ne (by omega), drw_ne (by omega)]; exact hb
    have o3 : OKW (str2 (drw w) b) := okW_ist o2 (by omega) (stp_lt ((o2.2.2.2.1 b (by omega)).2.1))
    have g3 : GD (str2 (drw w) b) := GD_ist o2 g2 hb1 (stp_lt ((o2.2.2.2.1 b (by omega)).2.1)) (opn_stp (g2.1.2 b hb1))
    have o4 : OKW (str3 (drw w) b) := okW_b o3 (by omega) (by omega) (by omega)
    have g4 : GD (str3 (drw w) b) := GD_up o3 g3 (Or.inr (Or.inr (Or.inr ⟨b, by omega, rfl⟩)))
    exact GD_tel o4 g4 (by omega) (by omega)
theorem GD_oneB {w : Nat → Nat} {b : Nat} {cm : Bool} (hO : OKW w) (h : GD w) (hb : b < w 1) : GD (oneB cm b w) := by
  have w1 := hO.1.2.1
  have hG : GD (oneG cm w b) := by
    unfold oneG
    split
    · refine GD_stry (okW_gbW hO (by omega)) (GD_gbW hO h hb) ?_
      rw [gbW_o (by omega) (by omega)]
      exact hb
    · exact GD_gbW hO h hb
  unfold oneB
  split
  · exact h
  · split
    · exact GD_tel (okW_oneG hO (by omega)) hG (by omega) (by omega)
    · exact hG
theorem GD_boysA {w : Nat → Nat} {cm : Bool} (hO : OKW w) (h : GD w) : ∀ i, i ≤ w 1 → GD (boysA cm w i).1 := by
  have w1 := hO.1.2.1
  intro i
  induction i with
  | zero => intro _; exact h
  | succ i ih =>
    intro hi
    obtain ⟨o1, s1⟩ := boysA_ok hO (cm := cm) i (by omega)
    have hb : i < (boysA cm w i).1 1 := by rw [s1 1 (by omega)]; omega
    exact GD_oneB o1 (ih (by omega)) hb
theorem GD_bend {w : Nat → Nat} (hO : OKW w) (h : GD w) : GD (bend w) := by
  unfold bend
  split
  · exact GD_up hO h (Or.inl rfl)
  · exact GD_up (okW_s hO (by omega) (by omega) (by omega)) (GD_up hO h (Or.inl rfl)) (Or.inr (Or.inl rfl))
theorem GOOD_go {w : Nat → Nat} {cm : Bool} (h : GOOD w) (n : Nat) : GOOD (goA cm w n).1 := by
  refine ⟨(goA_ok h.1 n).1, goA_in h.1 h.2.1 n, ?_⟩
  induction n with
  | zero => exact h.2.2
  | succ n ih =>
    have o1 := (goA_ok h.1 (cm := cm) n).1
    exact GD_bend (boysA_ok o1 _ o1.1.2.1).1 (GD_boysA o1 ih _ (Nat.le_refl _))
theorem A_sing {d Ln c s : Nat} {I0 I : Nat → Nat → Int32} {L : Nat → Nat → Int64} {w : Nat → Nat} {im : Option (Nat → Nat)} {na od : Nat} {A : Nat → Nat → Nat} {tp : Nat → Nat} {tl : Nat} {fa : Option Nat} (hd : 60 ≤ d) (h : INV I0 w im na od A tp tl fa I L) (a : Int32) : PW d m_L_sing [.ref 0, .int a, .ref 163] m_X11_sing [.ref 148, .int a] I0 Ln c s I L := by
  have hO := h.1.1
  have hC := h.2.2.1
  have na12 := h.2.2.2.2.2.1.1
  have e1 : (1 : Int32) = nI 1 := li_1
  by_cases hv : vld a 121 ∧ ¬ a < 1
  · obtain ⟨n, hn, rfl⟩ := vld_i (by omega) hv.1
    have n1 : ¬ n < 1 := by
      have := hv.2
      rw [li_1, nI_ltI (by omega) (by omega)] at this
      exact this
    refine PW.act (v := nI (goA false w n).2) (w' := (goA false w n).1) h (w_L_sing_0 (by omega)) (GOOD_go h.1 n) (goA_ok hO n).2.L ?_ ?_
    · intro K T g
      refine w_X10_sing_0 (by omega) ?_
      rw [li_1, li_120, nI_ltI (by omega) (by omega), nI_leI (by omega) (by omega)]
      refine ⟨fun z => absurd z n1, fun _ => ⟨fun _ => ?_, fun z => absurd (by omega) z⟩⟩
      refine C_remA (by omega) h fun I1 L1 r1 rl c1 f1 l1 => ?_
      refine C_beatOn (by omega) r1 hO rl h.1.2.1 (by omega) fun I2 r2 f2 => ?_
      obtain ⟨q1, q2, q3⟩ := FC.k f2 (by decide)
      exact dd_qT (g I1 L1 I2 L1 c1 f1 l1 r2 q1 q2 q3 (fun _ _ _ => rfl))
    · intro I2 L2 hR ha K g
      refine w_X11_sing_0 (by omega) ?_
      rw [li_1, li_120, nI_ltI (by omega) (by omega), nI_ltI (by omega) (by omega)]
      refine ⟨fun z => absurd z n1, fun _ => ⟨fun z => absurd z (by omega), fun _ => ?_⟩⟩
      refine M_remA (w := w) (na := na) (A := A) (by omega) hR na12 ha fun I3 r3 m3 f3 t3' => ?_
      refine M_goesOn (cm := false) (by omega) r3 hO (by omega) fun I4 r4 f4 => ?_
      exact dd_qi (g I3 I4 m3 f3 t3' r4 (FM.fr f4 (by decide) (by decide)) (f4.2 0 (by decide)))
  · have hs : a < 1 ∨ (¬ a < 1 ∧ ¬ a ≤ 120 ∧ 120 < a) := by
      rcases ix3c a 120 (by omega) with q | ⟨q1, q2, q3⟩ | ⟨j, hj, rfl⟩
      · left
        rw [Int32.lt_iff_toInt_lt] at q ⊢
        have : (nI 0).toInt = 0 := rfl
        have : (1 : Int32).toInt = 1 := rfl
        omega
      · by_cases z : a < 1
        · exact Or.inl z
        · refine Or.inr ⟨z, ?_, q3⟩
          rw [li_120]
          rw [Int32.lt_iff_toInt_lt] at q3
          rw [Int32.le_iff_toInt_le]
          omega
      · left
        refine Decidable.of_not_not (fun z => hv ⟨vld_n hj (by omega), z⟩)
    refine PW.q h _ 0 (WR1 (e1 := 0) (o := some 0) (w_L_sing_0 (by omega)) (Or.inr rfl) ?_) ?_
    · intro K T g1 g2
      refine w_X10_sing_0 (by omega) ?_
      rcases hs with q | ⟨q1, q2, q3⟩
      · exact ⟨fun _ => dd_qX (g2 0 rfl), fun z => absurd q z⟩
      · exact ⟨fun z => absurd z q1, fun _ => ⟨fun z => absurd z q2, fun _ => dd_qX (g2 0 rfl)⟩⟩
    · intro I1 L1 c1 s1 h1 K g
      have hR := h1.2.1
      refine w_X11_sing_0 (by omega) ?_
      simp only [dd_u_u, upd_uu]
      rcases hs with q | ⟨q1, q2, q3⟩
      · exact ⟨fun _ => mqT hR (by decide) g, fun z => absurd q z⟩
      · exact ⟨fun z => absurd z q1, fun _ => ⟨fun _ => mqT hR (by decide) g, fun z => absurd q3 z⟩⟩
