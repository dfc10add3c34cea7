/-! lost: one who is thought of -/
def tkW (w : Nat → Nat) (b x p e : Nat) : Nat → Nat := upw (upw (upw (upw (upw w (187 + 5 * b) x) (187 + 5 * b + 1) p) (187 + 5 * b + 2) e) (187 + 5 * b + 3) (if x = w 4 then 1 else 0)) (187 + 5 * b + 4) 0
theorem tkW_o {w : Nat → Nat} {b x p e j : Nat} (h : j < 187 + 5 * b ∨ 187 + 5 * b + 5 ≤ j) : tkW w b x p e j = w j := by
  unfold tkW
  rw [upw_ne (by omega), upw_ne (by omega), upw_ne (by omega), upw_ne (by omega), upw_ne (by omega)]
theorem tkW_0 {w : Nat → Nat} {b x p e : Nat} : tkW w b x p e (187 + 5 * b) = x := by
  unfold tkW
  rw [upw_ne (by omega), upw_ne (by omega), upw_ne (by omega), upw_ne (by omega), upw_eq]
theorem tkW_1 {w : Nat → Nat} {b x p e : Nat} : tkW w b x p e (187 + 5 * b + 1) = p := by
  unfold tkW
  rw [upw_ne (by omega), upw_ne (by omega), upw_ne (by omega), upw_eq]
theorem tkW_2 {w : Nat → Nat} {b x p e : Nat} : tkW w b x p e (187 + 5 * b + 2) = e := by
  unfold tkW
  rw [upw_ne (by omega), upw_ne (by omega), upw_eq]
theorem tkW_3 {w : Nat → Nat} {b x p e : Nat} : tkW w b x p e (187 + 5 * b + 3) = if x = w 4 then 1 else 0 := by
  unfold tkW
  rw [upw_ne (by omega), upw_eq]
theorem tkW_4 {w : Nat → Nat} {b x p e : Nat} : tkW w b x p e (187 + 5 * b + 4) = 0 := by
  unfold tkW
  rw [upw_eq]
theorem tkW_ok {w : Nat → Nat} {b x p e : Nat} (h : OKW w) (hb : b ≤ 6) (hx : x < 64) (hp : p < 6) (he : e ≤ 15) : OKW (tkW w b x p e) := by
  unfold tkW
  have o0 : OKW (upw w (187 + 5 * b) x) := okW_b (k := 0) h hb (by omega) (by omega)
  have o1 := okW_b (k := 1) (v := p) o0 hb (by omega) (by omega)
  have o2 := okW_b (k := 2) (v := e) o1 hb (by omega) (by omega)
  have o3 := okW_b (k := 3) (v := if x = w 4 then 1 else 0) o2 hb (by omega) ⟨by omega, by omega, by omega, fun _ => by split <;> omega, by omega⟩
  exact okW_b (k := 4) (v := 0) o3 hb (by omega) (by omega)
theorem tkW_in {w : Nat → Nat} {b x p e : Nat} : inb (tkW w b x p e) b := by
  unfold inb
  rw [tkW_0, tkW_3, tkW_o (by omega)]
  by_cases q : x = w 4
  · rw [if_pos q]; exact ⟨fun _ => q, fun _ => rfl⟩
  · rw [if_neg q]; exact ⟨fun z => absurd z (by decide), fun z => absurd z q⟩
theorem tkW_env {w : Nat → Nat} {b x p e : Nat} (hb : b ≤ 6) : env w (tkW w b x p e) := ⟨tkW_o (by omega), fun j _ _ => tkW_o (by omega), tkW_o (by omega), fun j _ => tkW_o (by omega)⟩
theorem M_thinksOf {d Ln c s : Nat} {I : Nat → Nat → Int32} {L : Nat → Nat → Int64} {K : (Nat → Nat → Int32) → (Nat → Nat → Int64) → Prop} {w : Nat → Nat} {b x p e : Nat} (hd : 28 ≤ d) (hR : RM w I) (hb : b ≤ 6) (hx : x < 64) (h4 : w 4 < 64) (k : ∀ f, RM (tkW w b x p e) (dd_u I 149 f) → K (dd_u I 149 f) L) : dd_Ev d m_X11_thinksOf [.ref 148, .int (nI b), .int (nI x), .int (nI p), .int (nI e)] (sM Ln I L c s) (dd_RV Ln c s K) := by
  have e0 : (187 : Int32) + (5 : Int32) * nI b + 0 = nI (187 + 5 * b) := by rw [li_187, li_5, li_0, pk_mul, nI_add, nI_add, Nat.add_zero]
  have e1 : (187 : Int32) + (5 : Int32) * nI b + 1 = nI (187 + 5 * b + 1) := by rw [li_187, li_5, li_1, pk_mul, nI_add, nI_add]
  have e2 : (187 : Int32) + (5 : Int32) * nI b + 2 = nI (187 + 5 * b + 2) := by rw [li_187, li_5, li_2, pk_mul, nI_add, nI_add]
  have e3 : (187 : Int32) + (5 : Int32) * nI b + 3 = nI (187 + 5 * b + 3) := by rw [li_187, li_5, li_3, pk_mul, nI_add, nI_add]
  have e4 : (187 : Int32) + (5 : Int32) * nI b + 4 = nI (187 + 5 * b + 4) := by rw [li_187, li_5, li_4, pk_mul, nI_add, nI_add]
  have t0 : tn (nI (187 + 5 * b)) = 187 + 5 * b := nI_clamp (by omega)
  have t1 : tn (nI (187 + 5 * b + 1)) = 187 + 5 * b + 1 := nI_clamp (by omega)
  have t2 : tn (nI (187 + 5 * b + 2)) = 187 + 5 * b + 2 := nI_clamp (by omega)
  have t3 : tn (nI (187 + 5 * b + 3)) = 187 + 5 * b + 3 := nI_clamp (by omega)
  have t4 : tn (nI (187 + 5 * b + 4)) = 187 + 5 * b + 4 := nI_clamp (by omega)
  refine w_X11_thinksOf_0 hd ?_
  rw [e0, e1, e2, e3, e4, t0, t1, t2, t3, t4, pk_un (show (4 : Nat) ≠ 187 + 5 * b + 2 by omega), pk_un (show (4 : Nat) ≠ 187 + 5 * b + 1 by omega), pk_un (show (4 : Nat) ≠ 187 + 5 * b by omega), hR.g (by omega), nI_eq (by omega) (by omega)]
  simp only [dd_u_u]
  have ck : ∀ m, m < 2220 → (0 ≤ nI m ∧ m < 2220) := fun m hm => ⟨nI_pos' (by omega), hm⟩
  unfold tkW at k
  refine ⟨ck _ (by omega), ck _ (by omega), ck _ (by omega), fun q => ⟨ck _ (by omega), ck _ (by omega), dd_qV (k _ ?_)⟩, fun q => ⟨ck _ (by omega), ck _ (by omega), dd_qV (k _ ?_)⟩⟩
  · rw [if_pos q]
    exact RM.set (nu (nu (nu (nu (nu hR _ x) _ p) _ e) _ 1) _ 0)
  · rw [if_neg q]
    exact RM.set (nu (nu (nu (nu (nu hR _ x) _ p) _ e) _ 0) _ 0)
def bf (b : Nat) (u : Nat → Nat) : Nat → Nat := bend (gbW u b (ntB u b))
def bfA (u : Nat → Nat) (b : Nat) : Nat → (Nat → Nat) := lpf (fun _ x => bf b x) u
theorem ntB_le {w : Nat → Nat} (hO : OKW w) {b : Nat} (hb : b ≤ 6) : ntB w b ≤ 9 ∧ 139 + 8 * w (187 + 5 * b + 1) + w 7 < 187 := by
  have b2 := (hO.2.2.2.1 b hb).2.2.1
  have b7 := hO.1.2.2.2.2.2.2.1
  exact ⟨hO.2.2.1 _ b2 _ b7, by omega⟩
theorem M_beatFor {d Ln c s : Nat} {I : Nat → Nat → Int32} {L : Nat → Nat → Int64} {K : (Nat → Nat → Int32) → (Nat → Nat → Int64) → Prop} {w : Nat → Nat} {b : Nat} (hd : 35 ≤ d) (hR : RM w I) (hO : OKW w) (hb : b ≤ 6) (k : ∀ I', RM (bf b w) I' → FW I I' → K I' L) : dd_Ev d m_X11_beatFor [.ref 148, .int (nI b)] (sM Ln I L c s) (dd_RV Ln c s K) := by
  obtain ⟨n1, n2⟩ := ntB_le hO hb
  have b2 := (hO.2.2.2.1 b hb).2.2.1
  have e1 : (187 : Int32) + (5 : Int32) * nI b + 1 = nI (187 + 5 * b + 1) := by rw [li_187, li_5, li_1, pk_mul, nI_add, nI_add]
  have t1 : tn (nI (187 + 5 * b + 1)) = 187 + 5 * b + 1 := nI_clamp (by omega)
  have e2 : (139 : Int32) + (8 : Int32) * nI (w (187 + 5 * b + 1)) + nI (w 7) = nI (139 + 8 * w (187 + 5 * b + 1) + w 7) := by rw [li_139, li_8, pk_mul, nI_add, nI_add]
  have t2 : tn (nI (139 + 8 * w (187 + 5 * b + 1) + w 7)) = 139 + 8 * w (187 + 5 * b + 1) + w 7 := nI_clamp (by omega)
  refine w_X11_beatFor_0 (by omega) ?_
  rw [e1, t1, hR.g (show 187 + 5 * b + 1 < 1371 by omega), hR.g (show 7 < 1371 by omega), e2, t2, hR.g (by omega)]
  refine ⟨⟨nI_pos' (by omega), by omega⟩, ⟨nI_pos' (by omega), by omega⟩, ?_⟩
  refine M_goesBy (w := w) (note := ntB w b) (by omega) hR hO hb n1 fun I1 r1 f1 => ?_
  have o1 := okW_gbW (x := ntB w b) hO hb
  refine M_beatEnds (w := gbW w b (ntB w b)) (by omega) r1 o1.1.2.2.2.2.2.2.1 o1.1.2.2.2.2.2.2.2.1 fun I2 r2 f2 => ?_
  exact dd_qV (k I2 r2 (f1.trans f2))
theorem bf_one {u : Nat → Nat} {b : Nat} (hO : OKW u) (hi : inb u b) (hb : b ≤ 6) : OKW (bf b u) ∧ cst u (bf b u) ∧ bf b u 7 = (u 7 + 1) % 8 ∧ bf b u (187 + 5 * b) = gN u b ∧ inb (bf b u) b := by
  have o1 := okW_gbW (x := ntB u b) hO hb
  have h7 := hO.1.2.2.2.2.2.2.1
  have g7 : gbW u b (ntB u b) 7 = u 7 := gbW_o (by omega) (by omega)
  unfold bf
  refine ⟨okW_bend o1, ⟨(stat_gbW hb).trans stat_bend, fun b' hb' => ?_⟩, ?_, ?_, ?_⟩
  · rw [bend_o (by omega) (by omega), bend_o (by omega) (by omega), bend_o (by omega) (by omega), gbW_o (by omega) (by omega), gbW_o (by omega) (by omega), gbW_o (by omega) (by omega)]
    exact ⟨rfl, rfl, rfl⟩
  · rw [bend_7 (by rw [g7]; exact h7), g7]
  · rw [bend_o (by omega) (by omega)]
    exact gbW_c hi
  · unfold inb
    rw [bend_o (by omega) (by omega), bend_o (by omega) (by omega), bend_o (by omega) (by omega), gbW_o (j := 4) (by omega) (by omega)]
    exact gbW_in hi hb
theorem bfA_c {w : Nat → Nat} {b : Nat} (hO : OKW w) (hi : inb w b) (hb : b ≤ 6) : ∀ n, OKW (bfA w b n) ∧ cst w (bfA w b n) ∧ bfA w b n 7 = (w 7 + n) % 8 ∧ bfA w b n (187 + 5 * b) = wkB w b n ∧ inb (bfA w b n) b := by
  have h7 := hO.1.2.2.2.2.2.2.1
  intro n
  induction n with
  | zero => exact ⟨hO, cst.refl w, by show w 7 = _; omega, rfl, hi⟩
  | succ n ih =>
    obtain ⟨c0, c1, c2, c3, c4⟩ := ih
    have e : bfA w b (n + 1) = bf b (bfA w b n) := rfl
    rw [e]
    generalize bfA w b n = u at *
    obtain ⟨d0, d1, d2, d3, d4⟩ := bf_one c0 c4 hb
    refine ⟨d0, c1.trans d1, ?_, ?_, d4⟩
    · rw [d2, c2]; omega
    · rw [d3]
      obtain ⟨p1, p2, p3⟩ := c1.2 b hb
      have s4 : u 4 = w 4 := c1.1 4 (by omega)
      have bc := (c0.2.2.2.1 b hb).2.1
      have b2 := (hO.2.2.2.1 b hb).2.2.1
      unfold gN
      rw [← vF_fct, gcl_cong c1.1 bc, p1, p2, p3, s4, c2, c1.1 5 (by omega), c1.1 (75 + u (187 + 5 * b)) (by omega)]
      have en : ntB u b = prow w (w (187 + 5 * b + 1)) ((w 7 + n) % 8) := by
        unfold ntB prow
        rw [p1, c2]
        exact c1.1 _ (by omega)
      rw [en, c3]
      rfl
/-- the way of one who is thought of -/
abbrev tkC (w : Nat → Nat) (b x p e : Nat) : Nat → Nat := wk w b p e 0 (w 5) (prow w p) (w 7) x
theorem wkB_tk {w : Nat → Nat} {b x p e : Nat} (hb : b ≤ 6) (hx : x < 64) (hp : p < 6) (n : Nat) : wkB (tkW w b x p e) b n = tkC w b x p e n := by
  unfold wkB
  rw [tkW_0, tkW_1, tkW_2, tkW_4, tkW_o (show 5 < 187 + 5 * b ∨ _ by omega), tkW_o (show 7 < 187 + 5 * b ∨ _ by omega), wk_env (tkW_env hb) hx]
  exact wk_row (fun j hj => by unfold prow; exact tkW_o (by omega)) n
theorem M_latestFrom {d Ln c s : Nat} {I : Nat → Nat → Int32} {L : Nat → Nat → Int64} {K : Int32 → (Nat → Nat → Int32) → (Nat → Nat → Int64) → Prop} {w : Nat → Nat} {x p e : Nat} (hd : 38 ≤ d) (hR : RM w I) (hO : OKW w) (hx : x < 64) (hp : p < 6) (he : e ≤ 15) (k : ∀ I', RM w I' → FB I I' → K (nI (due (fun n => decide (tkC w (w 1) x p e n = w 4)))) I' L) : dd_Ev d m_X11_latestFrom [.ref 148, .int (nI x), .int (nI p), .int (nI e)] (sM Ln I L c s) (dd_RI Ln c s K) := by
  have w1 := hO.1.2.1
  have w4 := hO.1.2.2.2.1
  refine w_X11_latestFrom_0 (by omega) ?_
  refine M_keepsAll (w := w) (by omega) hR fun f hf => ?_
  rw [hR.g (by omega)]
  refine M_thinksOf (w := w) (by omega) (hR.of (dd_un (by decide))) w1 hx w4 fun f2 r2 => ?_
  have oT := tkW_ok (w := w) (b := w 1) (x := x) (p := p) (e := e) hO w1 hx hp he
  have iT := tkW_in (w := w) (b := w 1) (x := x) (p := p) (e := e)
  have e3 : (187 : Int32) + (5 : Int32) * nI (w 1) + 3 = nI (187 + 5 * w 1 + 3) := by rw [li_187, li_5, li_3, pk_mul, nI_add, nI_add]
  have t3 : tn (nI (187 + 5 * w 1 + 3)) = 187 + 5 * w 1 + 3 := nI_clamp (by omega)
  have k152 : ∀ j, j < 522 → dd_u (dd_u I 152 f) 149 f2 152 j = nI (w j) := fun j hj => by rw [dd_un (by decide), dd_us]; exact hf j hj
  have F0 : FB I (dd_u (dd_u I 152 f) 149 f2) := ((FR.refl I).u (by decide) (by decide)).u (by decide) (by decide)
  generalize dd_u (dd_u I 152 f) 149 f2 = J at *
  have back : ∀ n, due (fun n => decide (tkC w (w 1) x p e n = w 4)) = n → ∀ I', RM (bfA (tkW w (w 1) x p e) (w 1) n) I' → FB I I' → (∀ j, j < 522 → I' 152 j = nI (w j)) → dd_Ev (d - 1) m_X11_bringsBack [.ref 148] (sM Ln I' L c s) (dd_RV Ln c s (fun I1 L1 => dd_RI Ln c s K (none, .int (nI n), sM Ln I1 L1 c s))) := by
    intro n hn I' r' f' k'
    obtain ⟨c0, c1, c2, c3, c4⟩ := bfA_c oT iT w1 n
    refine M_bringsBack (w0 := w) (by omega) r' k' (fun j hj => by rw [c1.1 j (by omega), tkW_o (by omega)]) fun f4 r4 => ?_
    rw [hn] at k
    exact dd_qi (k _ r4 (f'.u (by decide) (by decide)))
  have key : ∀ I', RM (bfA (tkW w (w 1) x p e) (w 1) 0) I' → FB I I' → (∀ j, j < 522 → I' 152 j = nI (w j)) → (∀ m, m < 0 → ¬ tkC w (w 1) x p e m = w 4) → dd_Rn d m_X11_latestFrom (22, [.ref 148, .int (nI x), .int (nI p), .int (nI e), .int (nI (w 1)), .int (nI 0)], [], sM Ln I' L c s) (dd_RI Ln c s K) := by
    refine dd_lp (fun i => ∀ I', RM (bfA (tkW w (w 1) x p e) (w 1) i) I' → FB I I' → (∀ j, j < 522 → I' 152 j = nI (w j)) → (∀ m, m < i → ¬ tkC w (w 1) x p e m = w 4) → dd_Rn d m_X11_latestFrom (22, [.ref 148, .int (nI x), .int (nI p), .int (nI e), .int (nI (w 1)), .int (nI i)], [], sM Ln I' L c s) (dd_RI Ln c s K)) 101 ?_ ?_
    · intro I' r' f' k' nf
      refine w_X11_latestFrom_22 (by omega) ?_
      rw [li_101, nI_leI (by omega) (by omega)]
      exact ⟨fun _ => back 101 (due_none (fun i hi => decide_eq_false (nf i hi))) I' r' f' k', fun z => absurd (Nat.le_refl _) z⟩
    · intro i hi ih I' r' f' k' nf
      obtain ⟨c0, c1, c2, c3, c4⟩ := bfA_c oT iT w1 i
      have u3 := (c0.2.2.2.1 (w 1) w1).2.2.2.2.1
      have eIn : bfA (tkW w (w 1) x p e) (w 1) i (187 + 5 * w 1 + 3) = 1 ↔ tkC w (w 1) x p e i = w 4 := by
        unfold inb at c4
        rw [c4, c3, c1.1 4 (by omega), tkW_o (show 4 < 187 + 5 * w 1 ∨ _ by omega), wkB_tk w1 hx hp]
      refine w_X11_latestFrom_22 (by omega) ?_
      rw [li_101, nI_leI (by omega) (by omega), e3, t3, r'.g (by omega), nI1i u3, eIn, nI_1]
      refine ⟨fun z => absurd z (by omega), fun _ => ⟨⟨nI_pos' (by omega), by omega⟩, fun z => ?_, fun z => ?_⟩⟩
      · exact back i (due_some (decide_eq_true z) (fun m hm => decide_eq_false (nf m hm)) hi) I' r' f' k'
      · refine M_beatFor (by omega) r' c0 w1 fun I2 r2 f2 => ?_
        refine ih I2 r2 (f'.trans (f2.mono (by decide) (by decide))) (fun j hj => by rw [f2.1 152 (by decide) (by decide)]; exact k' j hj) (fun m hm => ?_)
        by_cases q : m = i
        · subst q; exact z
        · exact nf m (by omega)
  exact key J r2 F0 k152 (fun m hm => absurd hm (Nat.not_lt_zero m))
theorem A_lost {d Ln c s : Nat} {I0 I : Nat → Nat → Int32} {L : Nat → Nat → Int64} {w : Nat → Nat} {im : Option (Nat → Nat)} {na od : Nat} {A : Nat → Nat → Nat} {tp : Nat → Nat} {tl : Nat} {fa : Option Nat} (hd : 60 ≤ d) (h : INV I0 w im na od A tp tl fa I L) (a a2 : Int32) : PW d m_L_lost [.ref 0, .int a, .int a2, .ref 163] m_X11_lost [.ref 148, .int a, .int a2] I0 Ln c s I L := by
  have hO := h.1.1
  have hC := h.2.2.1
  have w0 := hO.1.1
  have w1 := hO.1.2.1
  have w4 := hO.1.2.2.2.1
  have hk : (133 : Nat) = 133 ∨ (133 : Nat) = 136 := Or.inl rfl
  by_cases hv : vld a (w 0)
  · by_cases hv2 : vld a2 16
    · obtain ⟨p, hp, rfl⟩ := vld_i (by omega) hv
      obtain ⟨e, he, rfl⟩ := vld_i (by omega) hv2
      let f : Nat → Nat := fun x => due (fun n => decide (tkC w (w 1) x p e n = w 4))
      have fl : ∀ x, f x ≤ 101 := fun x => due_le _
      let ok : Nat → Bool := fun x => opn w x
      refine PW.q h _ (oI (amA f ok 64)) (WR2 (e1 := 2) (e2 := 0) (o := none) (w_L_lost_0 (by omega)) (by decide) (Or.inl rfl) ?_) ?_
      · intro K T g1 g2
        refine w_X10_lost_0 (by omega) (rqC hC.parts (fun z => absurd hv z) fun _ => rqL (m := 15) rfl (by omega) (fun z => absurd hv2 z) fun _ => ?_)
        have key : ∀ I' a6 a7, FV 133 I I' → dd_Rn (d - 1) m_X10_lost (21, [.ref 0, .int (nI p), .int (nI e), .int (oI (amA f ok 0)), .int (mst f (amA f ok 0)), .int (nI 0), a6, a7], [], sM Ln I' L c s) (dd_TI Ln c s K T) := by
          refine dd_lp (fun i => ∀ I' a6 a7, FV 133 I I' → dd_Rn (d - 1) m_X10_lost (21, [.ref 0, .int (nI p), .int (nI e), .int (oI (amA f ok i)), .int (mst f (amA f ok i)), .int (nI i), a6, a7], [], sM Ln I' L c s) (dd_TI Ln c s K T)) 64 ?_ ?_
          · intro I' a6 a7 f'
            refine w_X10_lost_21 (by omega) ?_
            rw [li_64, nI_leI (by omega) (by omega)]
            exact ⟨fun _ => dd_qT (g1 rfl I' L (FC.v hk f')), fun z => absurd (Nat.le_refl _) z⟩
          · intro i hi ih I' a6 a7 f'
            have c1 := hC.fr f' (kA hk)
            have fi := fl i
            refine w_X10_lost_21 (by omega) ?_
            rw [li_64, nI_leI (by omega) (by omega), nI_1]
            refine ⟨fun z => absurd z (by omega), fun _ => ?_⟩
            refine C_isOpen (w := w) (by omega) c1 (by omega) ?_
            rw [bI_z]
            refine ⟨fun z => ?_, fun z => ?_⟩
            · have ez : ¬ ok i = true := by show ¬ opn w i = true; rw [z]; decide
              cases ho : amA f ok i with
              | none =>
                rw [amA_n ho, if_neg ez] at ih
                exact ih I' a6 a7 f'
              | some m =>
                rw [amA_m ho, if_neg (fun q => ez q.1)] at ih
                exact ih I' a6 a7 f'
            · have ez : ok i = true := by
                show opn w i = true
                cases hq : opn w i with
                | true => rfl
                | false => exact absurd hq z
              rw [c1.boys, li_0]
              refine C_become (w := w) (by omega) hk c1 (by omega) fun I2 v2 f2 => ?_
              have c2 := c1.fr f2 (kA hk)
              refine C_standAt (w := w) (by omega) hk c2 w4 v2 hi fun I3 v3 f3 => ?_
              have f13 := f'.trans (f2.trans f3)
              refine C_comesIn (w := w) (by omega) hk (hC.fr f13 (kA hk)) hO (h.2.2.2.1.fr f13 (kA26 hk)) v3 w1 (by omega) (by omega) (by omega) hO.1.2.2.2.2.2.2.1 hO.1.2.2.2.2.1 hi (fun j hj => hO.2.2.1 _ (by omega) j hj) fun I4 f4 => ?_
              have f14 := f13.trans f4
              have step : ∀ v : Int32, v = nI (f i) → ∀ a6, ((v ≤ mst f (amA f ok i) → dd_Rn (d - 1) m_X10_lost (21, [.ref 0, .int (nI p), .int (nI e), .int (oI (amA f ok i)), .int (mst f (amA f ok i)), .int (nI (i + 1)), a6, .int v], [], sM Ln I4 L c s) (dd_TI Ln c s K T)) ∧ (¬ v ≤ mst f (amA f ok i) → dd_Rn (d - 1) m_X10_lost (21, [.ref 0, .int (nI p), .int (nI e), .int (nI i), .int v, .int (nI (i + 1)), a6, .int v], [], sM Ln I4 L c s) (dd_TI Ln c s K T))) := by
                intro v hv a6
                subst hv
                cases ho : amA f ok i with
                | none =>
                  rw [amA_n ho, if_pos ez] at ih
                  refine ⟨fun q => ?_, fun _ => ih I4 _ _ f14⟩
                  have : (nI (f i) ≤ -1) = False := nI_nle1 (by omega)
                  exact (this ▸ q : False).elim
                | some m =>
                  rw [amA_m ho] at ih
                  have fm := fl m
                  show (nI (f i) ≤ nI (f m) → _) ∧ (¬ nI (f i) ≤ nI (f m) → _)
                  rw [nI_leI (by omega) (by omega)]
                  refine ⟨fun q => ?_, fun q => ?_⟩
                  · rw [if_neg (fun z => by have := z.2; omega)] at ih
                    exact ih I4 _ _ f14
                  · rw [if_pos ⟨ez, by omega⟩] at ih
                    exact ih I4 _ _ f14
              rcases due_o (fun n => decide (tkC w (w 1) i p e n = w 4)) with ⟨q1, q2⟩ | ⟨q1, q2⟩
              · have q1' : f i = 101 := q1
                rw [q2]
                exact ⟨fun _ => step 101 (by rw [q1']; rfl) _, fun z => absurd rfl z⟩
              · rw [q2]
                have ne : ¬ nI (due (fun n => decide (tkC w (w 1) i p e n = w 4))) = -1 := fun z => by
                  have : (nI (due (fun n => decide (tkC w (w 1) i p e n = w 4))) = -1) = False := nI_nm (by omega)
                  exact (this ▸ z : False)
                exact ⟨fun z => absurd z ne, fun _ => step _ rfl _⟩
        exact key I _ _ (FR.refl I)
      · intro I1 L1 c1 s1 h1 K g
        have hR := h1.2.1
        refine w_X11_lost_0 (by omega) (rqM (hR.g (by omega)) (by omega) (fun z => absurd hv z) fun _ => rqN (m := 15) rfl (by omega) (fun z => absurd hv2 z) fun _ => ?_)
        have hR1 : RM w (dd_u I1 148 (upd (I1 148) 0 0)) := hR.of (dd_un (by decide))
        have fj := FM.th I1 0
        have t0 : dd_u I1 148 (upd (I1 148) 0 0) 148 0 = 0 := thr0
        generalize dd_u I1 148 (upd (I1 148) 0 0) = J at *
        have key : ∀ I' a6, RM w I' → FB J I' → dd_Rn d m_X11_lost (51, [.ref 148, .int (nI p), .int (nI e), .int (oI (amA f ok 0)), .int (mst f (amA f ok 0)), .int (nI 0), a6], [], sM Ln I' L1 c1 s1) (dd_RI Ln c1 s1 K) := by
          refine dd_lp (fun i => ∀ I' a6, RM w I' → FB J I' → dd_Rn d m_X11_lost (51, [.ref 148, .int (nI p), .int (nI e), .int (oI (amA f ok i)), .int (mst f (amA f ok i)), .int (nI i), a6], [], sM Ln I' L1 c1 s1) (dd_RI Ln c1 s1 K)) 64 ?_ ?_
          · intro I' a6 r' f'
            refine w_X11_lost_51 (by omega) ?_
            rw [li_64, nI_leI (by omega) (by omega)]
            exact ⟨fun _ => mqJ r' (fj.trans (FM.b f')) (by rw [f'.2 0 (by decide)]; exact t0) rfl g, fun z => absurd (Nat.le_refl _) z⟩
          · intro i hi ih I' a6 r' f'
            have fi := fl i
            have tx := (hO.2.1 i hi).1
            have e11 : (11 : Int32) + nI i = nI (11 + i) := by rw [li_11, nI_add]
            have t11 : tn (nI (11 + i)) = 11 + i := nI_clamp (by omega)
            refine w_X11_lost_51 (by omega) ?_
            rw [li_64, nI_leI (by omega) (by omega), e11, t11, r'.g (by omega), nI1i tx, nI_1]
            refine ⟨fun z => absurd z (by omega), fun _ => ⟨⟨nI_pos' (by omega), by omega⟩, fun z => ?_, fun z => ?_⟩⟩
            · have ez : ¬ ok i = true := by show ¬ opn w i = true; rw [(opn_f hi).mpr z]; decide
              have m1 : (-1 : Int32) ≤ mst f (amA f ok i) ∧ (if mst f (amA f ok i) < -1 then -1 else mst f (amA f ok i)) = mst f (amA f ok i) := by
                cases amA f ok i with
                | none => exact (show (-1 : Int32) ≤ -1 ∧ (if (-1 : Int32) < -1 then (-1 : Int32) else -1) = -1 by decide)
                | some m =>
                  have fm := fl m
                  have hm : (nI (f m)).toInt = f m := nI_toInt (by omega)
                  have h1 : (-1 : Int32).toInt = -1 := rfl
                  refine ⟨?_, if_neg ?_⟩
                  · show (-1 : Int32) ≤ nI (f m)
                    rw [Int32.le_iff_toInt_le]; omega
                  · show ¬ nI (f m) < -1
                    rw [Int32.lt_iff_toInt_lt]; omega
              rw [m1.2]
              refine ⟨fun _ => ?_, fun q => absurd m1.1 q⟩
              cases ho : amA f ok i with
              | none =>
                rw [amA_n ho, if_neg ez] at ih
                exact ih I' _ r' f'
              | some m =>
                rw [amA_m ho, if_neg (fun q => ez q.1)] at ih
                exact ih I' _ r' f'
            · have ez : ok i = true := opn_t.mpr ⟨hi, z⟩
              refine M_latestFrom (w := w) (by omega) r' hO hi (by omega) (by omega) fun I2 r2 f2 => ?_
              have f12 := f'.trans f2
              show (nI (f i) ≤ mst f (amA f ok i) → _) ∧ (¬ nI (f i) ≤ mst f (amA f ok i) → _)
              cases ho : amA f ok i with
              | none =>
                rw [amA_n ho, if_pos ez] at ih
                have n1 : (nI (f i) ≤ -1) = False := nI_nle1 (by omega)
                refine ⟨fun q => (n1 ▸ q : False).elim, fun q => ?_⟩
                have : (if mst f none < nI (f i) then nI (f i) else mst f none) = nI (f i) := if_pos (Int32.not_le.mp q)
                show dd_Rn d m_X11_lost (51, [.ref 148, .int (nI p), .int (nI e), .int (nI i), .int (if mst f none < nI (f i) then nI (f i) else mst f none), .int (nI (i + 1)), .int (nI (f i))], [], sM Ln I2 L1 c1 s1) (dd_RI Ln c1 s1 K)
                rw [this]
                exact ih I2 _ r2 f12
              | some m =>
                rw [amA_m ho] at ih
                have fm := fl m
                have nl : ∀ a b : Nat, a ≤ 101 → b ≤ 101 → ((if nI a < nI b then nI b else nI a) = if a < b then nI b else nI a) := by
                  intro a b ha hb
                  by_cases q : a < b
                  · rw [if_pos q, if_pos (nI_lt q (by omega))]
                  · rw [if_neg q, if_neg (fun z => q (by rw [nI_ltI (by omega) (by omega)] at z; exact z))]
                show (nI (f i) ≤ nI (f m) → dd_Rn d m_X11_lost (51, [.ref 148, .int (nI p), .int (nI e), .int (nI m), .int (if nI (f m) < nI (f i) then nI (f i) else nI (f m)), .int (nI (i + 1)), .int (nI (f i))], [], sM Ln I2 L1 c1 s1) (dd_RI Ln c1 s1 K)) ∧ (¬ nI (f i) ≤ nI (f m) → dd_Rn d m_X11_lost (51, [.ref 148, .int (nI p), .int (nI e), .int (nI i), .int (if nI (f m) < nI (f i) then nI (f i) else nI (f m)), .int (nI (i + 1)), .int (nI (f i))], [], sM Ln I2 L1 c1 s1) (dd_RI Ln c1 s1 K))
                rw [nI_leI (by omega) (by omega), nl _ _ fm fi]
                refine ⟨fun q => ?_, fun q => ?_⟩
                · rw [if_neg (fun z => by have := z.2; omega)] at ih
                  rw [if_neg (by omega)]
                  exact ih I2 _ r2 f12
                · rw [if_pos ⟨ez, by omega⟩] at ih
                  rw [if_pos (by omega)]
                  exact ih I2 _ r2 f12
        exact key J _ hR1 (FR.refl J)
    · refine PW.q h _ 0 (WR2 (e1 := 2) (e2 := 0) (o := some 0) (w_L_lost_0 (by omega)) (by decide) (Or.inr (Or.inr rfl)) ?_) ?_
      · intro K T g1 g2
        exact w_X10_lost_0 (by omega) (rqC hC.parts (fun z => absurd hv z) fun _ => rqL (m := 15) rfl (by omega) (fun _ => dd_qX (g2 0 rfl)) fun z => absurd z hv2)
      · intro I1 L1 c1 s1 h1 K g
        have hR := h1.2.1
        refine w_X11_lost_0 (by omega) ?_
        simp only [dd_u_u, upd_uu]
        exact rqM (hR.g (by omega)) (by omega) (fun z => absurd hv z) fun _ => rqN (m := 15) rfl (by omega) (fun _ => mqT hR (by decide) g) fun z => absurd z hv2
  · refine PW.q h _ 0 (WR2 (e1 := 2) (e2 := 0) (o := some 2) (w_L_lost_0 (by omega)) (by decide) (Or.inr (Or.inl rfl)) ?_) ?_
    · intro K T g1 g2
      exact w_X10_lost_0 (by omega) (rqC hC.parts (fun _ => dd_qX (g2 2 rfl)) fun z => absurd z hv)
    · intro I1 L1 c1 s1 h1 K g
      have hR := h1.2.1
      refine w_X11_lost_0 (by omega) ?_
      simp only [dd_u_u, upd_uu]
      exact rqM (hR.g (by omega)) (by omega) (fun _ => mqT hR (by decide) g) fun z => absurd z hv
