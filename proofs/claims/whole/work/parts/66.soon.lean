/-! Questions: how soon one is in: soon, by, best -/
/-- fire, trees, ferns, law -/
def env (w u : Nat → Nat) : Prop := u 4 = w 4 ∧ (∀ j, 11 ≤ j → j < 139 → u j = w j) ∧ sameL w u
theorem env.refl (w : Nat → Nat) : env w w := ⟨rfl, fun _ _ _ => rfl, sameL.refl w⟩
theorem env_up {w : Nat → Nat} {j v : Nat} (h3 : j ≠ 3) (h4 : j ≠ 4) (h : j < 11 ∨ 139 ≤ j) (h5 : j < 522) : env w (upw w j v) := ⟨upw_ne (by omega), fun i _ _ => upw_ne (by omega), sameL_upw h3 h5⟩
theorem stp_env {w u : Nat → Nat} (h : env w u) {c s : Nat} (hc : c < 64) : stp u c s = stp w c s := by
  have h2 := h.2.1
  unfold stp
  by_cases h1 : s = 1
  · rw [if_pos h1, if_pos h1]
    by_cases q : 8 ≤ c
    · rw [h2 _ (by omega) (by omega)]
    · rw [if_neg (fun x => q x.1), if_neg (fun x => q x.1)]
  · rw [if_neg h1, if_neg h1]
    by_cases q2 : s = 2
    · rw [if_pos q2, if_pos q2]
      rw [h2 _ (by omega) (by omega)]
    · rw [if_neg q2, if_neg q2]
      by_cases q3 : s = 3
      · rw [if_pos q3, if_pos q3]
        rw [h2 _ (by omega) (by omega)]
      · rw [if_neg q3, if_neg q3]
        by_cases q4 : s = 4
        · rw [if_pos q4, if_pos q4]
          by_cases q : 0 < c % 8
          · rw [h2 _ (by omega) (by omega)]
          · rw [if_neg (fun x => q x.1), if_neg (fun x => q x.1)]
        · rw [if_neg q4, if_neg q4]
theorem gcl_env {w u F : Nat → Nat} (h : env w u) {loud fern note cell : Nat} (hc : cell < 64) : gcl u F loud fern note cell = gcl w F loud fern note cell := by
  have e : cby u cell note = cby w cell note := by
    unfold cby nrr nrx nry
    rw [h.1, stp_env h hc, stp_env h hc, stp_env h hc, stp_env h hc, stp_env h hc]
  unfold gcl
  rw [h.1, sts_cong h.2.2, hrs_cong h.2.2, e]
theorem wk_env {w u : Nat → Nat} (h : env w u) {num part ear bad loud t c : Nat} {row : Nat → Nat} (hc : c < 64) : ∀ n, wk u num part ear bad loud row t c n = wk w num part ear bad loud row t c n := by
  intro n
  induction n with
  | zero => rfl
  | succ n ih =>
    have wl := wk_lt (w := w) (num := num) (part := part) (ear := ear) (bad := bad) (loud := loud) (row := row) (t0 := t) hc n
    unfold wk at *
    rw [lpf, lpf, ih, gcl_env h wl, h.1, h.2.1 _ (by omega) (by omega)]
theorem soonB {u : Nat → Nat} (hO : OKW u) (hi : inbs u) {b : Nat} (hb : b < u 1) (n : Nat) : allIn (goA true u n).1 ((1 : Int32) <<< (nI b &&& 31)) = decide (wkB u b n = u 4) := by
  have h1 := hO.1.2.1
  obtain ⟨c1, _, c3, c4⟩ := calm hO hi n
  have s1 : (goA true u n).1 1 = u 1 := c1.1 1 (by omega)
  have s4 : (goA true u n).1 4 = u 4 := c1.1 4 (by omega)
  have q := c4 b hb
  unfold inb at q
  rw [s4, c3 b hb] at q
  have e : allIn (goA true u n).1 ((1 : Int32) <<< (nI b &&& 31)) = true ↔ wkB u b n = u 4 := by
    rw [allIn_iff, s1]
    constructor
    · intro z
      exact q.mp (z b hb (by rw [bX_one (by omega) (by omega)]; exact decide_eq_true rfl))
    · intro z b' hb' hm
      rw [bX_one (by omega) (by omega)] at hm
      have := of_decide_eq_true hm
      subst this
      exact q.mpr z
  cases hh : allIn (goA true u n).1 ((1 : Int32) <<< (nI b &&& 31)) with
  | true => exact (decide_eq_true (e.mp hh)).symm
  | false => exact (decide_eq_false (fun z => by rw [e.mpr z] at hh; cases hh)).symm
theorem due_cong {p q : Nat → Bool} (h : ∀ n, p n = q n) : due p = due q := by
  unfold due
  rw [frst_cong (fun i _ => h i)]
theorem due_o (p : Nat → Bool) : (due p = 101 ∧ oI (frst p 101) = -1) ∨ (due p < 101 ∧ oI (frst p 101) = nI (due p)) := by
  unfold due
  rcases frst_cases p 101 with ⟨h, _⟩ | ⟨n, h1, h, _⟩
  · rw [h]; exact Or.inl ⟨rfl, rfl⟩
  · rw [h]; exact Or.inr ⟨h1, rfl⟩
abbrev FB (I I' : Nat → Nat → Int32) : Prop := FR 148 [149, 152, 156] [18] I I'
theorem M_soonOf {d Ln c s : Nat} {I : Nat → Nat → Int32} {L : Nat → Nat → Int64} {K : Int32 → (Nat → Nat → Int32) → (Nat → Nat → Int64) → Prop} {w : Nat → Nat} {b : Nat} (hd : 38 ≤ d) (hR : RM w I) (hO : OKW w) (hi : inbs w) (hb : b < w 1) (k : ∀ I', RM w I' → FB I I' → K (nI (due (fun n => decide (wkB w b n = w 4)))) I' L) : dd_Ev d m_X11_soonOf [.ref 148, .int (nI b)] (sM Ln I L c s) (dd_RI Ln c s K) := by
  refine w_X11_soonOf_0 (by omega) ?_
  refine M_keepsAll (w := w) (by omega) hR fun f hf => ?_
  refine M_soonFor (w := w) (w0 := w) (by omega) (hR.of (dd_un (by decide))) hO (fun j hj => by rw [dd_us]; exact hf j hj) (fun _ _ => rfl) fun I1 r1 f1 => ?_
  rw [due_cong (fun n => soonB hO hi hb n)]
  exact dd_qi (k I1 r1 (((FR.refl I).u (by decide) (by decide)).trans (f1.mono (by decide) (by decide))))
theorem inbs_up {w : Nat → Nat} (h : inbs w) {j v : Nat} (h1 : j ≠ 1) (h4 : j ≠ 4) (hj : ∀ b, j ≠ 187 + 5 * b ∧ j ≠ 187 + 5 * b + 3) : inbs (upw w j v) := by
  intro b hb
  rw [upw_ne (by omega)] at hb
  have := h b hb
  unfold inb at *
  have q := hj b
  rw [upw_ne (by omega), upw_ne (by omega), upw_ne (by omega)]
  exact this
/-- how soon a boy by a part -/
abbrev byW (w : Nat → Nat) (b p : Nat) : Nat → Nat := wk w b p (w (187 + 5 * b + 2)) (w (187 + 5 * b + 4)) (w 5) (prow w p) (w 7) (w (187 + 5 * b))
theorem M_soonBy {d Ln c s : Nat} {I : Nat → Nat → Int32} {L : Nat → Nat → Int64} {K : Int32 → (Nat → Nat → Int32) → (Nat → Nat → Int64) → Prop} {w : Nat → Nat} {b p : Nat} (hd : 38 ≤ d) (hR : RM w I) (hO : OKW w) (hi : inbs w) (hb : b < w 1) (hp : p < 6) (k : ∀ I', RM w I' → FB I I' → K (nI (due (fun n => decide (byW w b p n = w 4)))) I' L) : dd_Ev d m_X11_soonBy [.ref 148, .int (nI b), .int (nI p)] (sM Ln I L c s) (dd_RI Ln c s K) := by
  have h1 := hO.1.2.1
  have bc := (hO.2.2.2.1 b (by omega)).2.1
  have oU : OKW (upw w (187 + 5 * b + 1) p) := okW_b hO (by omega) (by omega) (by omega)
  have iU : inbs (upw w (187 + 5 * b + 1) p) := inbs_up hi (by omega) (by omega) (fun b' => by omega)
  have eU : env w (upw w (187 + 5 * b + 1) p) := env_up (by omega) (by omega) (by omega) (by omega)
  have ed : ∀ n, allIn (goA true (upw w (187 + 5 * b + 1) p) n).1 ((1 : Int32) <<< (nI b &&& 31)) = decide (byW w b p n = w 4) := by
    intro n
    rw [soonB oU iU (by rw [upw_ne (by omega)]; exact hb) n]
    unfold wkB
    rw [upw_eq, upw_ne (by omega), upw_ne (by omega), upw_ne (by omega), upw_ne (by omega), upw_ne (by omega), upw_ne (by omega), wk_env eU bc]
    have er : prow (upw w (187 + 5 * b + 1) p) p = prow w p ∨ True := Or.inr trivial
    have er2 : ∀ j, j < 8 → prow (upw w (187 + 5 * b + 1) p) p j = prow w p j := fun j hj => by unfold prow; rw [upw_ne (by omega)]
    have ew : ∀ m, wk w b p (w (187 + 5 * b + 2)) (w (187 + 5 * b + 4)) (w 5) (prow (upw w (187 + 5 * b + 1) p) p) (w 7) (w (187 + 5 * b)) m = byW w b p m := by
      intro m
      induction m with
      | zero => rfl
      | succ m ih =>
        unfold byW wk at *
        rw [lpf, lpf, ih, er2 _ (by omega)]
    rw [ew n]
  refine w_X11_soonBy_0 (by omega) ?_
  refine M_keepsAll (w := w) (by omega) hR fun f hf => ?_
  simp (disch := omega) only [nI_add, pk_mul, tn, nI_clamp, nI_eq, nI_leI, nI_ltI, pk_sub, pk_div, pk_rem, nI_nm, nI_nm2, nI_nle1, nI_nlt1, nI_le1, nI_lt1, li_0, li_1, li_2, li_3, li_4, li_5, li_6, li_7, li_8, li_9, li_10, li_11, li_12, li_13, li_14, li_15, li_16, li_17, li_18, li_19, li_20, li_21, li_22, li_23, li_24, li_25, li_26, li_27, li_28, li_29, li_30, li_31, li_32, li_33, li_34, li_35, li_36, li_37, li_38, li_39, li_40, li_41, li_42, li_43, li_44, li_45, li_46, li_47, li_48, li_49, li_50, li_51, li_52, li_53, li_54, li_55, li_56, li_57, li_58, li_59, li_60, li_61, li_62, li_63, li_64, li_65, li_66, li_67, li_68, li_69, li_75, li_97, li_99, li_100, li_101, li_102, li_120, li_122, li_127, li_139, li_187, li_222, li_223, li_224, li_225, li_226, li_255, li_256, li_299, li_400, li_465, li_522, li_523, li_571, li_849, li_999, li_1000, li_1100, li_1371, li_1372, li_1420, li_1984, li_2220, li_5742, li_6264, li_9999, li_10000, li_12345, li_32767, li_65536, li_1000000, li_252645135, li_858993459, li_1103515245, li_1431655765, dd_us, dd_un, dd_u_u, pk_us, pk_un, Bool.true_eq_false, Bool.false_eq_true, true_and, and_true, true_implies, false_implies, implies_true, not_true_eq_false, not_false_eq_true, ne_eq, forall_const, sdm, Nat.add_zero, Nat.zero_add, sb_m1n, nmn1, nmn2, nmn3, nmn4, nmn5, nmn6, bI_0n, bI_1n, ck_and, im_t, im_f, if_pos, if_neg]
  refine M_soonFor (m := (1 : Int32) <<< (nI b &&& 31)) (w := upw w (187 + 5 * b + 1) p) (w0 := w) (by omega) ?_ oU ?_ (fun j hj => upw_ne (by omega)) fun I1 r1 f1 => ?_
  · intro j hj
    rw [dd_us]
    exact nu hR _ _ j hj
  · intro j hj
    rw [dd_un (by decide), dd_us]
    exact hf j hj
  · rw [due_cong ed]
    exact dd_qi (k I1 r1 ((((FR.refl I).u (by decide) (by decide)).u (by decide) (by decide)).trans (f1.mono (by decide) (by decide))))
theorem FC.v {k : Nat} (hk : k = 133 ∨ k = 136) {I I' : Nat → Nat → Int32} {L : Nat → Nat → Int64} (h : FV k I I') : FC I I' L L := by
  rcases hk with rfl | rfl
  · exact FC.fr h (by decide)
  · exact FC.fr h (by decide)
theorem FM.b {I I' : Nat → Nat → Int32} (h : FB I I') : FM I I' := FM.fr h (by decide) (by decide)
theorem A_soon {d Ln c s : Nat} {I0 I : Nat → Nat → Int32} {L : Nat → Nat → Int64} {w : Nat → Nat} {im : Option (Nat → Nat)} {na od : Nat} {A : Nat → Nat → Nat} {tp : Nat → Nat} {tl : Nat} {fa : Option Nat} (hd : 60 ≤ d) (h : INV I0 w im na od A tp tl fa I L) (a : Int32) : PW d m_L_soon [.ref 0, .int a, .ref 163] m_X11_soon [.ref 148, .int a] I0 Ln c s I L := by
  have hO := h.1.1
  have hi := h.1.2.1
  have w1 := hO.1.2.1
  have hC := h.2.2.1
  have hk : (133 : Nat) = 133 ∨ (133 : Nat) = 136 := Or.inl rfl
  by_cases hv : vld a (w 1)
  · obtain ⟨b, hb, rfl⟩ := vld_i (by omega) hv
    obtain ⟨_, b1, b2, b3, b4, b5⟩ := hO.2.2.2.1 b (by omega)
    refine PW.q h _ (oI (frst (fun n => decide (wkB w b n = w 4)) 101)) (WR1 (e1 := 2) (o := none) (w_L_soon_0 (by omega)) (Or.inl rfl) ?_) ?_
    · intro K T g1 g2
      refine w_X10_soon_0 (by omega) (rqC hC.boys (fun z => absurd hv z) fun _ => ?_)
      refine C_follow (by omega) hk hC hO (by omega) fun I1 v1 f1 => ?_
      refine C_comesIn (by omega) hk (hC.fr f1 (kA hk)) hO (h.2.2.2.1.fr f1 (kA26 hk)) v1 (by omega) b2 b3 b5 hO.1.2.2.2.2.2.2.1 hO.1.2.2.2.2.1 b1 (fun j hj => hO.2.2.1 _ b2 j hj) fun I2 f2 => ?_
      exact dd_qT (g1 rfl I2 L (FC.v hk (f1.trans f2)))
    · intro I1 L1 c1 s1 h1 K g
      have hR := h1.2.1
      refine w_X11_soon_0 (by omega) (rqM (hR.g (by omega)) (by omega) (fun z => absurd hv z) fun _ => ?_)
      refine M_soonOf (w := w) (by omega) (hR.of (dd_un (by decide))) hO hi hb fun I2 r2 f2 => ?_
      have F : FM I1 I2 := (FM.th I1 0).trans (FM.b f2)
      have t2 : I2 148 0 = 0 := by rw [f2.2 0 (by decide)]; exact thr0
      have dl := due_le (fun n => decide (wkB w b n = w 4))
      rw [li_101, nI_eq (by omega) (by omega)]
      rcases due_o (fun n => decide (wkB w b n = w 4)) with ⟨q1, q2⟩ | ⟨q1, q2⟩
      · exact ⟨fun _ => mqJ r2 F t2 q2.symm g, fun z => absurd q1 z⟩
      · exact ⟨fun z => absurd z (by omega), fun _ => mqJ r2 F t2 q2.symm g⟩
  · refine PW.q h _ 0 (WR1 (e1 := 2) (o := some 2) (w_L_soon_0 (by omega)) (Or.inr rfl) ?_) ?_
    · intro K T g1 g2
      exact w_X10_soon_0 (by omega) (rqC hC.boys (fun _ => dd_qX (g2 2 rfl)) fun z => absurd z hv)
    · intro I1 L1 c1 s1 h1 K g
      have hR := h1.2.1
      refine w_X11_soon_0 (by omega) ?_
      rw [dd_u_u, upd_uu]
      exact rqM (hR.g (by omega)) (by omega) (fun _ => mqT hR (by decide) g) fun z => absurd z hv
theorem C_soonBy {d Ln c s : Nat} {I : Nat → Nat → Int32} {L : Nat → Nat → Int64} {K : Int32 → (Nat → Nat → Int32) → (Nat → Nat → Int64) → Prop} {w : Nat → Nat} {b p : Nat} (hd : 40 ≤ d) (hC : RC w I L) (hO : OKW w) (hL : RLw w I) (hb : b < 6) (hp : p < 6) (kk : ∀ I', FV 133 I I' → K (oI (frst (fun n => decide (byW w b p n = w 4)) 101)) I' L) : dd_Ev d m_X10_soonBy [.ref 0, .int (nI b), .int (nI p)] (sM Ln I L c s) (dd_RI Ln c s K) := by
  have hk : (133 : Nat) = 133 ∨ (133 : Nat) = 136 := Or.inl rfl
  obtain ⟨_, b1, b2, b3, b4, b5⟩ := hO.2.2.2.1 b (by omega)
  refine w_X10_soonBy_0 (by omega) ?_
  refine C_follow (by omega) hk hC hO hb fun I1 v1 f1 => ?_
  have c1 := hC.fr f1 (kA hk)
  obtain ⟨⟨q0, q1, q2, q6, q7, qr, ql⟩, q3, q4, q5, qc⟩ := v1
  refine C_takePart (part := 0) (row := fun _ => 0) (by omega) hk c1 q0 q2 q6 q7 ql hp fun I2 v2 e2 e3 f2 => ?_
  have f12 := f1.trans f2
  have v2' : RV 133 b p (w (187 + 5 * b + 2)) (w (187 + 5 * b + 4)) (w 7) (w 5) (prow w p) (w (187 + 5 * b)) (w 4) I2 := ⟨v2, by rw [e3 3 (by decide)]; exact q3, by rw [e3 4 (by decide)]; exact q4, by rw [e3 5 (by decide)]; exact q5, by rw [e2]; exact qc⟩
  refine C_comesIn (by omega) hk (hC.fr f12 (kA hk)) hO (hL.fr f12 (kA26 hk)) v2' (by omega) hp b3 b5 hO.1.2.2.2.2.2.2.1 hO.1.2.2.2.2.1 b1 (fun j hj => hO.2.2.1 _ hp j hj) fun I3 f3 => ?_
  exact dd_qi (kk I3 (f12.trans f3))
theorem A_by {d Ln c s : Nat} {I0 I : Nat → Nat → Int32} {L : Nat → Nat → Int64} {w : Nat → Nat} {im : Option (Nat → Nat)} {na od : Nat} {A : Nat → Nat → Nat} {tp : Nat → Nat} {tl : Nat} {fa : Option Nat} (hd : 60 ≤ d) (h : INV I0 w im na od A tp tl fa I L) (a a2 : Int32) : PW d m_L_by [.ref 0, .int a, .int a2, .ref 163] m_X11_by [.ref 148, .int a, .int a2] I0 Ln c s I L := by
  have hO := h.1.1
  have hi := h.1.2.1
  have w0 := hO.1.1
  have w1 := hO.1.2.1
  have hC := h.2.2.1
  have hk : (133 : Nat) = 133 ∨ (133 : Nat) = 136 := Or.inl rfl
  by_cases hv : vld a (w 1) ∧ vld a2 (w 0)
  · obtain ⟨b, hb, rfl⟩ := vld_i (by omega) hv.1
    obtain ⟨p, hp, rfl⟩ := vld_i (by omega) hv.2
    refine PW.q h _ (oI (frst (fun n => decide (byW w b p n = w 4)) 101)) (WR1 (e1 := 2) (o := none) (w_L_by_0 (by omega)) (Or.inl rfl) ?_) ?_
    · intro K T g1 g2
      refine w_X10_by_0 (by omega) (rqC hC.boys (fun z => absurd hv.1 z) fun _ => rqC hC.parts (fun z => absurd hv.2 z) fun _ => ?_)
      refine C_soonBy (by omega) hC hO h.2.2.2.1 (by omega) (by omega) fun I2 f2 => ?_
      exact dd_qT (g1 rfl I2 L (FC.v hk f2))
    · intro I1 L1 c1 s1 h1 K g
      have hR := h1.2.1
      refine w_X11_by_0 (by omega) (rqM (hR.g (by omega)) (by omega) (fun z => absurd hv.1 z) fun _ => rqM (hR.g (by omega)) (by omega) (fun z => absurd hv.2 z) fun _ => ?_)
      refine M_soonBy (w := w) (by omega) (hR.of (dd_un (by decide))) hO hi hb (by omega) fun I2 r2 f2 => ?_
      have F : FM I1 I2 := (FM.th I1 0).trans (FM.b f2)
      have t2 : I2 148 0 = 0 := by rw [f2.2 0 (by decide)]; exact thr0
      have dl := due_le (fun n => decide (byW w b p n = w 4))
      rw [li_101, nI_eq (by omega) (by omega)]
      rcases due_o (fun n => decide (byW w b p n = w 4)) with ⟨q1, q2⟩ | ⟨q1, q2⟩
      · exact ⟨fun _ => mqJ r2 F t2 q2.symm g, fun z => absurd q1 z⟩
      · exact ⟨fun z => absurd z (by omega), fun _ => mqJ r2 F t2 q2.symm g⟩
  · refine PW.q h _ 0 (WR1 (e1 := 2) (o := some 2) (w_L_by_0 (by omega)) (Or.inr rfl) ?_) ?_
    · intro K T g1 g2
      exact w_X10_by_0 (by omega) (rqC hC.boys (fun _ => dd_qX (g2 2 rfl)) fun z => rqC hC.parts (fun _ => dd_qX (g2 2 rfl)) fun z2 => absurd ⟨z, z2⟩ hv)
    · intro I1 L1 c1 s1 h1 K g
      have hR := h1.2.1
      refine w_X11_by_0 (by omega) ?_
      rw [dd_u_u, upd_uu]
      exact rqM (hR.g (by omega)) (by omega) (fun _ => mqT hR (by decide) g) fun z => rqM (hR.g (by omega)) (by omega) (fun _ => mqT hR (by decide) g) fun z2 => absurd ⟨z, z2⟩ hv
