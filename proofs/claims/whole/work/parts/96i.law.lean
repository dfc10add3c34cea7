/-! law: the whole -/
theorem RW.cg {w w' : Nat → Nat} {I : Nat → Nat → Int32} {L : Nat → Nat → Int64} {k : Nat} (h : RW w I L k) (h9 : w 9 ≤ 60) (hE : ∀ j, j ≠ 3 → j < 522 → w' j = w j) : RW w' I L k := by
  obtain ⟨r1, r2, r3, r4, r5, r6, r7, r8, r9, r10, r11, r12, r13, r14, r15, r16, r17, r18, r19⟩ := h
  refine ⟨fun c hc => ?_, fun c hc => ?_, fun j hj => ?_, fun b hb => ?_, fun b hb => ?_, fun b hb => ?_, fun b hb => ?_, fun i hi => ?_, fun a ha => ?_, ?_, ?_, ?_, ?_, ?_, ?_, ?_, ?_, ?_, ?_⟩
  · rw [hE (11 + c) (by omega) (by omega)]; exact r1 c hc
  · rw [hE (75 + c) (by omega) (by omega)]; exact r2 c hc
  · rw [hE (139 + j) (by omega) (by omega)]; exact r3 j hj
  · rw [hE (187 + 5 * b) (by omega) (by omega)]; exact r4 b hb
  · rw [hE (187 + 5 * b + 1) (by omega) (by omega)]; exact r5 b hb
  · rw [hE (187 + 5 * b + 2) (by omega) (by omega)]; exact r6 b hb
  · rw [hE (187 + 5 * b + 4) (by omega) (by omega)]; exact r7 b hb
  · rw [hE (187 + 5 * i + 3) (by omega) (by omega)]; exact r8 i hi
  · rw [hE 9 (by omega) (by omega)] at ha ⊢
    have e : pck w' a = pck w a := by
      unfold pck
      rw [hE (222 + 5 * a) (by omega) (by omega), hE (222 + 5 * a + 1) (by omega) (by omega), hE (222 + 5 * a + 2) (by omega) (by omega), hE (222 + 5 * a + 3) (by omega) (by omega), hE (222 + 5 * a + 4) (by omega) (by omega)]
    rw [e]
    exact r9 a ha
  · rw [hE 9 (by omega) (by omega)]; exact r10
  · rw [hE 0 (by omega) (by omega)]; exact r11
  · rw [hE 1 (by omega) (by omega)]; exact r12
  · rw [hE 2 (by omega) (by omega)]; exact r13
  · rw [hE 4 (by omega) (by omega)]; exact r14
  · rw [hE 5 (by omega) (by omega)]; exact r15
  · rw [hE 6 (by omega) (by omega)]; exact r16
  · rw [hE 7 (by omega) (by omega)]; exact r17
  · rw [hE 8 (by omega) (by omega)]; exact r18
  · rw [hE 10 (by omega) (by omega)]; exact r19
theorem GOOD.cg {w w' : Nat → Nat} (h : GOOD w) (hE : ∀ j, j ≠ 3 → j < 522 → w' j = w j) (hl : LawOK w') : GOOD w' := by
  obtain ⟨⟨o1, o2, o3, o4, _⟩, g2, ⟨g3, g4⟩, g5, g6⟩ := h
  have w4 := o1.2.2.2.1
  have w1 := o1.2.1
  have w9 := o1.2.2.2.2.2.2.2.2.1
  refine ⟨⟨?_, fun c hc => ?_, fun p hp b hb => ?_, fun b hb => ?_, hl⟩, fun b hb => ?_, ⟨?_, fun b hb => ?_⟩, fun a ha => ?_, fun b hb hb6 => ?_⟩
  · unfold okW
    rw [hE 0 (by omega) (by omega), hE 1 (by omega) (by omega), hE 2 (by omega) (by omega), hE 4 (by omega) (by omega), hE 5 (by omega) (by omega), hE 6 (by omega) (by omega), hE 7 (by omega) (by omega), hE 8 (by omega) (by omega), hE 9 (by omega) (by omega), hE 10 (by omega) (by omega)]
    exact o1
  · rw [hE (11 + c) (by omega) (by omega), hE (75 + c) (by omega) (by omega)]
    exact o2 c hc
  · rw [hE (139 + 8 * p + b) (by omega) (by omega)]
    exact o3 p hp b hb
  · unfold okB
    rw [hE (187 + 5 * b) (by omega) (by omega), hE (187 + 5 * b + 1) (by omega) (by omega), hE (187 + 5 * b + 2) (by omega) (by omega), hE (187 + 5 * b + 3) (by omega) (by omega), hE (187 + 5 * b + 4) (by omega) (by omega)]
    exact o4 b hb
  · rw [hE 1 (by omega) (by omega)] at hb
    unfold inb
    rw [hE (187 + 5 * b) (by omega) (by omega), hE (187 + 5 * b + 3) (by omega) (by omega), hE 4 (by omega) (by omega)]
    exact g2 b hb
  · rw [hE 4 (by omega) (by omega), hE (11 + w 4) (by omega) (by omega)]
    exact g3
  · rw [hE 1 (by omega) (by omega)] at hb
    have := (o4 b (by omega)).2.1
    rw [hE (187 + 5 * b) (by omega) (by omega), hE (11 + w (187 + 5 * b)) (by omega) (by omega)]
    exact g4 b hb
  · rw [hE 9 (by omega) (by omega)] at ha
    rw [hE (222 + 5 * a) (by omega) (by omega), hE (222 + 5 * a + 1) (by omega) (by omega), hE (222 + 5 * a + 2) (by omega) (by omega), hE (222 + 5 * a + 3) (by omega) (by omega), hE (222 + 5 * a + 4) (by omega) (by omega)]
    exact g5 a ha
  · rw [hE 1 (by omega) (by omega)] at hb
    rw [hE (187 + 5 * b + 3) (by omega) (by omega)]
    exact g6 b hb hb6
def uN (a : Int32) : Nat := a.toBitVec.toNat
theorem uN_n (a : Int32) : nI (uN a) = a := by
  apply Int32.toBitVec_inj.mp
  show BitVec.ofNat 32 a.toBitVec.toNat = a.toBitVec
  rw [BitVec.ofNat_toNat, BitVec.setWidth_eq]
theorem uN_v {n : Nat} (h : n < 2 ^ 32) : uN (nI n) = n := by
  show (BitVec.ofNat 32 n).toNat = n
  rw [BitVec.toNat_ofNat, Nat.mod_eq_of_lt h]
/-- the world with a law in it -/
def nlW (w : Nat → Nat) (g : Nat → Int32) : Nat → Nat := fun j => if j = 3 then 1 else if j < 522 then w j else if j < 1371 then uN (g (j + 849)) else w j
theorem nlW_3 {w : Nat → Nat} {g : Nat → Int32} : nlW w g 3 = 1 := rfl
theorem nlW_o {w : Nat → Nat} {g : Nat → Int32} {j : Nat} (h : j ≠ 3) (h2 : j < 522) : nlW w g j = w j := by unfold nlW; rw [if_neg h, if_pos h2]
theorem nlW_i {w : Nat → Nat} {g : Nat → Int32} {j : Nat} (h : 522 ≤ j) (h2 : j < 1371) : nlW w g j = uN (g (j + 849)) := by unfold nlW; rw [if_neg (by omega), if_neg (by omega), if_pos h2]
theorem nlW_L {w : Nat → Nat} {g : Nat → Int32} {A : List LN} (hn : A.length ≤ 12) (hg : LGs A) (hm : (mcat A).length ≤ 400) (h0 : g 1371 = nI A.length) (hq : ∀ i, i < A.length → g (1372 + 4 * i) = nI (A.getD i d0).1 ∧ g (1372 + 4 * i + 1) = nI (A.getD i d0).2.1 ∧ g (1372 + 4 * i + 2) = nI (mcat (A.take i)).length ∧ g (1372 + 4 * i + 3) = nI ((mcat (A.take i)).length + (A.getD i d0).2.2.1.length)) (hc : ∀ i, i < (mcat A).length → g (1420 + 2 * i) = nI ((mcat A).getD i (0, 0)).1 ∧ g (1420 + 2 * i + 1) = nI ((mcat A).getD i (0, 0)).2) : LWo (nlW w g) A := by
  refine ⟨rfl, ?_, fun i hi => ?_, fun i hi => ?_⟩
  · rw [nlW_i (by omega) (by omega), show 522 + 849 = 1371 from rfl, h0, uN_v (by omega)]
  · obtain ⟨q1, q2, q3, q4⟩ := hq i hi
    have ml := (mcat_at A i hi).1
    have gx : LG (A.getD i d0) := hg _ (by
      have : A.getD i d0 = A[i] := by simp [hi]
      rw [this]
      exact List.getElem_mem hi)
    obtain ⟨g1, g2, _, _⟩ := gx
    refine ⟨?_, ?_, ?_, ?_⟩
    · rw [nlW_i (by omega) (by omega), show 523 + 4 * i + 849 = 1372 + 4 * i by omega, q1, uN_v (by omega)]
    · rw [nlW_i (by omega) (by omega), show 523 + 4 * i + 1 + 849 = 1372 + 4 * i + 1 by omega, q2, uN_v (by omega)]
    · rw [nlW_i (by omega) (by omega), show 523 + 4 * i + 2 + 849 = 1372 + 4 * i + 2 by omega, q3, uN_v (by omega)]
    · rw [nlW_i (by omega) (by omega), show 523 + 4 * i + 3 + 849 = 1372 + 4 * i + 3 by omega, q4, uN_v (by omega)]
  · obtain ⟨c1, c2⟩ := hc i hi
    obtain ⟨b1, b2⟩ := mcat_b A hg hm i hi
    refine ⟨?_, ?_⟩
    · rw [nlW_i (by omega) (by omega), show 571 + 2 * i + 849 = 1420 + 2 * i by omega, c1, uN_v (by omega)]
    · rw [nlW_i (by omega) (by omega), show 571 + 2 * i + 1 + 849 = 1420 + 2 * i + 1 by omega, c2, uN_v (by omega)]
theorem M_law {d Ln c s : Nat} {I : Nat → Nat → Int32} {L : Nat → Nat → Int64} {K : Int32 → (Nat → Nat → Int32) → (Nat → Nat → Int64) → Prop} {tp : Nat → Nat} {tl : Nat} {w : Nat → Nat} (hd : 98 ≤ d) (hS : STR I) (hl : tl ≤ 400) (h9 : I 148 9 = nI tl) (hx : TXm tp I) (h6 : ∀ j, tp j < 256) (hR : RM w I) (kf : ∀ f, rdB tp tl = .inl f → ∀ I', RM w I' → I' 148 0 = 1 → I' 148 9 = 0 → I' 148 14 = nI f → FR 148 [149] [0, 9, 10, 11, 12, 13, 14, 16] I I' → K 0 I' L) (kt : ∀ A, rdB tp tl = .inr A → A.length ≤ 12 → LGs A → (mcat A).length ≤ 400 → ∀ w' I', LWo w' A → (∀ j, j ≠ 3 → j < 522 → w' j = w j) → RM w' I' → I' 148 0 = 0 → I' 148 9 = 0 → I' 148 14 = -1 → I' 148 7 = 0 → FR 148 [149] [0, 7, 9, 10, 11, 12, 13, 14, 16] I I' → K (nI A.length) I' L) : dd_Ev d m_X11_law [.ref 148] (sM Ln I L c s) (dd_RI Ln c s K) := by
  refine w_X11_law_0 (by omega) ?_
  refine M_lawLines (tp := tp) (tl := tl) (by omega) hS hl h9 hx h6 (fun f e I1 b12 b0 b9 f1 w1 => ?_) (fun A e hA hg hm I1 ml mq b0 b9 f1 w1 => ?_)
  · refine ⟨fun z => absurd z (by decide), fun _ => ⟨fun z => absurd z (by decide), fun _ => dd_qi ?_⟩⟩
    rw [dd_u_u]
    refine kf f e _ (fun j hj => by rw [dd_un (by decide), w1 j hj]; exact hR j hj) ?_ ?_ ?_ ?_
    · rw [dd_us, pk_us]
    · rw [dd_us, pk_un (by decide), pk_un (by decide)]; exact b9
    · rw [dd_us, pk_un (by decide), pk_us]; exact b12
    · have f2 : FR 148 [149] [0, 9, 10, 11, 12, 13, 14, 16] I I1 := f1.mono (by decide) (by decide)
      have f3 := (f2.v (j := 14) (v := I1 148 12) (by decide)).v (j := 0) (v := 1) (by decide)
      rw [dd_us, dd_u_u] at f3
      exact f3
  · refine ⟨fun _ => ⟨fun _ => ?_, fun z => absurd (nI_pos' (by omega)) z⟩, fun z => absurd (nI_pos' (by omega)) z⟩
    have key : ∀ f, (∀ j, j < 522 → f j = I1 149 j) → (∀ j, 1371 ≤ j → f j = upd (I1 149) 1371 (nI A.length) j) → (∀ j, j < 0 → f (522 + j) = upd (I1 149) 1371 (nI A.length) (1371 + j)) → dd_Rn d m_X11_law (52, [.ref 148, .int (nI A.length), .int (nI 0)], [], sM Ln (dd_u (dd_u I1 148 (upd (I1 148) 14 (-1))) 149 f) L c s) (dd_RI Ln c s K) := by
      refine dd_lp (fun i => ∀ f, (∀ j, j < 522 → f j = I1 149 j) → (∀ j, 1371 ≤ j → f j = upd (I1 149) 1371 (nI A.length) j) → (∀ j, j < i → f (522 + j) = upd (I1 149) 1371 (nI A.length) (1371 + j)) → dd_Rn d m_X11_law (52, [.ref 148, .int (nI A.length), .int (nI i)], [], sM Ln (dd_u (dd_u I1 148 (upd (I1 148) 14 (-1))) 149 f) L c s) (dd_RI Ln c s K)) 849 ?_ ?_
      · intro f f0 f1' f2
        refine w_X11_law_52 (by omega) ?_
        rw [li_849, nI_leI (by omega) (by omega)]
        refine ⟨fun _ => dd_qi ?_, fun z => absurd (Nat.le_refl _) z⟩
        rw [dd_us, dd_u_u, dd_un (show (148 : Nat) ≠ 149 by decide), dd_us]
        refine kt A e hA hg hm (nlW w (upd (I1 149) 1371 (nI A.length))) _ (nlW_L hA hg hm pk_us (fun i hi => ?_) (fun i hi => ?_)) (fun j h1 h2 => nlW_o h1 h2) (fun j hj => ?_) ?_ ?_ ?_ ?_ ?_
        · rw [pk_un (by omega), pk_un (by omega), pk_un (by omega), pk_un (by omega)]
          exact mq i hi
        · rw [pk_un (by omega), pk_un (by omega)]
          exact ml.2 i hi
        · rw [dd_un (by decide), dd_us]
          by_cases e3 : j = 3
          · subst e3; rw [pk_us]; rfl
          rw [pk_un e3]
          by_cases e5 : j < 522
          · rw [f0 j e5, w1 j hj, nlW_o e3 e5]; exact hR j hj
          · have := f2 (j - 522) (by omega)
            rw [show 522 + (j - 522) = j by omega, show 1371 + (j - 522) = j + 849 by omega] at this
            rw [this, nlW_i (by omega) hj, uN_n]
        · rw [dd_us, pk_un (by decide), pk_un (by decide)]; exact b0
        · rw [dd_us, pk_un (by decide), pk_un (by decide)]; exact b9
        · rw [dd_us, pk_un (by decide), pk_us]
        · rw [dd_us, pk_us]
        · have f2' : FR 148 [149] [0, 7, 9, 10, 11, 12, 13, 14, 16] I I1 := f1.mono (by decide) (by decide)
          have f3 := f2'.v (j := 14) (v := -1) (by decide)
          have f4 := f3.u (k := 149) (f := upd f 3 1) (by decide) (by decide)
          have f5 := f4.v (j := 7) (v := 0) (by decide)
          rw [dd_un (show (148 : Nat) ≠ 149 by decide), dd_us] at f5
          exact f5
      · intro i hi ih f f0 f1' f2
        refine w_X11_law_52 (by omega) ?_
        have e1 : (1371 : Int32) + nI i = nI (1371 + i) := by rw [li_1371, nI_add]
        have e2 : (522 : Int32) + nI i = nI (522 + i) := by rw [li_522, nI_add]
        have t1 : tn (nI (1371 + i)) = 1371 + i := nI_clamp (by omega)
        have t2 : tn (nI (522 + i)) = 522 + i := nI_clamp (by omega)
        rw [li_849, nI_leI (by omega) (by omega), e1, e2, t1, t2, nI_1, dd_us]
        simp only [dd_u_u]
        refine ⟨fun z => absurd z (by omega), fun _ => ⟨⟨nI_pos' (by omega), by omega⟩, ⟨nI_pos' (by omega), by omega⟩, ih _ (fun j hj => ?_) (fun j hj => ?_) (fun j hj => ?_)⟩⟩
        · rw [pk_un (by omega)]; exact f0 j hj
        · rw [pk_un (by omega)]; exact f1' j hj
        · by_cases q : j = i
          · subst q; rw [pk_us]; exact f1' _ (by omega)
          · rw [pk_un (by omega)]; exact f2 j (by omega)
    exact key _ (fun j hj => pk_un (by omega)) (fun _ _ => rfl) (fun j hj => absurd hj (Nat.not_lt_zero j))
theorem A_law {d Ln c s : Nat} {I0 I : Nat → Nat → Int32} {L : Nat → Nat → Int64} {w : Nat → Nat} {im : Option (Nat → Nat)} {na od : Nat} {A : Nat → Nat → Nat} {tp : Nat → Nat} {tl : Nat} {fa : Option Nat} (hd : 60 ≤ d) (h : INV I0 w im na od A tp tl fa I L) (hd2 : 102 ≤ d) (hS0 : STR I0) : PW d m_L_law [.ref 0, .ref 163] m_X11_law [.ref 148] I0 Ln c s I L := by
  have hg := h.1
  have hC := h.2.2.1
  have hR := h.2.1
  have hV := h.2.2.2.2.2.2.2.2
  have hS : STR I := hS0.of hV
  have w9 := hg.1.1.2.2.2.2.2.2.2.2.1
  obtain ⟨a1, a2, a3, a4, a5, a6⟩ := h.2.2.2.2.2.1
  obtain ⟨t1, t2, t3, t4, t5⟩ := h.2.2.2.2.2.2.1
  intro G g
  refine w_L_law_0 (by omega) ?_
  refine w_X10_law_0 (by omega) ?_
  rw [dd_u_u, t4]
  have jk : ∀ k, k ≠ 0 → k ≠ 27 → dd_u (dd_u I 27 (upd (upd (I 27) 1 0) 2 (-1))) 0 (upd (I 0) 9 0) k = I k := fun k k0 k27 => by rw [dd_un k0, dd_un k27]
  have j0 : ∀ j, j ≠ 9 → dd_u (dd_u I 27 (upd (upd (I 27) 1 0) 2 (-1))) 0 (upd (I 0) 9 0) 0 j = I 0 j := fun j hj => by rw [dd_us, pk_un hj]
  have j09 : dd_u (dd_u I 27 (upd (upd (I 27) 1 0) 2 (-1))) 0 (upd (I 0) 9 0) 0 9 = 0 := by rw [dd_us, pk_us]
  have j27 : dd_u (dd_u I 27 (upd (upd (I 27) 1 0) 2 (-1))) 0 (upd (I 0) 9 0) 27 1 = 0 := by rw [dd_un (by decide), dd_us, pk_un (by decide), pk_us]
  generalize dd_u (dd_u I 27 (upd (upd (I 27) 1 0) 2 (-1))) 0 (upd (I 0) 9 0) = J at *
  refine C_lawLines (tp := tp) (tl := tl) (by omega) (hS.of fun k hk => jk k (by omega) (by omega)) t1 (fun j hj => by rw [jk 129 (by omega) (by omega)]; exact (t5 j hj).1) t2 j27 (fun q e I2 b5 f2 => ?_) (fun B e hB hgB hcB I2 cl b5 f2 => ?_)
  · -- a wrong text
    refine ⟨fun _ => ?_, fun z => absurd rfl z⟩
    refine dd_qX ⟨rfl, dd_qJt ?_⟩
    have kk : ∀ k, k ≠ 0 → k ≠ 27 → k ≠ 28 → k ≠ 131 → k ≠ 132 → dd_u I2 0 (upd (I2 0) 10 (I2 131 5)) k = I k := fun k h1 h2 h3 h4 h5 => by rw [dd_un h1, f2 k h2 h3 h4 h5, jk k h1 h2]
    have k0 : ∀ j, dd_u I2 0 (upd (I2 0) 10 (I2 131 5)) 0 j = if j = 10 then nI q else if j = 9 then 0 else I 0 j := by
      intro j
      rw [dd_us, f2 0 (by omega) (by omega) (by omega) (by omega), b5]
      by_cases e1 : j = 10
      · subst e1; rw [pk_us, if_pos rfl]
      · rw [pk_un e1, if_neg e1]
        by_cases e2 : j = 9
        · subst e2; rw [if_pos rfl]; exact j09
        · rw [if_neg e2]; exact j0 j e2
    generalize dd_u I2 0 (upd (I2 0) 10 (I2 131 5)) = I3 at *
    refine ⟨fun k hk => by rw [kk k (by omega) (by omega) (by omega) (by omega) (by omega)]; exact hV k hk, ?_⟩
    refine M_law (tp := tp) (tl := tl) (w := w) (by omega) (hS.of fun k hk => kk k (by omega) (by omega) (by omega) (by omega) (by omega)) t1 (by rw [kk 148 (by omega) (by omega) (by omega) (by omega) (by omega)]; exact t3) (fun j hj => by rw [kk 154 (by omega) (by omega) (by omega) (by omega) (by omega)]; exact (t5 j hj).2) t2 (hR.of (kk 149 (by omega) (by omega) (by omega) (by omega) (by omega))) (fun q2 e2 I4 r4 b0 b9 b14 f4 => ?_) (fun B e2 _ _ _ w' I4 _ _ _ _ _ _ _ _ => by rw [e] at e2; cases e2)
    rw [e] at e2
    cases e2
    refine g 1 0 I4 L (c + 1) (s + 6) (Or.inr ⟨rfl, rfl⟩) b0 (fun z => absurd z (by decide)) ⟨w, im, na, od, A, tp, 0, some q, ?_⟩
    have k4 : ∀ k, k ≠ 148 → k ≠ 149 → I4 k = I3 k := fun k h1 h2 => f4.1 k (by simp only [List.mem_cons, List.not_mem_nil, or_false]; omega) h1
    have k5 : ∀ k, k ≠ 0 → k ≠ 27 → k ≠ 28 → k ≠ 131 → k ≠ 132 → k ≠ 148 → k ≠ 149 → I4 k = I k := fun k h1 h2 h3 h4 h5 h6 h7 => by rw [k4 k h6 h7, kk k h1 h2 h3 h4 h5]
    refine h.text hg r4 (hC.of (fun j _ _ => k5 j (by omega) (by omega) (by omega) (by omega) (by omega) (by omega) (by omega)) rfl) ?_ (Or.inr ⟨rfl, sameL.refl w⟩) (fun k hk => k5 k (by omega) (by omega) (by omega) (by omega) (by omega) (by omega) (by omega)) ?_ ?_ ?_ ?_ ?_ ?_ ?_ b9 b14 (fun k h1 h2 => rfl)
    · have e25 := k5 25 (by omega) (by omega) (by omega) (by omega) (by omega) (by omega) (by omega)
      exact h.2.2.2.1.of (by rw [e25]) (by rw [e25]) (k5 26 (by omega) (by omega) (by omega) (by omega) (by omega) (by omega) (by omega))
    · rw [k4 0 (by omega) (by omega), k0]; rfl
    · rw [k4 0 (by omega) (by omega), k0]; rfl
    · rw [k4 0 (by omega) (by omega), k0]; rfl
    · rw [k5 31 (by omega) (by omega) (by omega) (by omega) (by omega) (by omega) (by omega)]
    · rw [k5 31 (by omega) (by omega) (by omega) (by omega) (by omega) (by omega) (by omega)]; exact a4
    · rw [f4.2 6 (by decide), kk 148 (by omega) (by omega) (by omega) (by omega) (by omega)]
    · rw [f4.2 7 (by decide), kk 148 (by omega) (by omega) (by omega) (by omega) (by omega)]; exact a3
  · -- a text without a fault
    refine ⟨fun z => absurd z (nmX (by omega)), fun _ => ?_⟩
    have s0k : ∀ k, k ≠ 0 → k ≠ 27 → dd_u (dd_u I2 0 (upd (I2 0) 10 (I2 131 5))) 27 (upd (I2 27) 2 (nI B.length)) k = I2 k := fun k h1 h2 => by rw [dd_un h2, dd_un h1]
    have s00 : ∀ j, dd_u (dd_u I2 0 (upd (I2 0) 10 (I2 131 5))) 27 (upd (I2 27) 2 (nI B.length)) 0 j = if j = 10 then -1 else if j = 9 then 0 else I 0 j := by
      intro j
      rw [dd_un (by decide), dd_us, f2 0 (by omega) (by omega) (by omega) (by omega), b5]
      by_cases e1 : j = 10
      · subst e1; rw [pk_us, if_pos rfl]
      · rw [pk_un e1, if_neg e1]
        by_cases e2 : j = 9
        · subst e2; rw [if_pos rfl]; exact j09
        · rw [if_neg e2]; exact j0 j e2
    have s271 : dd_u (dd_u I2 0 (upd (I2 0) 10 (I2 131 5))) 27 (upd (I2 27) 2 (nI B.length)) 27 1 = nI (ccat B).length := by rw [dd_us, pk_un (by decide)]; exact cl.1
    have s272 : dd_u (dd_u I2 0 (upd (I2 0) 10 (I2 131 5))) 27 (upd (I2 27) 2 (nI B.length)) 27 2 = nI B.length := by rw [dd_us, pk_us]
    generalize dd_u (dd_u I2 0 (upd (I2 0) 10 (I2 131 5))) 27 (upd (I2 27) 2 (nI B.length)) = S0 at *
    refine w_X2_copyFrom_0 (by omega) (Or.inl ⟨rfl, rfl⟩) ?_
    rw [dd_u_u]
    refine dd_qV (dd_qT (dd_qJ ?_))
    have xk : ∀ k, k ≠ 25 → k ≠ 26 → dd_u (dd_u S0 (25 + 1) (va_cpy (S0 (27 + 1)) (S0 (25 + 1)) 0 0 400)) 25 (upd (upd (S0 25) 1 (S0 27 1)) 2 (S0 27 2)) k = S0 k := fun k h1 h2 => by rw [dd_un h1, dd_un h2]
    have x251 : dd_u (dd_u S0 (25 + 1) (va_cpy (S0 (27 + 1)) (S0 (25 + 1)) 0 0 400)) 25 (upd (upd (S0 25) 1 (S0 27 1)) 2 (S0 27 2)) 25 1 = nI (ccat B).length := by rw [dd_us, pk_un (by decide), pk_us]; exact s271
    have x252 : dd_u (dd_u S0 (25 + 1) (va_cpy (S0 (27 + 1)) (S0 (25 + 1)) 0 0 400)) 25 (upd (upd (S0 25) 1 (S0 27 1)) 2 (S0 27 2)) 25 2 = nI B.length := by rw [dd_us, pk_us]; exact s272
    have x26 : ∀ i, i < (ccat B).length → dd_u (dd_u S0 (25 + 1) (va_cpy (S0 (27 + 1)) (S0 (25 + 1)) 0 0 400)) 25 (upd (upd (S0 25) 1 (S0 27 1)) 2 (S0 27 2)) (25 + 1) i = (ccat B).getD i 0 := fun i hi => by
      rw [dd_un (show 25 + 1 ≠ 25 by decide), dd_us, pk_cpy_in (by omega) (by omega), Nat.sub_zero, Nat.zero_add, s0k (27 + 1) (by decide) (by decide)]
      exact cl.2 i hi
    generalize dd_u (dd_u S0 (25 + 1) (va_cpy (S0 (27 + 1)) (S0 (25 + 1)) 0 0 400)) 25 (upd (upd (S0 25) 1 (S0 27 1)) 2 (S0 27 2)) = X at *
    have kk : ∀ k, k ≠ 0 → (k < 25 ∨ 28 < k) → k ≠ 31 → k ≠ 131 → k ≠ 132 → dd_u X 31 (upd (X 31) 2 0) k = I k := fun k h1 h2 h3 h4 h5 => by rw [dd_un h3, xk k (by omega) (by omega), s0k k h1 (by omega), f2 k (by omega) (by omega) h4 h5, jk k h1 (by omega)]
    have k0 : ∀ j, dd_u X 31 (upd (X 31) 2 0) 0 j = if j = 10 then -1 else if j = 9 then 0 else I 0 j := fun j => by rw [dd_un (by decide), xk 0 (by decide) (by decide)]; exact s00 j
    have k31 : ∀ j, j ≠ 2 → dd_u X 31 (upd (X 31) 2 0) 31 j = I 31 j := fun j hj => by rw [dd_us, pk_un hj, xk 31 (by decide) (by decide), s0k 31 (by decide) (by decide), f2 31 (by decide) (by decide) (by decide) (by decide), jk 31 (by decide) (by decide)]
    have k312 : dd_u X 31 (upd (X 31) 2 0) 31 2 = 0 := by rw [dd_us, pk_us]
    have k25 : dd_u X 31 (upd (X 31) 2 0) 25 = X 25 := dd_un (by decide)
    have k26 : dd_u X 31 (upd (X 31) 2 0) 26 = X (25 + 1) := dd_un (by decide)
    generalize dd_u X 31 (upd (X 31) 2 0) = I3 at *
    refine ⟨fun k hk => by rw [kk k (by omega) (by omega) (by omega) (by omega) (by omega)]; exact hV k hk, ?_⟩
    refine M_law (tp := tp) (tl := tl) (w := w) (by omega) (hS.of fun k hk => kk k (by omega) (by omega) (by omega) (by omega) (by omega)) t1 (by rw [kk 148 (by omega) (by omega) (by omega) (by omega) (by omega)]; exact t3) (fun j hj => by rw [kk 154 (by omega) (by omega) (by omega) (by omega) (by omega)]; exact (t5 j hj).2) t2 (hR.of (kk 149 (by omega) (by omega) (by omega) (by omega) (by omega))) (fun q2 e2 I4 r4 b0 b9 b14 f4 => by rw [e] at e2; cases e2) (fun B2 e2 _ _ hmB w' I4 lw hE r4 b0 b9 b14 b7 f4 => ?_)
    rw [e] at e2
    cases e2
    refine g 0 (nI B.length) I4 _ c s (cs1r c s) b0 (fun _ => outL) ⟨w', im, 0, od, A, tp, 0, none, ?_⟩
    have k4 : ∀ k, k ≠ 148 → k ≠ 149 → I4 k = I3 k := fun k h1 h2 => f4.1 k (by simp only [List.mem_cons, List.not_mem_nil, or_false]; omega) h1
    have k5 : ∀ k, k ≠ 0 → (k < 25 ∨ 28 < k) → k ≠ 31 → k ≠ 131 → k ≠ 132 → k ≠ 148 → k ≠ 149 → I4 k = I k := fun k h1 h2 h3 h4 h5 h6 h7 => by rw [k4 k h6 h7, kk k h1 h2 h3 h4 h5]
    refine h.text (hg.cg hE (lw.law hB hgB hmB)) r4 ((hC.cg w9 hE).of (fun j _ _ => k5 j (by omega) (by omega) (by omega) (by omega) (by omega) (by omega) (by omega)) (dd_un (by omega))) ?_ (Or.inl rfl) (fun k hk => k5 k (by omega) (by omega) (by omega) (by omega) (by omega) (by omega) (by omega)) ?_ ?_ ?_ ?_ ?_ ?_ ?_ b9 b14 (fun k h1 h2 => dd_un (by omega))
    · refine lw.rlw hgB hmB hcB ?_ ?_ (fun i hi => ?_)
      · rw [k4 25 (by omega) (by omega), k25]; exact x252
      · rw [k4 25 (by omega) (by omega), k25]; exact x251
      · rw [k4 26 (by omega) (by omega), k26]; exact x26 i hi
    · rw [k4 0 (by omega) (by omega), k0]; rfl
    · rw [k4 0 (by omega) (by omega), k0]; rfl
    · rw [k4 0 (by omega) (by omega), k0]; rfl
    · rw [k4 31 (by omega) (by omega), k31 1 (by decide)]
    · rw [k4 31 (by omega) (by omega), k312]; rfl
    · rw [f4.2 6 (by decide), kk 148 (by omega) (by omega) (by omega) (by omega) (by omega)]
    · exact b7
