/-! The cases of the law -/
theorem dd_Ev.im {d y : Nat} {as : List Value} {M : dd_M} {Q Q' : dd_O → Prop} (h : dd_Ev d y as M Q) (k : ∀ o, Q o → Q' o) : dd_Ev d y as M Q' := by
  obtain ⟨n, o, h1, h2⟩ := h
  exact ⟨n, o, h1, k o h2⟩
theorem dd_RI.im {Ln c s : Nat} {K K' : Int32 → (Nat → Nat → Int32) → (Nat → Nat → Int64) → Prop} (k : ∀ x I L, K x I L → K' x I L) : ∀ o, dd_RI Ln c s K o → dd_RI Ln c s K' o := fun o ⟨x, I, L, h1, h2⟩ => ⟨x, I, L, h1, k x I L h2⟩
theorem dd_RV.im {Ln c s : Nat} {K K' : (Nat → Nat → Int32) → (Nat → Nat → Int64) → Prop} (k : ∀ I L, K I L → K' I L) : ∀ o, dd_RV Ln c s K o → dd_RV Ln c s K' o := fun o ⟨I, L, h1, h2⟩ => ⟨I, L, h1, k I L h2⟩
theorem dd_RJ.im {Ln c s : Nat} {K K' : Int32 → (Nat → Nat → Int32) → (Nat → Nat → Int64) → Nat → Nat → Prop} (k : ∀ x I L c1 s1, K x I L c1 s1 → K' x I L c1 s1) : ∀ o, dd_RJ Ln c s K o → dd_RJ Ln c s K' o := fun o ⟨x, I, L, h⟩ => ⟨x, I, L, h.elim (fun q => Or.inl ⟨q.1, k _ _ _ _ _ q.2⟩) (fun q => Or.inr ⟨q.1, k _ _ _ _ _ q.2⟩)⟩
theorem lgc (v : Int64) : lg_cmp v v = 0 := by
  unfold lg_cmp
  rw [if_neg (fun z => by rw [gt_iff_lt, Int64.lt_iff_toInt_lt] at z; omega), if_pos rfl]
/-- the comparison behind a call with a wrapper -/
theorem fin_w {t x1 x2 : Int32} {v : Int64} {P N : Prop} (t1 : t = x1) (o1 : x1 = 0 → v = x2.toInt64) (hp : P) : ((t = x1 → ((x1 = 0 → ((lg_cmp v x2.toInt64 = 0 → P) ∧ (¬ lg_cmp v x2.toInt64 = 0 → N))) ∧ (¬ x1 = 0 → P))) ∧ (¬ t = x1 → N)) := ⟨fun _ => ⟨fun q => ⟨fun _ => hp, fun z => absurd (by rw [o1 q]; exact lgc _) z⟩, fun _ => hp⟩, fun z => absurd t1 z⟩
theorem fin_i {x1 x2 : Int32} {P N : Prop} (e : x1 = x2) (hp : P) : (x1 = x2 → P) ∧ (¬ x1 = x2 → N) := ⟨fun _ => hp, fun z => absurd e z⟩
theorem PW.use {d mC : Nat} {aC : List Value} {mM : Nat} {aM : List Value} {I0 : Nat → Nat → Int32} {Ln c s : Nat} {I : Nat → Nat → Int32} {L : Nat → Nat → Int64} {K : Int32 → (Nat → Nat → Int32) → (Nat → Nat → Int64) → Nat → Nat → Prop} (h : PW d mC aC mM aM I0 Ln c s I L) (k : ∀ x1 I1 L1 c1 s1, ivS I0 I1 → dd_Ev d mM aM (sM Ln I1 L1 c1 s1) (dd_RI Ln c1 s1 (fun x2 I2 L2 => cs1 c s c1 s1 ∧ I2 148 0 = x1 ∧ (x1 = 0 → L2 163 0 = x2.toInt64) ∧ INVx I0 I2 L2)) → K x1 I1 L1 c1 s1) : dd_Ev d mC aC (sM Ln I L c s) (dd_RJ Ln c s K) :=
  (h (fun x1 x2 I2 L2 c2 s2 => cs1 c s c2 s2 ∧ I2 148 0 = x1 ∧ (x1 = 0 → L2 163 0 = x2.toInt64) ∧ INVx I0 I2 L2) (fun _ _ _ _ _ _ a b e f => ⟨a, b, e, f⟩)).im (dd_RJ.im fun x1 I1 L1 c1 s1 q => k x1 I1 L1 c1 s1 q.1 q.2)
theorem PIw.use {d mC : Nat} {aC : List Value} {mM : Nat} {aM : List Value} {I0 : Nat → Nat → Int32} {Ln c s : Nat} {I : Nat → Nat → Int32} {L : Nat → Nat → Int64} {K : Int32 → (Nat → Nat → Int32) → (Nat → Nat → Int64) → Prop} (h : PIw d mC aC mM aM I0 Ln c s I L) (k : ∀ x1 I1 L1, ivS I0 I1 → dd_Ev d mM aM (sM Ln I1 L1 c s) (dd_RI Ln c s (fun x2 I2 L2 => x1 = x2 ∧ INVx I0 I2 L2)) → K x1 I1 L1) : dd_Ev d mC aC (sM Ln I L c s) (dd_RI Ln c s K) :=
  (h (fun x1 x2 I2 L2 => x1 = x2 ∧ INVx I0 I2 L2) (fun _ _ _ f => ⟨rfl, f⟩)).im (dd_RI.im fun x1 I1 L1 q => k x1 I1 L1 q.1 q.2)
theorem PVw.use {d mC : Nat} {aC : List Value} {mM : Nat} {aM : List Value} {I0 : Nat → Nat → Int32} {Ln c s : Nat} {I : Nat → Nat → Int32} {L : Nat → Nat → Int64} {K : (Nat → Nat → Int32) → (Nat → Nat → Int64) → Prop} (h : PVw d mC aC mM aM I0 Ln c s I L) (k : ∀ I1 L1, ivS I0 I1 → dd_Ev d mM aM (sM Ln I1 L1 c s) (dd_RV Ln c s (fun I2 L2 => INVx I0 I2 L2)) → K I1 L1) : dd_Ev d mC aC (sM Ln I L c s) (dd_RV Ln c s K) :=
  (h (fun I2 L2 => INVx I0 I2 L2) (fun _ _ f => f)).im (dd_RV.im fun I1 L1 q => k I1 L1 q.1 q.2)
/-- the law's own frame at a place -/
abbrev LF (pc p : Nat) (a5 a6 : Value) (M : dd_M) : dd_C := (pc, [.ref 3000000, .ref 0, .ref 148, .ref 163, .int (nI p), a5, a6], [], M)
abbrev KL (d Ln c s p : Nat) (I0 : Nat → Nat → Int32) (Q : dd_O → Prop) : Prop := ∀ I2 L2 c2 s2 a5 a6, cs1 c s c2 s2 → INVx I0 I2 L2 → dd_Rn d m_L_law_ (LF 3009 p a5 a6 (sM Ln I2 L2 c2 s2)) Q
theorem lck {p Ln j : Nat} (h : p + 6 ≤ Ln) (hL : Ln ≤ 3072) (hj : j < 6) : (0 ≤ nI (p + j) ∧ tn (nI (p + j)) < Ln) := by
  have : tn (nI (p + j)) = p + j := nI_clamp (by omega)
  rw [this]
  exact ⟨nI_pos' (by omega), by omega⟩

theorem ad1 (p : Nat) : nI p + 1 = nI (p + 1) := by rw [li_1, nI_add]
theorem ad2 (p : Nat) : nI p + 2 = nI (p + 2) := by rw [li_2, nI_add]
theorem ad3 (p : Nat) : nI p + 3 = nI (p + 3) := by rw [li_3, nI_add]
theorem ad4 (p : Nat) : nI p + 4 = nI (p + 4) := by rw [li_4, nI_add]
theorem ad5 (p : Nat) : nI p + 5 = nI (p + 5) := by rw [li_5, nI_add]
theorem LC_feed {d Ln c s p : Nat} {I0 I : Nat → Nat → Int32} {L : Nat → Nat → Int64} {Q : dd_O → Prop} {a5 a6 : Value} (hd : 61 ≤ d) (hp : p + 6 ≤ Ln) (hL : Ln ≤ 3072) (hI : INVx I0 I L) (kk : KL d Ln c s p I0 Q) : dd_Rn d m_L_law_ (LF 296 p a5 a6 (sM Ln I L c s)) Q := by
  obtain ⟨w, im, na, od, A, tp, tl, fa, h⟩ := hI
  have hS : I 3000000 = I0 3000000 := h.2.2.2.2.2.2.2.2 3000000 (by omega)
  refine w_L_law__296 (by omega) ?_
  simp only [ad1, ad2, ad3, ad4, ad5]
  rw [hS]
  refine ⟨lck hp hL (by omega), lck hp hL (by omega), lck hp hL (by omega), lck hp hL (by omega), lck hp hL (by omega), (A_feed (d := d - 1) (by omega) h _ _ _ _ _).use fun x1 I1 L1 v1 hm => ?_⟩
  rw [v1 3000000 (by omega)]
  refine ⟨lck hp hL (by omega), lck hp hL (by omega), lck hp hL (by omega), lck hp hL (by omega), lck hp hL (by omega), hm.im (dd_RI.im fun x2 I2 L2 q => ?_)⟩
  exact fin_i q.1 (kk I2 L2 c s _ _ (cs1r c s) q.2)

theorem LC_end {d Ln c s p : Nat} {I0 I : Nat → Nat → Int32} {L : Nat → Nat → Int64} {Q : dd_O → Prop} {a5 a6 : Value} (hd : 61 ≤ d) (hp : p + 6 ≤ Ln) (hL : Ln ≤ 3072) (hI : INVx I0 I L) (kk : KL d Ln c s p I0 Q) : dd_Rn d m_L_law_ (LF 369 p a5 a6 (sM Ln I L c s)) Q := by
  obtain ⟨w, im, na, od, A, tp, tl, fa, h⟩ := hI
  have hS : I 3000000 = I0 3000000 := h.2.2.2.2.2.2.2.2 3000000 (by omega)
  refine w_L_law__369 (by omega) ?_
  simp only [ad1, ad2, ad3, ad4, ad5]
  rw [hS]
  refine ⟨lck hp hL (by omega), (A_end (d := d - 1) (by omega) h _).use fun x1 I1 L1 v1 hm => ?_⟩
  rw [v1 3000000 (by omega)]
  refine ⟨lck hp hL (by omega), hm.im (dd_RI.im fun x2 I2 L2 q => ?_)⟩
  exact fin_i q.1 (kk I2 L2 c s _ _ (cs1r c s) q.2)

theorem LC_fault {d Ln c s p : Nat} {I0 I : Nat → Nat → Int32} {L : Nat → Nat → Int64} {Q : dd_O → Prop} {a5 a6 : Value} (hd : 61 ≤ d) (hp : p + 6 ≤ Ln) (hL : Ln ≤ 3072) (hI : INVx I0 I L) (kk : KL d Ln c s p I0 Q) : dd_Rn d m_L_law_ (LF 482 p a5 a6 (sM Ln I L c s)) Q := by
  obtain ⟨w, im, na, od, A, tp, tl, fa, h⟩ := hI
  have hS : I 3000000 = I0 3000000 := h.2.2.2.2.2.2.2.2 3000000 (by omega)
  refine w_L_law__482 (by omega) ?_
  refine (A_fault (d := d - 1) (by omega) h ).use fun x1 I1 L1 v1 hm => ?_
  refine hm.im (dd_RI.im fun x2 I2 L2 q => ?_)
  exact fin_i q.1 (kk I2 L2 c s _ _ (cs1r c s) q.2)

theorem LC_cell {d Ln c s p : Nat} {I0 I : Nat → Nat → Int32} {L : Nat → Nat → Int64} {Q : dd_O → Prop} {a5 a6 : Value} (hd : 61 ≤ d) (hp : p + 6 ≤ Ln) (hL : Ln ≤ 3072) (hI : INVx I0 I L) (kk : KL d Ln c s p I0 Q) : dd_Rn d m_L_law_ (LF 495 p a5 a6 (sM Ln I L c s)) Q := by
  obtain ⟨w, im, na, od, A, tp, tl, fa, h⟩ := hI
  have hS : I 3000000 = I0 3000000 := h.2.2.2.2.2.2.2.2 3000000 (by omega)
  refine w_L_law__495 (by omega) ?_
  simp only [ad1, ad2, ad3, ad4, ad5]
  rw [hS]
  refine ⟨lck hp hL (by omega), lck hp hL (by omega), (A_cell (d := d - 1) (by omega) h _ _).use fun x1 I1 L1 c1 s1 v1 hm => ?_⟩
  rw [v1 3000000 (by omega)]
  refine ⟨lck hp hL (by omega), lck hp hL (by omega), hm.im (dd_RI.im fun x2 I2 L2 q => ?_)⟩
  exact fin_w q.2.1 q.2.2.1 (w_L_law__560 (by omega) (kk I2 L2 c1 s1 _ _ q.1 q.2.2.2))

theorem LC_note {d Ln c s p : Nat} {I0 I : Nat → Nat → Int32} {L : Nat → Nat → Int64} {Q : dd_O → Prop} {a5 a6 : Value} (hd : 61 ≤ d) (hp : p + 6 ≤ Ln) (hL : Ln ≤ 3072) (hI : INVx I0 I L) (kk : KL d Ln c s p I0 Q) : dd_Rn d m_L_law_ (LF 563 p a5 a6 (sM Ln I L c s)) Q := by
  obtain ⟨w, im, na, od, A, tp, tl, fa, h⟩ := hI
  have hS : I 3000000 = I0 3000000 := h.2.2.2.2.2.2.2.2 3000000 (by omega)
  refine w_L_law__563 (by omega) ?_
  simp only [ad1, ad2, ad3, ad4, ad5]
  rw [hS]
  refine ⟨lck hp hL (by omega), lck hp hL (by omega), (A_note (d := d - 1) (by omega) h _ _).use fun x1 I1 L1 c1 s1 v1 hm => ?_⟩
  rw [v1 3000000 (by omega)]
  refine ⟨lck hp hL (by omega), lck hp hL (by omega), hm.im (dd_RI.im fun x2 I2 L2 q => ?_)⟩
  exact fin_w q.2.1 q.2.2.1 (w_L_law__628 (by omega) (kk I2 L2 c1 s1 _ _ q.1 q.2.2.2))

theorem LC_boy {d Ln c s p : Nat} {I0 I : Nat → Nat → Int32} {L : Nat → Nat → Int64} {Q : dd_O → Prop} {a5 a6 : Value} (hd : 61 ≤ d) (hp : p + 6 ≤ Ln) (hL : Ln ≤ 3072) (hI : INVx I0 I L) (kk : KL d Ln c s p I0 Q) : dd_Rn d m_L_law_ (LF 631 p a5 a6 (sM Ln I L c s)) Q := by
  obtain ⟨w, im, na, od, A, tp, tl, fa, h⟩ := hI
  have hS : I 3000000 = I0 3000000 := h.2.2.2.2.2.2.2.2 3000000 (by omega)
  refine w_L_law__631 (by omega) ?_
  simp only [ad1, ad2, ad3, ad4, ad5]
  rw [hS]
  refine ⟨lck hp hL (by omega), lck hp hL (by omega), (A_boy (d := d - 1) (by omega) h _ _).use fun x1 I1 L1 c1 s1 v1 hm => ?_⟩
  rw [v1 3000000 (by omega)]
  refine ⟨lck hp hL (by omega), lck hp hL (by omega), hm.im (dd_RI.im fun x2 I2 L2 q => ?_)⟩
  exact fin_w q.2.1 q.2.2.1 (w_L_law__696 (by omega) (kk I2 L2 c1 s1 _ _ q.1 q.2.2.2))

theorem LC_sing {d Ln c s p : Nat} {I0 I : Nat → Nat → Int32} {L : Nat → Nat → Int64} {Q : dd_O → Prop} {a5 a6 : Value} (hd : 61 ≤ d) (hp : p + 6 ≤ Ln) (hL : Ln ≤ 3072) (hI : INVx I0 I L) (kk : KL d Ln c s p I0 Q) : dd_Rn d m_L_law_ (LF 699 p a5 a6 (sM Ln I L c s)) Q := by
  obtain ⟨w, im, na, od, A, tp, tl, fa, h⟩ := hI
  have hS : I 3000000 = I0 3000000 := h.2.2.2.2.2.2.2.2 3000000 (by omega)
  refine w_L_law__699 (by omega) ?_
  simp only [ad1, ad2, ad3, ad4, ad5]
  rw [hS]
  refine ⟨lck hp hL (by omega), (A_sing (d := d - 1) (by omega) h _).use fun x1 I1 L1 c1 s1 v1 hm => ?_⟩
  rw [v1 3000000 (by omega)]
  refine ⟨lck hp hL (by omega), hm.im (dd_RI.im fun x2 I2 L2 q => ?_)⟩
  exact fin_w q.2.1 q.2.2.1 (w_L_law__752 (by omega) (kk I2 L2 c1 s1 _ _ q.1 q.2.2.2))

theorem LC_fire {d Ln c s p : Nat} {I0 I : Nat → Nat → Int32} {L : Nat → Nat → Int64} {Q : dd_O → Prop} {a5 a6 : Value} (hd : 61 ≤ d) (hp : p + 6 ≤ Ln) (hL : Ln ≤ 3072) (hI : INVx I0 I L) (kk : KL d Ln c s p I0 Q) : dd_Rn d m_L_law_ (LF 755 p a5 a6 (sM Ln I L c s)) Q := by
  obtain ⟨w, im, na, od, A, tp, tl, fa, h⟩ := hI
  have hS : I 3000000 = I0 3000000 := h.2.2.2.2.2.2.2.2 3000000 (by omega)
  refine w_L_law__755 (by omega) ?_
  simp only [ad1, ad2, ad3, ad4, ad5]
  rw [hS]
  refine ⟨lck hp hL (by omega), (A_fire (d := d - 1) (by omega) h _).use fun x1 I1 L1 c1 s1 v1 hm => ?_⟩
  rw [v1 3000000 (by omega)]
  refine ⟨lck hp hL (by omega), hm.im (dd_RI.im fun x2 I2 L2 q => ?_)⟩
  exact fin_w q.2.1 q.2.2.1 (w_L_law__808 (by omega) (kk I2 L2 c1 s1 _ _ q.1 q.2.2.2))

theorem LC_part {d Ln c s p : Nat} {I0 I : Nat → Nat → Int32} {L : Nat → Nat → Int64} {Q : dd_O → Prop} {a5 a6 : Value} (hd : 61 ≤ d) (hp : p + 6 ≤ Ln) (hL : Ln ≤ 3072) (hI : INVx I0 I L) (kk : KL d Ln c s p I0 Q) : dd_Rn d m_L_law_ (LF 902 p a5 a6 (sM Ln I L c s)) Q := by
  obtain ⟨w, im, na, od, A, tp, tl, fa, h⟩ := hI
  have hS : I 3000000 = I0 3000000 := h.2.2.2.2.2.2.2.2 3000000 (by omega)
  refine w_L_law__902 (by omega) ?_
  simp only [ad1, ad2, ad3, ad4, ad5]
  rw [hS]
  refine ⟨lck hp hL (by omega), lck hp hL (by omega), (A_part (d := d - 1) (by omega) h _ _).use fun x1 I1 L1 c1 s1 v1 hm => ?_⟩
  rw [v1 3000000 (by omega)]
  refine ⟨lck hp hL (by omega), lck hp hL (by omega), hm.im (dd_RI.im fun x2 I2 L2 q => ?_)⟩
  exact fin_w q.2.1 q.2.2.1 (w_L_law__967 (by omega) (kk I2 L2 c1 s1 _ _ q.1 q.2.2.2))

theorem LC_tune {d Ln c s p : Nat} {I0 I : Nat → Nat → Int32} {L : Nat → Nat → Int64} {Q : dd_O → Prop} {a5 a6 : Value} (hd : 61 ≤ d) (hp : p + 6 ≤ Ln) (hL : Ln ≤ 3072) (hI : INVx I0 I L) (kk : KL d Ln c s p I0 Q) : dd_Rn d m_L_law_ (LF 970 p a5 a6 (sM Ln I L c s)) Q := by
  obtain ⟨w, im, na, od, A, tp, tl, fa, h⟩ := hI
  have hS : I 3000000 = I0 3000000 := h.2.2.2.2.2.2.2.2 3000000 (by omega)
  refine w_L_law__970 (by omega) ?_
  simp only [ad1, ad2, ad3, ad4, ad5]
  rw [hS]
  refine ⟨lck hp hL (by omega), lck hp hL (by omega), lck hp hL (by omega), (A_tune (d := d - 1) (by omega) h _ _ _).use fun x1 I1 L1 c1 s1 v1 hm => ?_⟩
  rw [v1 3000000 (by omega)]
  refine ⟨lck hp hL (by omega), lck hp hL (by omega), lck hp hL (by omega), hm.im (dd_RI.im fun x2 I2 L2 q => ?_)⟩
  exact fin_w q.2.1 q.2.2.1 (w_L_law__1047 (by omega) (kk I2 L2 c1 s1 _ _ q.1 q.2.2.2))

theorem LC_call {d Ln c s p : Nat} {I0 I : Nat → Nat → Int32} {L : Nat → Nat → Int64} {Q : dd_O → Prop} {a5 a6 : Value} (hd : 61 ≤ d) (hp : p + 6 ≤ Ln) (hL : Ln ≤ 3072) (hI : INVx I0 I L) (kk : KL d Ln c s p I0 Q) : dd_Rn d m_L_law_ (LF 1050 p a5 a6 (sM Ln I L c s)) Q := by
  obtain ⟨w, im, na, od, A, tp, tl, fa, h⟩ := hI
  have hS : I 3000000 = I0 3000000 := h.2.2.2.2.2.2.2.2 3000000 (by omega)
  refine w_L_law__1050 (by omega) ?_
  simp only [ad1, ad2, ad3, ad4, ad5]
  rw [hS]
  refine ⟨lck hp hL (by omega), (A_call (d := d - 1) (by omega) h _).use fun x1 I1 L1 c1 s1 v1 hm => ?_⟩
  rw [v1 3000000 (by omega)]
  refine ⟨lck hp hL (by omega), hm.im (dd_RI.im fun x2 I2 L2 q => ?_)⟩
  exact fin_w q.2.1 q.2.2.1 (w_L_law__1103 (by omega) (kk I2 L2 c1 s1 _ _ q.1 q.2.2.2))

theorem LC_send {d Ln c s p : Nat} {I0 I : Nat → Nat → Int32} {L : Nat → Nat → Int64} {Q : dd_O → Prop} {a5 a6 : Value} (hd : 61 ≤ d) (hp : p + 6 ≤ Ln) (hL : Ln ≤ 3072) (hI : INVx I0 I L) (kk : KL d Ln c s p I0 Q) : dd_Rn d m_L_law_ (LF 1106 p a5 a6 (sM Ln I L c s)) Q := by
  obtain ⟨w, im, na, od, A, tp, tl, fa, h⟩ := hI
  have hS : I 3000000 = I0 3000000 := h.2.2.2.2.2.2.2.2 3000000 (by omega)
  refine w_L_law__1106 (by omega) ?_
  simp only [ad1, ad2, ad3, ad4, ad5]
  rw [hS]
  refine ⟨lck hp hL (by omega), lck hp hL (by omega), (A_send (d := d - 1) (by omega) h _ _).use fun x1 I1 L1 c1 s1 v1 hm => ?_⟩
  rw [v1 3000000 (by omega)]
  refine ⟨lck hp hL (by omega), lck hp hL (by omega), hm.im (dd_RI.im fun x2 I2 L2 q => ?_)⟩
  exact fin_w q.2.1 q.2.2.1 (w_L_law__1171 (by omega) (kk I2 L2 c1 s1 _ _ q.1 q.2.2.2))

theorem LC_loud {d Ln c s p : Nat} {I0 I : Nat → Nat → Int32} {L : Nat → Nat → Int64} {Q : dd_O → Prop} {a5 a6 : Value} (hd : 61 ≤ d) (hp : p + 6 ≤ Ln) (hL : Ln ≤ 3072) (hI : INVx I0 I L) (kk : KL d Ln c s p I0 Q) : dd_Rn d m_L_law_ (LF 1174 p a5 a6 (sM Ln I L c s)) Q := by
  obtain ⟨w, im, na, od, A, tp, tl, fa, h⟩ := hI
  have hS : I 3000000 = I0 3000000 := h.2.2.2.2.2.2.2.2 3000000 (by omega)
  refine w_L_law__1174 (by omega) ?_
  simp only [ad1, ad2, ad3, ad4, ad5]
  rw [hS]
  refine ⟨lck hp hL (by omega), (A_loud (d := d - 1) (by omega) h _).use fun x1 I1 L1 c1 s1 v1 hm => ?_⟩
  rw [v1 3000000 (by omega)]
  refine ⟨lck hp hL (by omega), hm.im (dd_RI.im fun x2 I2 L2 q => ?_)⟩
  exact fin_w q.2.1 q.2.2.1 (w_L_law__1227 (by omega) (kk I2 L2 c1 s1 _ _ q.1 q.2.2.2))

theorem LC_path {d Ln c s p : Nat} {I0 I : Nat → Nat → Int32} {L : Nat → Nat → Int64} {Q : dd_O → Prop} {a5 a6 : Value} (hd : 61 ≤ d) (hp : p + 6 ≤ Ln) (hL : Ln ≤ 3072) (hI : INVx I0 I L) (kk : KL d Ln c s p I0 Q) : dd_Rn d m_L_law_ (LF 1230 p a5 a6 (sM Ln I L c s)) Q := by
  obtain ⟨w, im, na, od, A, tp, tl, fa, h⟩ := hI
  have hS : I 3000000 = I0 3000000 := h.2.2.2.2.2.2.2.2 3000000 (by omega)
  refine w_L_law__1230 (by omega) ?_
  simp only [ad1, ad2, ad3, ad4, ad5]
  rw [hS]
  refine ⟨lck hp hL (by omega), lck hp hL (by omega), (A_path (d := d - 1) (by omega) h _ _).use fun x1 I1 L1 c1 s1 v1 hm => ?_⟩
  rw [v1 3000000 (by omega)]
  refine ⟨lck hp hL (by omega), lck hp hL (by omega), hm.im (dd_RI.im fun x2 I2 L2 q => ?_)⟩
  exact fin_w q.2.1 q.2.2.1 (w_L_law__1295 (by omega) (kk I2 L2 c1 s1 _ _ q.1 q.2.2.2))

theorem LC_soon {d Ln c s p : Nat} {I0 I : Nat → Nat → Int32} {L : Nat → Nat → Int64} {Q : dd_O → Prop} {a5 a6 : Value} (hd : 61 ≤ d) (hp : p + 6 ≤ Ln) (hL : Ln ≤ 3072) (hI : INVx I0 I L) (kk : KL d Ln c s p I0 Q) : dd_Rn d m_L_law_ (LF 1298 p a5 a6 (sM Ln I L c s)) Q := by
  obtain ⟨w, im, na, od, A, tp, tl, fa, h⟩ := hI
  have hS : I 3000000 = I0 3000000 := h.2.2.2.2.2.2.2.2 3000000 (by omega)
  refine w_L_law__1298 (by omega) ?_
  simp only [ad1, ad2, ad3, ad4, ad5]
  rw [hS]
  refine ⟨lck hp hL (by omega), (A_soon (d := d - 1) (by omega) h _).use fun x1 I1 L1 c1 s1 v1 hm => ?_⟩
  rw [v1 3000000 (by omega)]
  refine ⟨lck hp hL (by omega), hm.im (dd_RI.im fun x2 I2 L2 q => ?_)⟩
  exact fin_w q.2.1 q.2.2.1 (w_L_law__1351 (by omega) (kk I2 L2 c1 s1 _ _ q.1 q.2.2.2))

theorem LC_by {d Ln c s p : Nat} {I0 I : Nat → Nat → Int32} {L : Nat → Nat → Int64} {Q : dd_O → Prop} {a5 a6 : Value} (hd : 61 ≤ d) (hp : p + 6 ≤ Ln) (hL : Ln ≤ 3072) (hI : INVx I0 I L) (kk : KL d Ln c s p I0 Q) : dd_Rn d m_L_law_ (LF 1354 p a5 a6 (sM Ln I L c s)) Q := by
  obtain ⟨w, im, na, od, A, tp, tl, fa, h⟩ := hI
  have hS : I 3000000 = I0 3000000 := h.2.2.2.2.2.2.2.2 3000000 (by omega)
  refine w_L_law__1354 (by omega) ?_
  simp only [ad1, ad2, ad3, ad4, ad5]
  rw [hS]
  refine ⟨lck hp hL (by omega), lck hp hL (by omega), (A_by (d := d - 1) (by omega) h _ _).use fun x1 I1 L1 c1 s1 v1 hm => ?_⟩
  rw [v1 3000000 (by omega)]
  refine ⟨lck hp hL (by omega), lck hp hL (by omega), hm.im (dd_RI.im fun x2 I2 L2 q => ?_)⟩
  exact fin_w q.2.1 q.2.2.1 (w_L_law__1419 (by omega) (kk I2 L2 c1 s1 _ _ q.1 q.2.2.2))

theorem LC_best {d Ln c s p : Nat} {I0 I : Nat → Nat → Int32} {L : Nat → Nat → Int64} {Q : dd_O → Prop} {a5 a6 : Value} (hd : 61 ≤ d) (hp : p + 6 ≤ Ln) (hL : Ln ≤ 3072) (hI : INVx I0 I L) (kk : KL d Ln c s p I0 Q) : dd_Rn d m_L_law_ (LF 1422 p a5 a6 (sM Ln I L c s)) Q := by
  obtain ⟨w, im, na, od, A, tp, tl, fa, h⟩ := hI
  have hS : I 3000000 = I0 3000000 := h.2.2.2.2.2.2.2.2 3000000 (by omega)
  refine w_L_law__1422 (by omega) ?_
  simp only [ad1, ad2, ad3, ad4, ad5]
  rw [hS]
  refine ⟨lck hp hL (by omega), (A_best (d := d - 1) (by omega) h _).use fun x1 I1 L1 c1 s1 v1 hm => ?_⟩
  rw [v1 3000000 (by omega)]
  refine ⟨lck hp hL (by omega), hm.im (dd_RI.im fun x2 I2 L2 q => ?_)⟩
  exact fin_w q.2.1 q.2.2.1 (w_L_law__1475 (by omega) (kk I2 L2 c1 s1 _ _ q.1 q.2.2.2))

theorem LC_all {d Ln c s p : Nat} {I0 I : Nat → Nat → Int32} {L : Nat → Nat → Int64} {Q : dd_O → Prop} {a5 a6 : Value} (hd : 61 ≤ d) (hp : p + 6 ≤ Ln) (hL : Ln ≤ 3072) (hI : INVx I0 I L) (kk : KL d Ln c s p I0 Q) : dd_Rn d m_L_law_ (LF 1478 p a5 a6 (sM Ln I L c s)) Q := by
  obtain ⟨w, im, na, od, A, tp, tl, fa, h⟩ := hI
  have hS : I 3000000 = I0 3000000 := h.2.2.2.2.2.2.2.2 3000000 (by omega)
  refine w_L_law__1478 (by omega) ?_
  refine (A_all (d := d - 1) (by omega) h ).use fun x1 I1 L1 v1 hm => ?_
  refine hm.im (dd_RI.im fun x2 I2 L2 q => ?_)
  exact fin_i q.1 (kk I2 L2 c s _ _ (cs1r c s) q.2)

theorem LC_should {d Ln c s p : Nat} {I0 I : Nat → Nat → Int32} {L : Nat → Nat → Int64} {Q : dd_O → Prop} {a5 a6 : Value} (hd : 61 ≤ d) (hp : p + 6 ≤ Ln) (hL : Ln ≤ 3072) (hI : INVx I0 I L) (kk : KL d Ln c s p I0 Q) : dd_Rn d m_L_law_ (LF 1491 p a5 a6 (sM Ln I L c s)) Q := by
  obtain ⟨w, im, na, od, A, tp, tl, fa, h⟩ := hI
  have hS : I 3000000 = I0 3000000 := h.2.2.2.2.2.2.2.2 3000000 (by omega)
  refine w_L_law__1491 (by omega) ?_
  refine (A_should (d := d - 1) (by omega) h ).use fun x1 I1 L1 v1 hm => ?_
  refine hm.im (dd_RI.im fun x2 I2 L2 q => ?_)
  exact fin_i q.1 (kk I2 L2 c s _ _ (cs1r c s) q.2)

theorem LC_calls {d Ln c s p : Nat} {I0 I : Nat → Nat → Int32} {L : Nat → Nat → Int64} {Q : dd_O → Prop} {a5 a6 : Value} (hd : 61 ≤ d) (hp : p + 6 ≤ Ln) (hL : Ln ≤ 3072) (hI : INVx I0 I L) (kk : KL d Ln c s p I0 Q) : dd_Rn d m_L_law_ (LF 1504 p a5 a6 (sM Ln I L c s)) Q := by
  obtain ⟨w, im, na, od, A, tp, tl, fa, h⟩ := hI
  have hS : I 3000000 = I0 3000000 := h.2.2.2.2.2.2.2.2 3000000 (by omega)
  refine w_L_law__1504 (by omega) ?_
  simp only [ad1, ad2, ad3, ad4, ad5]
  rw [hS]
  refine ⟨lck hp hL (by omega), (A_calls (d := d - 1) (by omega) h _).use fun x1 I1 L1 c1 s1 v1 hm => ?_⟩
  rw [v1 3000000 (by omega)]
  refine ⟨lck hp hL (by omega), hm.im (dd_RI.im fun x2 I2 L2 q => ?_)⟩
  exact fin_w q.2.1 q.2.2.1 (w_L_law__1557 (by omega) (kk I2 L2 c1 s1 _ _ q.1 q.2.2.2))

theorem LC_first {d Ln c s p : Nat} {I0 I : Nat → Nat → Int32} {L : Nat → Nat → Int64} {Q : dd_O → Prop} {a5 a6 : Value} (hd : 61 ≤ d) (hp : p + 6 ≤ Ln) (hL : Ln ≤ 3072) (hI : INVx I0 I L) (kk : KL d Ln c s p I0 Q) : dd_Rn d m_L_law_ (LF 1560 p a5 a6 (sM Ln I L c s)) Q := by
  obtain ⟨w, im, na, od, A, tp, tl, fa, h⟩ := hI
  have hS : I 3000000 = I0 3000000 := h.2.2.2.2.2.2.2.2 3000000 (by omega)
  refine w_L_law__1560 (by omega) ?_
  simp only [ad1, ad2, ad3, ad4, ad5]
  rw [hS]
  refine ⟨lck hp hL (by omega), (A_first (d := d - 1) (by omega) h _).use fun x1 I1 L1 c1 s1 v1 hm => ?_⟩
  rw [v1 3000000 (by omega)]
  refine ⟨lck hp hL (by omega), hm.im (dd_RI.im fun x2 I2 L2 q => ?_)⟩
  exact fin_w q.2.1 q.2.2.1 (w_L_law__1613 (by omega) (kk I2 L2 c1 s1 _ _ q.1 q.2.2.2))

theorem LC_can {d Ln c s p : Nat} {I0 I : Nat → Nat → Int32} {L : Nat → Nat → Int64} {Q : dd_O → Prop} {a5 a6 : Value} (hd : 61 ≤ d) (hp : p + 6 ≤ Ln) (hL : Ln ≤ 3072) (hI : INVx I0 I L) (kk : KL d Ln c s p I0 Q) : dd_Rn d m_L_law_ (LF 1616 p a5 a6 (sM Ln I L c s)) Q := by
  obtain ⟨w, im, na, od, A, tp, tl, fa, h⟩ := hI
  have hS : I 3000000 = I0 3000000 := h.2.2.2.2.2.2.2.2 3000000 (by omega)
  refine w_L_law__1616 (by omega) ?_
  simp only [ad1, ad2, ad3, ad4, ad5]
  rw [hS]
  refine ⟨lck hp hL (by omega), lck hp hL (by omega), (A_can (d := d - 1) (by omega) h _ _).use fun x1 I1 L1 c1 s1 v1 hm => ?_⟩
  rw [v1 3000000 (by omega)]
  refine ⟨lck hp hL (by omega), lck hp hL (by omega), hm.im (dd_RI.im fun x2 I2 L2 q => ?_)⟩
  exact fin_w q.2.1 q.2.2.1 (w_L_law__1681 (by omega) (kk I2 L2 c1 s1 _ _ q.1 q.2.2.2))

theorem LC_lost {d Ln c s p : Nat} {I0 I : Nat → Nat → Int32} {L : Nat → Nat → Int64} {Q : dd_O → Prop} {a5 a6 : Value} (hd : 61 ≤ d) (hp : p + 6 ≤ Ln) (hL : Ln ≤ 3072) (hI : INVx I0 I L) (kk : KL d Ln c s p I0 Q) : dd_Rn d m_L_law_ (LF 1684 p a5 a6 (sM Ln I L c s)) Q := by
  obtain ⟨w, im, na, od, A, tp, tl, fa, h⟩ := hI
  have hS : I 3000000 = I0 3000000 := h.2.2.2.2.2.2.2.2 3000000 (by omega)
  refine w_L_law__1684 (by omega) ?_
  simp only [ad1, ad2, ad3, ad4, ad5]
  rw [hS]
  refine ⟨lck hp hL (by omega), lck hp hL (by omega), (A_lost (d := d - 1) (by omega) h _ _).use fun x1 I1 L1 c1 s1 v1 hm => ?_⟩
  rw [v1 3000000 (by omega)]
  refine ⟨lck hp hL (by omega), lck hp hL (by omega), hm.im (dd_RI.im fun x2 I2 L2 q => ?_)⟩
  exact fin_w q.2.1 q.2.2.1 (w_L_law__1749 (by omega) (kk I2 L2 c1 s1 _ _ q.1 q.2.2.2))

theorem LC_listen {d Ln c s p : Nat} {I0 I : Nat → Nat → Int32} {L : Nat → Nat → Int64} {Q : dd_O → Prop} {a5 a6 : Value} (hd : 61 ≤ d) (hp : p + 6 ≤ Ln) (hL : Ln ≤ 3072) (hI : INVx I0 I L) (kk : KL d Ln c s p I0 Q) : dd_Rn d m_L_law_ (LF 1824 p a5 a6 (sM Ln I L c s)) Q := by
  obtain ⟨w, im, na, od, A, tp, tl, fa, h⟩ := hI
  have hS : I 3000000 = I0 3000000 := h.2.2.2.2.2.2.2.2 3000000 (by omega)
  refine w_L_law__1824 (by omega) ?_
  refine (A_listen (d := d - 1) (by omega) h ).use fun x1 I1 L1 c1 s1 v1 hm => ?_
  refine hm.im (dd_RI.im fun x2 I2 L2 q => ?_)
  exact fin_w q.2.1 q.2.2.1 (w_L_law__1865 (by omega) (kk I2 L2 c1 s1 _ _ q.1 q.2.2.2))

theorem LC_ears {d Ln c s p : Nat} {I0 I : Nat → Nat → Int32} {L : Nat → Nat → Int64} {Q : dd_O → Prop} {a5 a6 : Value} (hd : 61 ≤ d) (hp : p + 6 ≤ Ln) (hL : Ln ≤ 3072) (hI : INVx I0 I L) (kk : KL d Ln c s p I0 Q) : dd_Rn d m_L_law_ (LF 1868 p a5 a6 (sM Ln I L c s)) Q := by
  obtain ⟨w, im, na, od, A, tp, tl, fa, h⟩ := hI
  have hS : I 3000000 = I0 3000000 := h.2.2.2.2.2.2.2.2 3000000 (by omega)
  refine w_L_law__1868 (by omega) ?_
  simp only [ad1, ad2, ad3, ad4, ad5]
  rw [hS]
  refine ⟨lck hp hL (by omega), (A_ears (d := d - 1) (by omega) h _).use fun x1 I1 L1 c1 s1 v1 hm => ?_⟩
  rw [v1 3000000 (by omega)]
  refine ⟨lck hp hL (by omega), hm.im (dd_RI.im fun x2 I2 L2 q => ?_)⟩
  exact fin_w q.2.1 q.2.2.1 (w_L_law__1921 (by omega) (kk I2 L2 c1 s1 _ _ q.1 q.2.2.2))

theorem LC_code {d Ln c s p : Nat} {I0 I : Nat → Nat → Int32} {L : Nat → Nat → Int64} {Q : dd_O → Prop} {a5 a6 : Value} (hd : 61 ≤ d) (hp : p + 6 ≤ Ln) (hL : Ln ≤ 3072) (hI : INVx I0 I L) (kk : KL d Ln c s p I0 Q) : dd_Rn d m_L_law_ (LF 1924 p a5 a6 (sM Ln I L c s)) Q := by
  obtain ⟨w, im, na, od, A, tp, tl, fa, h⟩ := hI
  have hS : I 3000000 = I0 3000000 := h.2.2.2.2.2.2.2.2 3000000 (by omega)
  refine w_L_law__1924 (by omega) ?_
  refine (A_code (d := d - 1) (by omega) h ).use fun x1 I1 L1 v1 hm => ?_
  refine hm.im (dd_RI.im fun x2 I2 L2 q => ?_)
  exact fin_i q.1 (kk I2 L2 c s _ _ (cs1r c s) q.2)

theorem LC_shifted {d Ln c s p : Nat} {I0 I : Nat → Nat → Int32} {L : Nat → Nat → Int64} {Q : dd_O → Prop} {a5 a6 : Value} (hd : 61 ≤ d) (hp : p + 6 ≤ Ln) (hL : Ln ≤ 3072) (hI : INVx I0 I L) (kk : KL d Ln c s p I0 Q) : dd_Rn d m_L_law_ (LF 1937 p a5 a6 (sM Ln I L c s)) Q := by
  obtain ⟨w, im, na, od, A, tp, tl, fa, h⟩ := hI
  have hS : I 3000000 = I0 3000000 := h.2.2.2.2.2.2.2.2 3000000 (by omega)
  refine w_L_law__1937 (by omega) ?_
  simp only [ad1, ad2, ad3, ad4, ad5]
  rw [hS]
  refine ⟨lck hp hL (by omega), lck hp hL (by omega), (A_shifted (d := d - 1) (by omega) h _ _).use fun x1 I1 L1 c1 s1 v1 hm => ?_⟩
  rw [v1 3000000 (by omega)]
  refine ⟨lck hp hL (by omega), lck hp hL (by omega), hm.im (dd_RI.im fun x2 I2 L2 q => ?_)⟩
  exact fin_w q.2.1 q.2.2.1 (w_L_law__2002 (by omega) (kk I2 L2 c1 s1 _ _ q.1 q.2.2.2))

theorem LC_silence {d Ln c s p : Nat} {I0 I : Nat → Nat → Int32} {L : Nat → Nat → Int64} {Q : dd_O → Prop} {a5 a6 : Value} (hd : 61 ≤ d) (hp : p + 6 ≤ Ln) (hL : Ln ≤ 3072) (hI : INVx I0 I L) (kk : KL d Ln c s p I0 Q) : dd_Rn d m_L_law_ (LF 2005 p a5 a6 (sM Ln I L c s)) Q := by
  obtain ⟨w, im, na, od, A, tp, tl, fa, h⟩ := hI
  have hS : I 3000000 = I0 3000000 := h.2.2.2.2.2.2.2.2 3000000 (by omega)
  refine w_L_law__2005 (by omega) ?_
  simp only [ad1, ad2, ad3, ad4, ad5]
  rw [hS]
  refine ⟨lck hp hL (by omega), (A_silence (d := d - 1) (by omega) h _).use fun x1 I1 L1 c1 s1 v1 hm => ?_⟩
  rw [v1 3000000 (by omega)]
  refine ⟨lck hp hL (by omega), hm.im (dd_RI.im fun x2 I2 L2 q => ?_)⟩
  exact fin_w q.2.1 q.2.2.1 (w_L_law__2058 (by omega) (kk I2 L2 c1 s1 _ _ q.1 q.2.2.2))

theorem LC_hush {d Ln c s p : Nat} {I0 I : Nat → Nat → Int32} {L : Nat → Nat → Int64} {Q : dd_O → Prop} {a5 a6 : Value} (hd : 61 ≤ d) (hp : p + 6 ≤ Ln) (hL : Ln ≤ 3072) (hI : INVx I0 I L) (kk : KL d Ln c s p I0 Q) : dd_Rn d m_L_law_ (LF 2061 p a5 a6 (sM Ln I L c s)) Q := by
  obtain ⟨w, im, na, od, A, tp, tl, fa, h⟩ := hI
  have hS : I 3000000 = I0 3000000 := h.2.2.2.2.2.2.2.2 3000000 (by omega)
  refine w_L_law__2061 (by omega) ?_
  simp only [ad1, ad2, ad3, ad4, ad5]
  rw [hS]
  refine ⟨lck hp hL (by omega), (A_hush (d := d - 1) (by omega) h _).use fun x1 I1 L1 c1 s1 v1 hm => ?_⟩
  rw [v1 3000000 (by omega)]
  refine ⟨lck hp hL (by omega), hm.im (dd_RI.im fun x2 I2 L2 q => ?_)⟩
  exact fin_w q.2.1 q.2.2.1 (w_L_law__2114 (by omega) (kk I2 L2 c1 s1 _ _ q.1 q.2.2.2))

theorem LC_quiet {d Ln c s p : Nat} {I0 I : Nat → Nat → Int32} {L : Nat → Nat → Int64} {Q : dd_O → Prop} {a5 a6 : Value} (hd : 61 ≤ d) (hp : p + 6 ≤ Ln) (hL : Ln ≤ 3072) (hI : INVx I0 I L) (kk : KL d Ln c s p I0 Q) : dd_Rn d m_L_law_ (LF 2117 p a5 a6 (sM Ln I L c s)) Q := by
  obtain ⟨w, im, na, od, A, tp, tl, fa, h⟩ := hI
  have hS : I 3000000 = I0 3000000 := h.2.2.2.2.2.2.2.2 3000000 (by omega)
  refine w_L_law__2117 (by omega) ?_
  refine (A_quiet (d := d - 1) (by omega) h ).use fun x1 I1 L1 v1 hm => ?_
  refine hm.im (dd_RI.im fun x2 I2 L2 q => ?_)
  exact fin_i q.1 (kk I2 L2 c s _ _ (cs1r c s) q.2)

theorem LC_mends {d Ln c s p : Nat} {I0 I : Nat → Nat → Int32} {L : Nat → Nat → Int64} {Q : dd_O → Prop} {a5 a6 : Value} (hd : 61 ≤ d) (hp : p + 6 ≤ Ln) (hL : Ln ≤ 3072) (hI : INVx I0 I L) (kk : KL d Ln c s p I0 Q) : dd_Rn d m_L_law_ (LF 2130 p a5 a6 (sM Ln I L c s)) Q := by
  obtain ⟨w, im, na, od, A, tp, tl, fa, h⟩ := hI
  have hS : I 3000000 = I0 3000000 := h.2.2.2.2.2.2.2.2 3000000 (by omega)
  refine w_L_law__2130 (by omega) ?_
  simp only [ad1, ad2, ad3, ad4, ad5]
  rw [hS]
  refine ⟨lck hp hL (by omega), (A_mends (d := d - 1) (by omega) h _).use fun x1 I1 L1 c1 s1 v1 hm => ?_⟩
  rw [v1 3000000 (by omega)]
  refine ⟨lck hp hL (by omega), hm.im (dd_RI.im fun x2 I2 L2 q => ?_)⟩
  exact fin_w q.2.1 q.2.2.1 (w_L_law__2183 (by omega) (kk I2 L2 c1 s1 _ _ q.1 q.2.2.2))

theorem LC_meet {d Ln c s p : Nat} {I0 I : Nat → Nat → Int32} {L : Nat → Nat → Int64} {Q : dd_O → Prop} {a5 a6 : Value} (hd : 61 ≤ d) (hp : p + 6 ≤ Ln) (hL : Ln ≤ 3072) (hI : INVx I0 I L) (kk : KL d Ln c s p I0 Q) : dd_Rn d m_L_law_ (LF 2186 p a5 a6 (sM Ln I L c s)) Q := by
  obtain ⟨w, im, na, od, A, tp, tl, fa, h⟩ := hI
  have hS : I 3000000 = I0 3000000 := h.2.2.2.2.2.2.2.2 3000000 (by omega)
  refine w_L_law__2186 (by omega) ?_
  simp only [ad1, ad2, ad3, ad4, ad5]
  rw [hS]
  refine ⟨lck hp hL (by omega), lck hp hL (by omega), (A_meet (d := d - 1) (by omega) h _ _).use fun x1 I1 L1 c1 s1 v1 hm => ?_⟩
  rw [v1 3000000 (by omega)]
  refine ⟨lck hp hL (by omega), lck hp hL (by omega), hm.im (dd_RI.im fun x2 I2 L2 q => ?_)⟩
  exact fin_w q.2.1 q.2.2.1 (w_L_law__2251 (by omega) (kk I2 L2 c1 s1 _ _ q.1 q.2.2.2))

theorem LC_sooner {d Ln c s p : Nat} {I0 I : Nat → Nat → Int32} {L : Nat → Nat → Int64} {Q : dd_O → Prop} {a5 a6 : Value} (hd : 61 ≤ d) (hp : p + 6 ≤ Ln) (hL : Ln ≤ 3072) (hI : INVx I0 I L) (kk : KL d Ln c s p I0 Q) : dd_Rn d m_L_law_ (LF 2254 p a5 a6 (sM Ln I L c s)) Q := by
  obtain ⟨w, im, na, od, A, tp, tl, fa, h⟩ := hI
  have hS : I 3000000 = I0 3000000 := h.2.2.2.2.2.2.2.2 3000000 (by omega)
  refine w_L_law__2254 (by omega) ?_
  refine (A_sooner (d := d - 1) (by omega) h ).use fun x1 I1 L1 v1 hm => ?_
  refine hm.im (dd_RI.im fun x2 I2 L2 q => ?_)
  exact fin_i q.1 (kk I2 L2 c s _ _ (cs1r c s) q.2)

theorem LC_loudest {d Ln c s p : Nat} {I0 I : Nat → Nat → Int32} {L : Nat → Nat → Int64} {Q : dd_O → Prop} {a5 a6 : Value} (hd : 61 ≤ d) (hp : p + 6 ≤ Ln) (hL : Ln ≤ 3072) (hI : INVx I0 I L) (kk : KL d Ln c s p I0 Q) : dd_Rn d m_L_law_ (LF 2267 p a5 a6 (sM Ln I L c s)) Q := by
  obtain ⟨w, im, na, od, A, tp, tl, fa, h⟩ := hI
  have hS : I 3000000 = I0 3000000 := h.2.2.2.2.2.2.2.2 3000000 (by omega)
  refine w_L_law__2267 (by omega) ?_
  refine (A_loudest (d := d - 1) (by omega) h ).use fun x1 I1 L1 v1 hm => ?_
  refine hm.im (dd_RI.im fun x2 I2 L2 q => ?_)
  exact fin_i q.1 (kk I2 L2 c s _ _ (cs1r c s) q.2)

theorem LC_watch {d Ln c s p : Nat} {I0 I : Nat → Nat → Int32} {L : Nat → Nat → Int64} {Q : dd_O → Prop} {a5 a6 : Value} (hd : 61 ≤ d) (hp : p + 6 ≤ Ln) (hL : Ln ≤ 3072) (hI : INVx I0 I L) (kk : KL d Ln c s p I0 Q) : dd_Rn d m_L_law_ (LF 2280 p a5 a6 (sM Ln I L c s)) Q := by
  obtain ⟨w, im, na, od, A, tp, tl, fa, h⟩ := hI
  have hS : I 3000000 = I0 3000000 := h.2.2.2.2.2.2.2.2 3000000 (by omega)
  refine w_L_law__2280 (by omega) ?_
  refine (A_watch (d := d - 1) (by omega) h ).use fun x1 I1 L1 v1 hm => ?_
  refine hm.im (dd_RI.im fun x2 I2 L2 q => ?_)
  exact fin_i q.1 (kk I2 L2 c s _ _ (cs1r c s) q.2)

theorem LC_clearings {d Ln c s p : Nat} {I0 I : Nat → Nat → Int32} {L : Nat → Nat → Int64} {Q : dd_O → Prop} {a5 a6 : Value} (hd : 61 ≤ d) (hp : p + 6 ≤ Ln) (hL : Ln ≤ 3072) (hI : INVx I0 I L) (kk : KL d Ln c s p I0 Q) : dd_Rn d m_L_law_ (LF 2293 p a5 a6 (sM Ln I L c s)) Q := by
  obtain ⟨w, im, na, od, A, tp, tl, fa, h⟩ := hI
  have hS : I 3000000 = I0 3000000 := h.2.2.2.2.2.2.2.2 3000000 (by omega)
  refine w_L_law__2293 (by omega) ?_
  refine (A_clearings (d := d - 1) (by omega) h ).use fun x1 I1 L1 v1 hm => ?_
  refine hm.im (dd_RI.im fun x2 I2 L2 q => ?_)
  exact fin_i q.1 (kk I2 L2 c s _ _ (cs1r c s) q.2)

theorem LC_splits {d Ln c s p : Nat} {I0 I : Nat → Nat → Int32} {L : Nat → Nat → Int64} {Q : dd_O → Prop} {a5 a6 : Value} (hd : 61 ≤ d) (hp : p + 6 ≤ Ln) (hL : Ln ≤ 3072) (hI : INVx I0 I L) (kk : KL d Ln c s p I0 Q) : dd_Rn d m_L_law_ (LF 2306 p a5 a6 (sM Ln I L c s)) Q := by
  obtain ⟨w, im, na, od, A, tp, tl, fa, h⟩ := hI
  have hS : I 3000000 = I0 3000000 := h.2.2.2.2.2.2.2.2 3000000 (by omega)
  refine w_L_law__2306 (by omega) ?_
  refine (A_splits (d := d - 1) (by omega) h ).use fun x1 I1 L1 v1 hm => ?_
  refine hm.im (dd_RI.im fun x2 I2 L2 q => ?_)
  exact fin_i q.1 (kk I2 L2 c s _ _ (cs1r c s) q.2)

theorem LC_rests {d Ln c s p : Nat} {I0 I : Nat → Nat → Int32} {L : Nat → Nat → Int64} {Q : dd_O → Prop} {a5 a6 : Value} (hd : 61 ≤ d) (hp : p + 6 ≤ Ln) (hL : Ln ≤ 3072) (hI : INVx I0 I L) (kk : KL d Ln c s p I0 Q) : dd_Rn d m_L_law_ (LF 2319 p a5 a6 (sM Ln I L c s)) Q := by
  obtain ⟨w, im, na, od, A, tp, tl, fa, h⟩ := hI
  have hS : I 3000000 = I0 3000000 := h.2.2.2.2.2.2.2.2 3000000 (by omega)
  refine w_L_law__2319 (by omega) ?_
  simp only [ad1, ad2, ad3, ad4, ad5]
  rw [hS]
  refine ⟨lck hp hL (by omega), (A_rests (d := d - 1) (by omega) h _).use fun x1 I1 L1 c1 s1 v1 hm => ?_⟩
  rw [v1 3000000 (by omega)]
  refine ⟨lck hp hL (by omega), hm.im (dd_RI.im fun x2 I2 L2 q => ?_)⟩
  exact fin_w q.2.1 q.2.2.1 (w_L_law__2372 (by omega) (kk I2 L2 c1 s1 _ _ q.1 q.2.2.2))

theorem LC_hearing {d Ln c s p : Nat} {I0 I : Nat → Nat → Int32} {L : Nat → Nat → Int64} {Q : dd_O → Prop} {a5 a6 : Value} (hd : 61 ≤ d) (hp : p + 6 ≤ Ln) (hL : Ln ≤ 3072) (hI : INVx I0 I L) (kk : KL d Ln c s p I0 Q) : dd_Rn d m_L_law_ (LF 2375 p a5 a6 (sM Ln I L c s)) Q := by
  obtain ⟨w, im, na, od, A, tp, tl, fa, h⟩ := hI
  have hS : I 3000000 = I0 3000000 := h.2.2.2.2.2.2.2.2 3000000 (by omega)
  refine w_L_law__2375 (by omega) ?_
  refine (A_hearing (d := d - 1) (by omega) h ).use fun x1 I1 L1 v1 hm => ?_
  refine hm.im (dd_RI.im fun x2 I2 L2 q => ?_)
  exact fin_i q.1 (kk I2 L2 c s _ _ (cs1r c s) q.2)

theorem LC_dense {d Ln c s p : Nat} {I0 I : Nat → Nat → Int32} {L : Nat → Nat → Int64} {Q : dd_O → Prop} {a5 a6 : Value} (hd : 61 ≤ d) (hp : p + 6 ≤ Ln) (hL : Ln ≤ 3072) (hI : INVx I0 I L) (kk : KL d Ln c s p I0 Q) : dd_Rn d m_L_law_ (LF 2388 p a5 a6 (sM Ln I L c s)) Q := by
  obtain ⟨w, im, na, od, A, tp, tl, fa, h⟩ := hI
  have hS : I 3000000 = I0 3000000 := h.2.2.2.2.2.2.2.2 3000000 (by omega)
  refine w_L_law__2388 (by omega) ?_
  refine (A_dense (d := d - 1) (by omega) h ).use fun x1 I1 L1 v1 hm => ?_
  refine hm.im (dd_RI.im fun x2 I2 L2 q => ?_)
  exact fin_i q.1 (kk I2 L2 c s _ _ (cs1r c s) q.2)

theorem LC_ferny {d Ln c s p : Nat} {I0 I : Nat → Nat → Int32} {L : Nat → Nat → Int64} {Q : dd_O → Prop} {a5 a6 : Value} (hd : 61 ≤ d) (hp : p + 6 ≤ Ln) (hL : Ln ≤ 3072) (hI : INVx I0 I L) (kk : KL d Ln c s p I0 Q) : dd_Rn d m_L_law_ (LF 2401 p a5 a6 (sM Ln I L c s)) Q := by
  obtain ⟨w, im, na, od, A, tp, tl, fa, h⟩ := hI
  have hS : I 3000000 = I0 3000000 := h.2.2.2.2.2.2.2.2 3000000 (by omega)
  refine w_L_law__2401 (by omega) ?_
  refine (A_ferny (d := d - 1) (by omega) h ).use fun x1 I1 L1 v1 hm => ?_
  refine hm.im (dd_RI.im fun x2 I2 L2 q => ?_)
  exact fin_i q.1 (kk I2 L2 c s _ _ (cs1r c s) q.2)

theorem LC_out {d Ln c s p : Nat} {I0 I : Nat → Nat → Int32} {L : Nat → Nat → Int64} {Q : dd_O → Prop} {a5 a6 : Value} (hd : 61 ≤ d) (hp : p + 6 ≤ Ln) (hL : Ln ≤ 3072) (hI : INVx I0 I L) (kk : KL d Ln c s p I0 Q) : dd_Rn d m_L_law_ (LF 2414 p a5 a6 (sM Ln I L c s)) Q := by
  obtain ⟨w, im, na, od, A, tp, tl, fa, h⟩ := hI
  have hS : I 3000000 = I0 3000000 := h.2.2.2.2.2.2.2.2 3000000 (by omega)
  refine w_L_law__2414 (by omega) ?_
  refine (A_out (d := d - 1) (by omega) h ).use fun x1 I1 L1 v1 hm => ?_
  refine hm.im (dd_RI.im fun x2 I2 L2 q => ?_)
  exact fin_i q.1 (kk I2 L2 c s _ _ (cs1r c s) q.2)

theorem LC_far {d Ln c s p : Nat} {I0 I : Nat → Nat → Int32} {L : Nat → Nat → Int64} {Q : dd_O → Prop} {a5 a6 : Value} (hd : 61 ≤ d) (hp : p + 6 ≤ Ln) (hL : Ln ≤ 3072) (hI : INVx I0 I L) (kk : KL d Ln c s p I0 Q) : dd_Rn d m_L_law_ (LF 2427 p a5 a6 (sM Ln I L c s)) Q := by
  obtain ⟨w, im, na, od, A, tp, tl, fa, h⟩ := hI
  have hS : I 3000000 = I0 3000000 := h.2.2.2.2.2.2.2.2 3000000 (by omega)
  refine w_L_law__2427 (by omega) ?_
  refine (A_far (d := d - 1) (by omega) h ).use fun x1 I1 L1 v1 hm => ?_
  refine hm.im (dd_RI.im fun x2 I2 L2 q => ?_)
  exact fin_i q.1 (kk I2 L2 c s _ _ (cs1r c s) q.2)

theorem LC_worst {d Ln c s p : Nat} {I0 I : Nat → Nat → Int32} {L : Nat → Nat → Int64} {Q : dd_O → Prop} {a5 a6 : Value} (hd : 61 ≤ d) (hp : p + 6 ≤ Ln) (hL : Ln ≤ 3072) (hI : INVx I0 I L) (kk : KL d Ln c s p I0 Q) : dd_Rn d m_L_law_ (LF 2440 p a5 a6 (sM Ln I L c s)) Q := by
  obtain ⟨w, im, na, od, A, tp, tl, fa, h⟩ := hI
  have hS : I 3000000 = I0 3000000 := h.2.2.2.2.2.2.2.2 3000000 (by omega)
  refine w_L_law__2440 (by omega) ?_
  refine (A_worst (d := d - 1) (by omega) h ).use fun x1 I1 L1 v1 hm => ?_
  refine hm.im (dd_RI.im fun x2 I2 L2 q => ?_)
  exact fin_i q.1 (kk I2 L2 c s _ _ (cs1r c s) q.2)

theorem LC_odds {d Ln c s p : Nat} {I0 I : Nat → Nat → Int32} {L : Nat → Nat → Int64} {Q : dd_O → Prop} {a5 a6 : Value} (hd : 61 ≤ d) (hp : p + 6 ≤ Ln) (hL : Ln ≤ 3072) (hI : INVx I0 I L) (kk : KL d Ln c s p I0 Q) : dd_Rn d m_L_law_ (LF 2453 p a5 a6 (sM Ln I L c s)) Q := by
  obtain ⟨w, im, na, od, A, tp, tl, fa, h⟩ := hI
  have hS : I 3000000 = I0 3000000 := h.2.2.2.2.2.2.2.2 3000000 (by omega)
  refine w_L_law__2453 (by omega) ?_
  simp only [ad1, ad2, ad3, ad4, ad5]
  rw [hS]
  refine ⟨lck hp hL (by omega), lck hp hL (by omega), (A_odds (d := d - 1) (by omega) h _ _).use fun x1 I1 L1 c1 s1 v1 hm => ?_⟩
  rw [v1 3000000 (by omega)]
  refine ⟨lck hp hL (by omega), lck hp hL (by omega), hm.im (dd_RI.im fun x2 I2 L2 q => ?_)⟩
  exact fin_w q.2.1 q.2.2.1 (w_L_law__2518 (by omega) (kk I2 L2 c1 s1 _ _ q.1 q.2.2.2))

theorem LC_twins {d Ln c s p : Nat} {I0 I : Nat → Nat → Int32} {L : Nat → Nat → Int64} {Q : dd_O → Prop} {a5 a6 : Value} (hd : 61 ≤ d) (hp : p + 6 ≤ Ln) (hL : Ln ≤ 3072) (hI : INVx I0 I L) (kk : KL d Ln c s p I0 Q) : dd_Rn d m_L_law_ (LF 2521 p a5 a6 (sM Ln I L c s)) Q := by
  obtain ⟨w, im, na, od, A, tp, tl, fa, h⟩ := hI
  have hS : I 3000000 = I0 3000000 := h.2.2.2.2.2.2.2.2 3000000 (by omega)
  refine w_L_law__2521 (by omega) ?_
  refine (A_twins (d := d - 1) (by omega) h ).use fun x1 I1 L1 v1 hm => ?_
  refine hm.im (dd_RI.im fun x2 I2 L2 q => ?_)
  exact fin_i q.1 (kk I2 L2 c s _ _ (cs1r c s) q.2)

theorem LC_ahead {d Ln c s p : Nat} {I0 I : Nat → Nat → Int32} {L : Nat → Nat → Int64} {Q : dd_O → Prop} {a5 a6 : Value} (hd : 61 ≤ d) (hp : p + 6 ≤ Ln) (hL : Ln ≤ 3072) (hI : INVx I0 I L) (kk : KL d Ln c s p I0 Q) : dd_Rn d m_L_law_ (LF 2534 p a5 a6 (sM Ln I L c s)) Q := by
  obtain ⟨w, im, na, od, A, tp, tl, fa, h⟩ := hI
  have hS : I 3000000 = I0 3000000 := h.2.2.2.2.2.2.2.2 3000000 (by omega)
  refine w_L_law__2534 (by omega) ?_
  simp only [ad1, ad2, ad3, ad4, ad5]
  rw [hS]
  refine ⟨lck hp hL (by omega), lck hp hL (by omega), (A_ahead (d := d - 1) (by omega) h _ _).use fun x1 I1 L1 c1 s1 v1 hm => ?_⟩
  rw [v1 3000000 (by omega)]
  refine ⟨lck hp hL (by omega), lck hp hL (by omega), hm.im (dd_RI.im fun x2 I2 L2 q => ?_)⟩
  exact fin_w q.2.1 q.2.2.1 (w_L_law__2599 (by omega) (kk I2 L2 c1 s1 _ _ q.1 q.2.2.2))

theorem LC_log {d Ln c s p : Nat} {I0 I : Nat → Nat → Int32} {L : Nat → Nat → Int64} {Q : dd_O → Prop} {a5 a6 : Value} (hd : 61 ≤ d) (hp : p + 6 ≤ Ln) (hL : Ln ≤ 3072) (hI : INVx I0 I L) (kk : KL d Ln c s p I0 Q) : dd_Rn d m_L_law_ (LF 2854 p a5 a6 (sM Ln I L c s)) Q := by
  obtain ⟨w, im, na, od, A, tp, tl, fa, h⟩ := hI
  have hS : I 3000000 = I0 3000000 := h.2.2.2.2.2.2.2.2 3000000 (by omega)
  refine w_L_law__2854 (by omega) ?_
  simp only [ad1, ad2, ad3, ad4, ad5]
  rw [hS]
  refine ⟨lck hp hL (by omega), lck hp hL (by omega), (A_log (d := d - 1) (by omega) h _ _).use fun x1 I1 L1 c1 s1 v1 hm => ?_⟩
  rw [v1 3000000 (by omega)]
  refine ⟨lck hp hL (by omega), lck hp hL (by omega), hm.im (dd_RI.im fun x2 I2 L2 q => ?_)⟩
  exact fin_w q.2.1 q.2.2.1 (w_L_law__2919 (by omega) (kk I2 L2 c1 s1 _ _ q.1 q.2.2.2))

theorem LC_seed {d Ln c s p : Nat} {I0 I : Nat → Nat → Int32} {L : Nat → Nat → Int64} {Q : dd_O → Prop} {a5 a6 : Value} (hd : 61 ≤ d) (hp : p + 6 ≤ Ln) (hL : Ln ≤ 3072) (hI : INVx I0 I L) (kk : KL d Ln c s p I0 Q) : dd_Rn d m_L_law_ (LF 2922 p a5 a6 (sM Ln I L c s)) Q := by
  obtain ⟨w, im, na, od, A, tp, tl, fa, h⟩ := hI
  have hS : I 3000000 = I0 3000000 := h.2.2.2.2.2.2.2.2 3000000 (by omega)
  refine w_L_law__2922 (by omega) ?_
  simp only [ad1, ad2, ad3, ad4, ad5]
  rw [hS]
  refine ⟨lck hp hL (by omega), (A_seed (d := d - 1) (by omega) h _).use fun x1 I1 L1 v1 hm => ?_⟩
  rw [v1 3000000 (by omega)]
  refine ⟨lck hp hL (by omega), hm.im (dd_RI.im fun x2 I2 L2 q => ?_)⟩
  exact fin_i q.1 (kk I2 L2 c s _ _ (cs1r c s) q.2)

theorem LC_undo {d Ln c s p : Nat} {I0 I : Nat → Nat → Int32} {L : Nat → Nat → Int64} {Q : dd_O → Prop} {a5 a6 : Value} (hd : 61 ≤ d) (hp : p + 6 ≤ Ln) (hL : Ln ≤ 3072) (hI : INVx I0 I L) (kk : KL d Ln c s p I0 Q) : dd_Rn d m_L_law_ (LF 2947 p a5 a6 (sM Ln I L c s)) Q := by
  obtain ⟨w, im, na, od, A, tp, tl, fa, h⟩ := hI
  have hS : I 3000000 = I0 3000000 := h.2.2.2.2.2.2.2.2 3000000 (by omega)
  refine w_L_law__2947 (by omega) ?_
  refine (A_undo (d := d - 1) (by omega) h ).use fun x1 I1 L1 v1 hm => ?_
  refine hm.im (dd_RI.im fun x2 I2 L2 q => ?_)
  exact fin_i q.1 (kk I2 L2 c s _ _ (cs1r c s) q.2)

theorem LC_image {d Ln c s p : Nat} {I0 I : Nat → Nat → Int32} {L : Nat → Nat → Int64} {Q : dd_O → Prop} {a5 a6 : Value} (hd : 61 ≤ d) (hp : p + 6 ≤ Ln) (hL : Ln ≤ 3072) (hI : INVx I0 I L) (kk : KL d Ln c s p I0 Q) : dd_Rn d m_L_law_ (LF 2960 p a5 a6 (sM Ln I L c s)) Q := by
  obtain ⟨w, im, na, od, A, tp, tl, fa, h⟩ := hI
  have hS : I 3000000 = I0 3000000 := h.2.2.2.2.2.2.2.2 3000000 (by omega)
  refine w_L_law__2960 (by omega) ?_
  refine (A_image (d := d - 1) (by omega) h).use fun I1 L1 v1 hm => ?_
  exact hm.im (dd_RV.im fun I2 L2 q => kk I2 L2 c s _ _ (cs1r c s) q)

theorem LC_back {d Ln c s p : Nat} {I0 I : Nat → Nat → Int32} {L : Nat → Nat → Int64} {Q : dd_O → Prop} {a5 a6 : Value} (hd : 61 ≤ d) (hp : p + 6 ≤ Ln) (hL : Ln ≤ 3072) (hI : INVx I0 I L) (kk : KL d Ln c s p I0 Q) : dd_Rn d m_L_law_ (LF 2971 p a5 a6 (sM Ln I L c s)) Q := by
  obtain ⟨w, im, na, od, A, tp, tl, fa, h⟩ := hI
  have hS : I 3000000 = I0 3000000 := h.2.2.2.2.2.2.2.2 3000000 (by omega)
  refine w_L_law__2971 (by omega) ?_
  refine (A_back (d := d - 1) (by omega) h ).use fun x1 I1 L1 v1 hm => ?_
  refine hm.im (dd_RI.im fun x2 I2 L2 q => ?_)
  exact fin_i q.1 (kk I2 L2 c s _ _ (cs1r c s) q.2)

theorem LC_count {d Ln c s p : Nat} {I0 I : Nat → Nat → Int32} {L : Nat → Nat → Int64} {Q : dd_O → Prop} {a5 a6 : Value} (hd : 61 ≤ d) (hp : p + 6 ≤ Ln) (hL : Ln ≤ 3072) (hI : INVx I0 I L) (kk : KL d Ln c s p I0 Q) : dd_Rn d m_L_law_ (LF 2984 p a5 a6 (sM Ln I L c s)) Q := by
  obtain ⟨w, im, na, od, A, tp, tl, fa, h⟩ := hI
  have hS : I 3000000 = I0 3000000 := h.2.2.2.2.2.2.2.2 3000000 (by omega)
  refine w_L_law__2984 (by omega) ?_
  simp only [ad1, ad2, ad3, ad4, ad5]
  rw [hS]
  refine ⟨lck hp hL (by omega), (A_count (d := d - 1) (by omega) h _).use fun x1 I1 L1 v1 hm => ?_⟩
  rw [v1 3000000 (by omega)]
  refine ⟨lck hp hL (by omega), hm.im (dd_RI.im fun x2 I2 L2 q => ?_)⟩
  exact fin_i q.1 (kk I2 L2 c s _ _ (cs1r c s) q.2)
