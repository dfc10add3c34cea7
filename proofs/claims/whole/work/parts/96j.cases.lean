/-! the last two cases of the law's loop -/
theorem LC_wood {d Ln c s p : Nat} {I0 I : Nat → Nat → Int32} {L : Nat → Nat → Int64} {Q : dd_O → Prop} {a5 a6 : Value} (hd : 61 ≤ d) (hS0 : STR I0) (hI : INVx I0 I L) (kk : KL d Ln c s p I0 Q) : dd_Rn d m_L_law_ (LF 394 p a5 a6 (sM Ln I L c s)) Q := by
  obtain ⟨w, im, na, od, A, tp, tl, fa, h⟩ := hI
  refine w_L_law__394 (by omega) ?_
  refine (A_wood (d := d - 1) (by omega) h hS0).use fun x1 I1 L1 c1 s1 v1 hm => ?_
  refine hm.im (dd_RI.im fun x2 I2 L2 q => ?_)
  exact fin_w q.2.1 q.2.2.1 (w_L_law__435 (by omega) (kk I2 L2 c1 s1 _ _ q.1 q.2.2.2))
theorem LC_law {d Ln c s p : Nat} {I0 I : Nat → Nat → Int32} {L : Nat → Nat → Int64} {Q : dd_O → Prop} {a5 a6 : Value} (hd : 103 ≤ d) (hS0 : STR I0) (hI : INVx I0 I L) (kk : KL d Ln c s p I0 Q) : dd_Rn d m_L_law_ (LF 438 p a5 a6 (sM Ln I L c s)) Q := by
  obtain ⟨w, im, na, od, A, tp, tl, fa, h⟩ := hI
  refine w_L_law__438 (by omega) ?_
  refine (A_law (d := d - 1) (by omega) h (by omega) hS0).use fun x1 I1 L1 c1 s1 v1 hm => ?_
  refine hm.im (dd_RI.im fun x2 I2 L2 q => ?_)
  exact fin_w q.2.1 q.2.2.1 (w_L_law__479 (by omega) (kk I2 L2 c1 s1 _ _ q.1 q.2.2.2))
