/-! The cases of the law with a truth among the arguments -/

theorem LC_sounds {d Ln c s p : Nat} {I0 I : Nat → Nat → Int32} {L : Nat → Nat → Int64} {Q : dd_O → Prop} {a5 a6 : Value} (hd : 61 ≤ d) (hp : p + 6 ≤ Ln) (hL : Ln ≤ 3072) (hI : INVx I0 I L) (kk : KL d Ln c s p I0 Q) : dd_Rn d m_L_law_ (LF 1752 p a5 a6 (sM Ln I L c s)) Q := by
  obtain ⟨w, im, na, od, A, tp, tl, fa, h⟩ := hI
  have hS : I 3000000 = I0 3000000 := h.2.2.2.2.2.2.2.2 3000000 (by omega)
  have st2 : ∀ t : Int32, (I0 3000000 (tn (nI (p + 1))) = 0 → t = 0) → (¬ I0 3000000 (tn (nI (p + 1))) = 0 → t = 1) → dd_Rn d m_L_law_ (1767, [.ref 3000000, .ref 0, .ref 148, .ref 163, .int (nI p), a5, a6], [.int t, .ref 0], sM Ln I L c s) Q := by
    intro t h0 h1
    refine w_L_law__1767 (by omega) ?_
    refine (A_sounds (d := d - 1) (by omega) h t).use fun x1 I1 L1 c1 s1 v1 hm => ?_
    simp only [ad1, ad2]
    rw [v1 3000000 (by omega)]
    have fin : dd_Rn d m_L_law_ (1788, [.ref 3000000, .ref 0, .ref 148, .ref 163, .int (nI p), .int x1, a6], [.int t, .ref 148], sM Ln I1 L1 c1 s1) Q := by
      refine w_L_law__1788 (by omega) ?_
      refine hm.im (dd_RI.im fun x2 I2 L2 q => ?_)
      exact fin_w q.2.1 q.2.2.1 (w_L_law__1821 (by omega) (kk I2 L2 c1 s1 _ _ q.1 q.2.2.2))
    refine ⟨lck hp hL (by omega), fun z => ?_, fun z => ?_⟩
    · rw [h0 z] at fin
      exact fin
    · rw [h1 z] at fin
      exact fin
  refine w_L_law__1752 (by omega) ?_
  simp only [ad1, ad2]
  rw [hS]
  exact ⟨lck hp hL (by omega), fun z => st2 0 (fun _ => rfl) (fun y => absurd z y), fun z => st2 1 (fun y => absurd y z) (fun _ => rfl)⟩

theorem LC_trial {d Ln c s p : Nat} {I0 I : Nat → Nat → Int32} {L : Nat → Nat → Int64} {Q : dd_O → Prop} {a5 a6 : Value} (hd : 61 ≤ d) (hp : p + 6 ≤ Ln) (hL : Ln ≤ 3072) (hI : INVx I0 I L) (kk : KL d Ln c s p I0 Q) : dd_Rn d m_L_law_ (LF 2602 p a5 a6 (sM Ln I L c s)) Q := by
  obtain ⟨w, im, na, od, A, tp, tl, fa, h⟩ := hI
  have hS : I 3000000 = I0 3000000 := h.2.2.2.2.2.2.2.2 3000000 (by omega)
  have st2 : ∀ t : Int32, (I0 3000000 (tn (nI (p + 2))) = 0 → t = 0) → (¬ I0 3000000 (tn (nI (p + 2))) = 0 → t = 1) → dd_Rn d m_L_law_ (2623, [.ref 3000000, .ref 0, .ref 148, .ref 163, .int (nI p), a5, a6], [.int t, .int (I0 3000000 (tn (nI (p + 1)))), .ref 0], sM Ln I L c s) Q := by
    intro t h0 h1
    refine w_L_law__2623 (by omega) ?_
    refine (A_trial (d := d - 1) (by omega) h _ t).use fun x1 I1 L1 c1 s1 v1 hm => ?_
    simp only [ad1, ad2]
    rw [v1 3000000 (by omega)]
    have fin : dd_Rn d m_L_law_ (2650, [.ref 3000000, .ref 0, .ref 148, .ref 163, .int (nI p), .int x1, a6], [.int t, .int (I0 3000000 (tn (nI (p + 1)))), .ref 148], sM Ln I1 L1 c1 s1) Q := by
      refine w_L_law__2650 (by omega) ?_
      refine hm.im (dd_RI.im fun x2 I2 L2 q => ?_)
      exact fin_w q.2.1 q.2.2.1 (w_L_law__2683 (by omega) (kk I2 L2 c1 s1 _ _ q.1 q.2.2.2))
    refine ⟨lck hp hL (by omega), lck hp hL (by omega), fun z => ?_, fun z => ?_⟩
    · rw [h0 z] at fin
      exact fin
    · rw [h1 z] at fin
      exact fin
  refine w_L_law__2602 (by omega) ?_
  simp only [ad1, ad2]
  rw [hS]
  exact ⟨lck hp hL (by omega), lck hp hL (by omega), fun z => st2 0 (fun _ => rfl) (fun y => absurd z y), fun z => st2 1 (fun y => absurd y z) (fun _ => rfl)⟩

theorem LC_span {d Ln c s p : Nat} {I0 I : Nat → Nat → Int32} {L : Nat → Nat → Int64} {Q : dd_O → Prop} {a5 a6 : Value} (hd : 61 ≤ d) (hp : p + 6 ≤ Ln) (hL : Ln ≤ 3072) (hI : INVx I0 I L) (kk : KL d Ln c s p I0 Q) : dd_Rn d m_L_law_ (LF 2686 p a5 a6 (sM Ln I L c s)) Q := by
  obtain ⟨w, im, na, od, A, tp, tl, fa, h⟩ := hI
  have hS : I 3000000 = I0 3000000 := h.2.2.2.2.2.2.2.2 3000000 (by omega)
  have st2 : ∀ t : Int32, (I0 3000000 (tn (nI (p + 2))) = 0 → t = 0) → (¬ I0 3000000 (tn (nI (p + 2))) = 0 → t = 1) → dd_Rn d m_L_law_ (2707, [.ref 3000000, .ref 0, .ref 148, .ref 163, .int (nI p), a5, a6], [.int t, .int (I0 3000000 (tn (nI (p + 1)))), .ref 0], sM Ln I L c s) Q := by
    intro t h0 h1
    refine w_L_law__2707 (by omega) ?_
    refine (A_span (d := d - 1) (by omega) h _ t).use fun x1 I1 L1 c1 s1 v1 hm => ?_
    simp only [ad1, ad2]
    rw [v1 3000000 (by omega)]
    have fin : dd_Rn d m_L_law_ (2734, [.ref 3000000, .ref 0, .ref 148, .ref 163, .int (nI p), .int x1, a6], [.int t, .int (I0 3000000 (tn (nI (p + 1)))), .ref 148], sM Ln I1 L1 c1 s1) Q := by
      refine w_L_law__2734 (by omega) ?_
      refine hm.im (dd_RI.im fun x2 I2 L2 q => ?_)
      exact fin_w q.2.1 q.2.2.1 (w_L_law__2767 (by omega) (kk I2 L2 c1 s1 _ _ q.1 q.2.2.2))
    refine ⟨lck hp hL (by omega), lck hp hL (by omega), fun z => ?_, fun z => ?_⟩
    · rw [h0 z] at fin
      exact fin
    · rw [h1 z] at fin
      exact fin
  refine w_L_law__2686 (by omega) ?_
  simp only [ad1, ad2]
  rw [hS]
  exact ⟨lck hp hL (by omega), lck hp hL (by omega), fun z => st2 0 (fun _ => rfl) (fun y => absurd z y), fun z => st2 1 (fun y => absurd y z) (fun _ => rfl)⟩

theorem LC_led {d Ln c s p : Nat} {I0 I : Nat → Nat → Int32} {L : Nat → Nat → Int64} {Q : dd_O → Prop} {a5 a6 : Value} (hd : 61 ≤ d) (hp : p + 6 ≤ Ln) (hL : Ln ≤ 3072) (hI : INVx I0 I L) (kk : KL d Ln c s p I0 Q) : dd_Rn d m_L_law_ (LF 2770 p a5 a6 (sM Ln I L c s)) Q := by
  obtain ⟨w, im, na, od, A, tp, tl, fa, h⟩ := hI
  have hS : I 3000000 = I0 3000000 := h.2.2.2.2.2.2.2.2 3000000 (by omega)
  have st2 : ∀ t : Int32, (I0 3000000 (tn (nI (p + 2))) = 0 → t = 0) → (¬ I0 3000000 (tn (nI (p + 2))) = 0 → t = 1) → dd_Rn d m_L_law_ (2791, [.ref 3000000, .ref 0, .ref 148, .ref 163, .int (nI p), a5, a6], [.int t, .int (I0 3000000 (tn (nI (p + 1)))), .ref 0], sM Ln I L c s) Q := by
    intro t h0 h1
    refine w_L_law__2791 (by omega) ?_
    refine (A_led (d := d - 1) (by omega) h _ t).use fun x1 I1 L1 c1 s1 v1 hm => ?_
    simp only [ad1, ad2]
    rw [v1 3000000 (by omega)]
    have fin : dd_Rn d m_L_law_ (2818, [.ref 3000000, .ref 0, .ref 148, .ref 163, .int (nI p), .int x1, a6], [.int t, .int (I0 3000000 (tn (nI (p + 1)))), .ref 148], sM Ln I1 L1 c1 s1) Q := by
      refine w_L_law__2818 (by omega) ?_
      refine hm.im (dd_RI.im fun x2 I2 L2 q => ?_)
      exact fin_w q.2.1 q.2.2.1 (w_L_law__2851 (by omega) (kk I2 L2 c1 s1 _ _ q.1 q.2.2.2))
    refine ⟨lck hp hL (by omega), lck hp hL (by omega), fun z => ?_, fun z => ?_⟩
    · rw [h0 z] at fin
      exact fin
    · rw [h1 z] at fin
      exact fin
  refine w_L_law__2770 (by omega) ?_
  simp only [ad1, ad2]
  rw [hS]
  exact ⟨lck hp hL (by omega), lck hp hL (by omega), fun z => st2 0 (fun _ => rfl) (fun y => absurd z y), fun z => st2 1 (fun y => absurd y z) (fun _ => rfl)⟩

theorem PB.use {d mC : Nat} {aC : List Value} {mM : Nat} {aM : List Value} {I0 : Nat → Nat → Int32} {Ln c s : Nat} {I : Nat → Nat → Int32} {L : Nat → Nat → Int64} {K : Int32 → (Nat → Nat → Int32) → (Nat → Nat → Int64) → Nat → Nat → Prop} (h : PB d mC aC mM aM I0 Ln c s I L) (k : ∀ x1 I1 L1 c1 s1, ivS I0 I1 → dd_Ev d mM aM (sM Ln I1 L1 c1 s1) (dd_RI Ln c1 s1 (fun x2 I2 L2 => cs1 c s c1 s1 ∧ I2 148 0 = x1 ∧ (x1 = 0 → L2 163 0 = x2.toInt64 ∧ (x2 = 0 ∨ x2 = 1)) ∧ INVx I0 I2 L2)) → K x1 I1 L1 c1 s1) : dd_Ev d mC aC (sM Ln I L c s) (dd_RJ Ln c s K) :=
  (h (fun x1 x2 I2 L2 c2 s2 => cs1 c s c2 s2 ∧ I2 148 0 = x1 ∧ (x1 = 0 → L2 163 0 = x2.toInt64 ∧ (x2 = 0 ∨ x2 = 1)) ∧ INVx I0 I2 L2) (fun _ _ _ _ _ _ a b e f => ⟨a, b, e, f⟩)).im (dd_RJ.im fun x1 I1 L1 c1 s1 q => k x1 I1 L1 c1 s1 q.1 q.2)
theorem LC_plant {d Ln c s p : Nat} {I0 I : Nat → Nat → Int32} {L : Nat → Nat → Int64} {Q : dd_O → Prop} {a5 a6 : Value} (hd : 61 ≤ d) (hp : p + 6 ≤ Ln) (hL : Ln ≤ 3072) (hI : INVx I0 I L) (kk : KL d Ln c s p I0 Q) : dd_Rn d m_L_law_ (LF 811 p a5 a6 (sM Ln I L c s)) Q := by
  obtain ⟨w, im, na, od, A, tp, tl, fa, h⟩ := hI
  have hS : I 3000000 = I0 3000000 := h.2.2.2.2.2.2.2.2 3000000 (by omega)
  have st2 : ∀ t : Bool, (I0 3000000 (tn (nI (p + 2))) = 0 → bI t = 0) → (¬ I0 3000000 (tn (nI (p + 2))) = 0 → bI t = 1) → dd_Rn d m_L_law_ (832, [.ref 3000000, .ref 0, .ref 148, .ref 163, .int (nI p), a5, a6], [.int (bI t), .int (I0 3000000 (tn (nI (p + 1)))), .ref 0], sM Ln I L c s) Q := by
    intro t h0 h1
    refine w_L_law__832 (by omega) ?_
    refine (A_plant (d := d - 1) (by omega) h _ t).use fun x1 I1 L1 c1 s1 v1 hm => ?_
    simp only [ad1, ad2]
    rw [v1 3000000 (by omega)]
    have fin : dd_Rn d m_L_law_ (859, [.ref 3000000, .ref 0, .ref 148, .ref 163, .int (nI p), .int x1, a6], [.int (bI t), .int (I0 3000000 (tn (nI (p + 1)))), .ref 148], sM Ln I1 L1 c1 s1) Q := by
      refine w_L_law__859 (by omega) ?_
      refine hm.im (dd_RI.im fun x2 I2 L2 q => ?_)
      obtain ⟨q1, q2, q3, q4⟩ := q
      have done : ∀ a6 : Int32, dd_Rn d m_L_law_ (LF 899 p (.int x1) (.int a6) (sM Ln I2 L2 c1 s1)) Q := fun a6 => w_L_law__899 (by omega) (kk I2 L2 c1 s1 _ _ q1 q4)
      refine ⟨fun _ => ⟨fun z => ⟨fun y => ?_, fun y => ?_⟩, fun z => done _⟩, fun z => absurd q2 z⟩
      · refine w_L_law__893 (by omega) ⟨fun _ => done _, fun u => absurd ?_ u⟩
        rw [(q3 z).1, y]
        exact lgc _
      · refine w_L_law__893 (by omega) ⟨fun _ => done _, fun u => absurd ?_ u⟩
        rw [(q3 z).1]
        rcases (q3 z).2 with e | e
        · exact absurd e y
        · rw [e]
          exact lgc _
    refine ⟨lck hp hL (by omega), lck hp hL (by omega), fun z => ?_, fun z => ?_⟩
    · rw [h0 z] at fin
      exact fin
    · rw [h1 z] at fin
      exact fin
  refine w_L_law__811 (by omega) ?_
  simp only [ad1, ad2]
  rw [hS]
  exact ⟨lck hp hL (by omega), lck hp hL (by omega), fun z => st2 false (fun _ => rfl) (fun y => absurd z y), fun z => st2 true (fun y => absurd y z) (fun _ => rfl)⟩
