/-! image, back -/
def PVw (d mC : Nat) (aC : List Value) (mM : Nat) (aM : List Value) (I0 : Nat → Nat → Int32) (Ln c s : Nat) (I : Nat → Nat → Int32) (L : Nat → Nat → Int64) : Prop :=
  ∀ G : (Nat → Nat → Int32) → (Nat → Nat → Int64) → Prop, (∀ I2 L2, INVx I0 I2 L2 → G I2 L2) → dd_Ev d mC aC (sM Ln I L c s) (dd_RV Ln c s (fun I1 L1 => ivS I0 I1 ∧ dd_Ev d mM aM (sM Ln I1 L1 c s) (dd_RV Ln c s (fun I2 L2 => G I2 L2))))
theorem A_image {d Ln c s : Nat} {I0 I : Nat → Nat → Int32} {L : Nat → Nat → Int64} {w : Nat → Nat} {im : Option (Nat → Nat)} {na od : Nat} {A : Nat → Nat → Nat} {tp : Nat → Nat} {tl : Nat} {fa : Option Nat} (hd : 60 ≤ d) (h : INV I0 w im na od A tp tl fa I L) : PVw d m_X10_image [.ref 0] m_X11_image [.ref 148] I0 Ln c s I L := by
  obtain ⟨h1, h2, h3, h4, ⟨i1, i2, i3⟩, ⟨a1, a2, a3, a4, a5, a6⟩, ⟨t1, t2, t3, t4, t5⟩, ⟨q1, q2⟩, h9⟩ := h
  intro G g
  refine w_X10_image_0 (by omega) ?_
  refine C_copyFrom (w := w) (by omega) (Or.inr ⟨rfl, Or.inr (Or.inl rfl)⟩) h3 h1.1.1.2.2.2.2.2.2.2.2.1 fun I1 L1 r1 f1 l1 => ?_
  have k1 : RLk w I1 25 := (h4.of (by rw [f1 25 (by omega)]) (by rw [f1 25 (by omega)]) (f1 26 (by omega))).k
  refine C_cpL (w := w) (by omega) (Or.inl ⟨rfl, rfl⟩) k1 fun I2 k2 f2 => ?_
  refine dd_qV ⟨fun k hk => by rw [dd_un (by omega), f2 k (by omega) (by omega), f1 k (by omega)]; exact h9 k hk, ?_⟩
  refine w_X11_image_0 (by omega) ?_
  have fc : ∀ k, k ≠ 0 → (k < 17 ∨ (25 ≤ k ∧ k < 29) ∨ 31 ≤ k) → dd_u I2 0 (upd (I2 0) 6 1) k = I k := by
    intro k k0 hk
    rw [dd_un k0, f2 k (by omega) (by omega), f1 k (by omega)]
  have fc0 : ∀ j, j ≠ 6 → dd_u I2 0 (upd (I2 0) 6 1) 0 j = I 0 j := by
    intro j hj
    rw [dd_us, pk_un hj, f2 0 (by omega) (by omega), f1 0 (by omega)]
  have fc6 : dd_u I2 0 (upd (I2 0) 6 1) 0 6 = 1 := by rw [dd_us, pk_us]
  have rI : RW w (dd_u I2 0 (upd (I2 0) 6 1)) L1 17 := r1.of (fun j _ _ => by rw [dd_un (by omega), f2 j (by omega) (by omega)]) rfl
  have kI : RLk w (dd_u I2 0 (upd (I2 0) 6 1)) 29 := by
    unfold RLk at k2 ⊢
    rw [dd_un (by decide), dd_un (by decide)]
    exact k2
  generalize dd_u I2 0 (upd (I2 0) 6 1) = J at *
  have key : ∀ f, (∀ j, j < 0 → f j = nI (w j)) → dd_Rn d m_X11_image (7, [.ref 148, .int (nI 0)], [], sM Ln (dd_u (dd_u J 148 (upd (J 148) 0 0)) 150 f) L1 c s) (dd_RV Ln c s (fun I2 L2 => G I2 L2)) := by
    refine dd_lp (fun i => ∀ f, (∀ j, j < i → f j = nI (w j)) → dd_Rn d m_X11_image (7, [.ref 148, .int (nI i)], [], sM Ln (dd_u (dd_u J 148 (upd (J 148) 0 0)) 150 f) L1 c s) (dd_RV Ln c s (fun I2 L2 => G I2 L2))) 1371 ?_ ?_
    · intro f ff
      refine w_X11_image_7 (by omega) ?_
      rw [li_1371, nI_leI (by omega) (by omega)]
      refine ⟨fun _ => dd_qV (g _ L1 ⟨w, some w, na, od, A, tp, tl, fa, ?_⟩), fun z => absurd (Nat.le_refl _) z⟩
      have e148 : dd_u (dd_u J 148 (upd (J 148) 0 0)) 150 f 148 = upd (J 148) 0 0 := by rw [dd_un (by decide), dd_us]
      rw [e148]
      have fk : ∀ k, k ≠ 148 → k ≠ 150 → dd_u (dd_u (dd_u J 148 (upd (J 148) 0 0)) 150 f) 148 (upd (upd (J 148) 0 0) 6 1) k = J k := by
        intro k k1 k2
        rw [dd_un k1, dd_un k2, dd_un k1]
      have f8 : ∀ j, j ≠ 0 → j ≠ 6 → dd_u (dd_u (dd_u J 148 (upd (J 148) 0 0)) 150 f) 148 (upd (upd (J 148) 0 0) 6 1) 148 j = I 148 j := by
        intro j j0 j6
        rw [dd_us, pk_un j6, pk_un j0, fc 148 (by omega) (by omega)]
      have f86 : dd_u (dd_u (dd_u J 148 (upd (J 148) 0 0)) 150 f) 148 (upd (upd (J 148) 0 0) 6 1) 148 6 = 1 := by
        rw [dd_us, pk_us]
      have f50 : dd_u (dd_u (dd_u J 148 (upd (J 148) 0 0)) 150 f) 148 (upd (upd (J 148) 0 0) 6 1) 150 = f := by
        rw [dd_un (by decide), dd_us]
      generalize dd_u (dd_u (dd_u J 148 (upd (J 148) 0 0)) 150 f) 148 (upd (upd (J 148) 0 0) 6 1) = N at *
      have fN : ∀ k, k ≠ 0 → k ≠ 148 → k ≠ 150 → (k < 17 ∨ (25 ≤ k ∧ k < 29) ∨ 31 ≤ k) → N k = I k := fun k k0 k1 k2 hk => by rw [fk k k1 k2, fc k k0 hk]
      refine ⟨h1, ?_, ?_, ?_, ⟨?_, ?_, ?_⟩, ⟨a1, a2, ?_, ?_, ?_, ?_⟩, ⟨t1, t2, ?_, ?_, ?_⟩, ⟨?_, ?_⟩, ?_⟩
      · exact h2.of (fN 149 (by omega) (by omega) (by omega) (by omega))
      · exact h3.of (fun j _ _ => fN j (by omega) (by omega) (by omega) (by omega)) (l1 1 (by omega))
      · refine h4.of ?_ ?_ (fN 26 (by omega) (by omega) (by omega) (by omega))
        · rw [fN 25 (by omega) (by omega) (by omega) (by omega)]
        · rw [fN 25 (by omega) (by omega) (by omega) (by omega)]
      · rw [f86]; rfl
      · rw [fk 0 (by omega) (by omega), fc6]; rfl
      · intro wi hw
        cases hw
        refine ⟨h1, fun j hj => by rw [f50]; exact ff j hj, rI.of (fun j _ _ => fk j (by omega) (by omega)) rfl, ?_⟩
        unfold RLk at kI ⊢
        rw [fk 29 (by omega) (by omega), fk (29 + 1) (by omega) (by omega)]
        exact kI
      · rw [f8 7 (by omega) (by omega)]; exact a3
      · rw [fN 31 (by omega) (by omega) (by omega) (by omega)]; exact a4
      · rw [fN 31 (by omega) (by omega) (by omega) (by omega)]; exact a5
      · intro i hi
        obtain ⟨j1, j2, j3, j4⟩ := a6 i hi
        exact ⟨j1, j2, fun j hj => by rw [fN 153 (by omega) (by omega) (by omega) (by omega)]; exact j3 j hj, j4.of (fun j _ _ => fN j (by omega) (by omega) (by omega) (by omega)) (l1 _ (by omega))⟩
      · rw [f8 9 (by omega) (by omega)]; exact t3
      · rw [fk 0 (by omega) (by omega), fc0 9 (by omega)]; exact t4
      · intro j hj
        rw [fN 129 (by omega) (by omega) (by omega) (by omega), fN 154 (by omega) (by omega) (by omega) (by omega)]
        exact t5 j hj
      · rw [f8 14 (by omega) (by omega)]; exact q1
      · rw [fk 0 (by omega) (by omega), fc0 10 (by omega)]; exact q2
      · intro k hk
        rw [fN k (by omega) (by omega) (by omega) (by omega)]
        exact h9 k hk
    · intro i hi ih f ff
      refine w_X11_image_7 (by omega) ?_
      have et2 : tn (nI i) = i := nI_clamp (by omega)
      have e149 : dd_u (dd_u J 148 (upd (J 148) 0 0)) 150 f 149 = I 149 := by
        rw [dd_un (by decide), dd_un (by decide), fc 149 (by omega) (by omega)]
      rw [et2, e149, h2.g hi, dd_us, dd_u_u, nI_1, li_1371, nI_leI (by omega) (by omega)]
      refine ⟨fun z => absurd z (by omega), fun _ => ⟨⟨nI_pos' (by omega), by omega⟩, ⟨nI_pos' (by omega), by omega⟩, ?_⟩⟩
      refine ih _ (fun j hj => ?_)
      by_cases q : j = i
      · subst q; rw [pk_us]
      · rw [pk_un (by omega)]; exact ff j (by omega)
  have := key (J 150) (fun j hj => absurd hj (Nat.not_lt_zero j))
  have e : dd_u (dd_u J 148 (upd (J 148) 0 0)) 150 (J 150) = dd_u J 148 (upd (J 148) 0 0) := by
    have e2 : J 150 = dd_u J 148 (upd (J 148) 0 0) 150 := (dd_un (by decide)).symm
    rw [e2, dd_u_id]
  rw [e] at this
  exact this
theorem A_back {d Ln c s : Nat} {I0 I : Nat → Nat → Int32} {L : Nat → Nat → Int64} {w : Nat → Nat} {im : Option (Nat → Nat)} {na od : Nat} {A : Nat → Nat → Nat} {tp : Nat → Nat} {tl : Nat} {fa : Option Nat} (hd : 60 ≤ d) (h : INV I0 w im na od A tp tl fa I L) : PIw d m_X10_back [.ref 0] m_X11_back [.ref 148] I0 Ln c s I L := by
  obtain ⟨h1, h2, h3, h4, ⟨i1, i2, i3⟩, ⟨a1, a2, a3, a4, a5, a6⟩, ⟨t1, t2, t3, t4, t5⟩, ⟨q1, q2⟩, h9⟩ := h
  have h : INV I0 w im na od A tp tl fa I L := ⟨h1, h2, h3, h4, ⟨i1, i2, i3⟩, ⟨a1, a2, a3, a4, a5, a6⟩, ⟨t1, t2, t3, t4, t5⟩, ⟨q1, q2⟩, h9⟩
  match im, i1, i2, i3, h with
  | none, i1, i2, i3, h =>
    refine PIw.q h 0 ?_ ?_
    · intro K g
      refine w_X10_back_0 (by omega) ?_
      rw [i2]
      exact ⟨fun _ => dd_qi (g I L (FC.refl I L)), fun z => absurd rfl z⟩
    · intro I1 L1 h1 K g
      refine w_X11_back_0 (by omega) ?_
      rw [h1.2.2.2.2.1.1]
      exact ⟨fun _ => mqR h1.2.1 rfl g, fun z => absurd rfl z⟩
  | some wi, i1, i2, i3, h =>
    intro G g
    obtain ⟨gW, mW, rW, kW⟩ := i3 wi rfl
    refine w_X10_back_0 (by omega) ?_
    rw [i2]
    refine ⟨fun z => absurd z (show ¬ bI true = 0 by decide), fun _ => ?_⟩
    refine C_copyFrom (w := wi) (by omega) (Or.inl ⟨rfl, Or.inr (Or.inl rfl)⟩) rW gW.1.1.2.2.2.2.2.2.2.2.1 fun I1 L1 r1 f1 l1 => ?_
    have k1 : RLk wi I1 29 := by
      unfold RLk at kW ⊢
      rw [f1 29 (by omega), f1 (29 + 1) (by omega)]
      exact kW
    refine C_cpL (w := wi) (by omega) (Or.inr ⟨rfl, rfl⟩) k1 fun I2 k2 f2 => ?_
    refine dd_qi ⟨fun k hk => by rw [dd_un (by omega), f2 k (by omega) (by omega), f1 k (by omega)]; exact h9 k hk, ?_⟩
    have fc : ∀ k, k ≠ 31 → (k < 1 ∨ (9 ≤ k ∧ k < 25) ∨ 27 ≤ k) → dd_u I2 31 (upd (I2 31) 2 0) k = I k := by
      intro k k0 hk
      rw [dd_un k0, f2 k (by omega) (by omega), f1 k (by omega)]
    have fc1 : dd_u I2 31 (upd (I2 31) 2 0) 31 1 = I 31 1 := by
      rw [dd_us, pk_un (by decide), f2 31 (by omega) (by omega), f1 31 (by omega)]
    have fc2 : dd_u I2 31 (upd (I2 31) 2 0) 31 2 = nI 0 := by rw [dd_us, pk_us]; rfl
    have rI : RC wi (dd_u I2 31 (upd (I2 31) 2 0)) L1 := r1.of (fun j _ _ => by rw [dd_un (by omega), f2 j (by omega) (by omega)]) rfl
    have kI : RLw wi (dd_u I2 31 (upd (I2 31) 2 0)) := by
      have : RLk wi (dd_u I2 31 (upd (I2 31) 2 0)) 25 := by
        unfold RLk at k2 ⊢
        rw [dd_un (by decide), dd_un (by decide)]
        exact k2
      exact this.w
    generalize dd_u I2 31 (upd (I2 31) 2 0) = J at *
    have e148 : J 148 = I 148 := fc 148 (by omega) (by omega)
    refine w_X11_back_0 (by omega) ?_
    rw [e148, i1]
    refine ⟨fun z => absurd z (show ¬ bI true = 0 by decide), fun _ => ?_⟩
    have key : ∀ f, (∀ j, j < 0 → f j = nI (wi j)) → dd_Rn d m_X11_back (16, [.ref 148, .int (nI 0)], [], sM Ln (dd_u (dd_u J 148 (upd (I 148) 0 0)) 149 f) L1 c s) (dd_RI Ln c s (fun x2 I2 L2 => G 1 x2 I2 L2)) := by
      refine dd_lp (fun i => ∀ f, (∀ j, j < i → f j = nI (wi j)) → dd_Rn d m_X11_back (16, [.ref 148, .int (nI i)], [], sM Ln (dd_u (dd_u J 148 (upd (I 148) 0 0)) 149 f) L1 c s) (dd_RI Ln c s (fun x2 I2 L2 => G 1 x2 I2 L2))) 1371 ?_ ?_
      · intro f ff
        refine w_X11_back_16 (by omega) ?_
        rw [li_1371, nI_leI (by omega) (by omega)]
        refine ⟨fun _ => dd_qi (g 1 _ L1 ⟨wi, some wi, 0, od, A, tp, tl, fa, ?_⟩), fun z => absurd (Nat.le_refl _) z⟩
        have e8 : dd_u (dd_u J 148 (upd (I 148) 0 0)) 149 f 148 = upd (I 148) 0 0 := by rw [dd_un (by decide), dd_us]
        rw [e8]
        have fk : ∀ k, k ≠ 148 → k ≠ 149 → dd_u (dd_u (dd_u J 148 (upd (I 148) 0 0)) 149 f) 148 (upd (upd (I 148) 0 0) 7 0) k = J k := by
          intro k k1 k2
          rw [dd_un k1, dd_un k2, dd_un k1]
        have f8 : ∀ j, j ≠ 0 → j ≠ 7 → dd_u (dd_u (dd_u J 148 (upd (I 148) 0 0)) 149 f) 148 (upd (upd (I 148) 0 0) 7 0) 148 j = I 148 j := by
          intro j j0 j6
          rw [dd_us, pk_un j6, pk_un j0]
        have f87 : dd_u (dd_u (dd_u J 148 (upd (I 148) 0 0)) 149 f) 148 (upd (upd (I 148) 0 0) 7 0) 148 7 = nI 0 := by
          rw [dd_us, pk_us]; rfl
        have f49 : dd_u (dd_u (dd_u J 148 (upd (I 148) 0 0)) 149 f) 148 (upd (upd (I 148) 0 0) 7 0) 149 = f := by
          rw [dd_un (by decide), dd_us]
        generalize dd_u (dd_u (dd_u J 148 (upd (I 148) 0 0)) 149 f) 148 (upd (upd (I 148) 0 0) 7 0) = N at *
        have fN : ∀ k, k ≠ 31 → k ≠ 148 → k ≠ 149 → (k < 1 ∨ (9 ≤ k ∧ k < 25) ∨ 27 ≤ k) → N k = I k := fun k k0 k1 k2 hk => by rw [fk k k1 k2, fc k k0 hk]
        refine ⟨gW, ?_, ?_, ?_, ⟨?_, ?_, ?_⟩, ⟨by omega, a2, f87, ?_, ?_, ?_⟩, ⟨t1, t2, ?_, ?_, ?_⟩, ⟨?_, ?_⟩, ?_⟩
        · intro j hj
          rw [f49]
          exact ff j hj
        · exact rI.of (fun j _ _ => fk j (by omega) (by omega)) rfl
        · refine kI.of ?_ ?_ (fk 26 (by omega) (by omega))
          · rw [fk 25 (by omega) (by omega)]
          · rw [fk 25 (by omega) (by omega)]
        · rw [f8 6 (by omega) (by omega)]; exact i1
        · rw [fN 0 (by omega) (by omega) (by omega) (by omega)]; exact i2
        · intro wj hw
          cases hw
          refine ⟨gW, fun j hj => by rw [fN 150 (by omega) (by omega) (by omega) (by omega)]; exact mW j hj, rW.of (fun j _ _ => fN j (by omega) (by omega) (by omega) (by omega)) (l1 17 (by omega)), ?_⟩
          unfold RLk at kW ⊢
          rw [fN 29 (by omega) (by omega) (by omega) (by omega), fN (29 + 1) (by omega) (by omega) (by omega) (by omega)]
          exact kW
        · rw [fk 31 (by omega) (by omega)]; exact fc2
        · rw [fk 31 (by omega) (by omega), fc1]; exact a5
        · intro i hi
          exact absurd hi (Nat.not_lt_zero i)
        · rw [f8 9 (by omega) (by omega)]; exact t3
        · rw [fN 0 (by omega) (by omega) (by omega) (by omega)]; exact t4
        · intro j hj
          rw [fN 129 (by omega) (by omega) (by omega) (by omega), fN 154 (by omega) (by omega) (by omega) (by omega)]
          exact t5 j hj
        · rw [f8 14 (by omega) (by omega)]; exact q1
        · rw [fN 0 (by omega) (by omega) (by omega) (by omega)]; exact q2
        · intro k hk
          rw [fN k (by omega) (by omega) (by omega) (by omega)]
          exact h9 k hk
      · intro i hi ih f ff
        refine w_X11_back_16 (by omega) ?_
        have et2 : tn (nI i) = i := nI_clamp (by omega)
        have e150 : dd_u (dd_u J 148 (upd (I 148) 0 0)) 149 f 150 = I 150 := by
          rw [dd_un (by decide), dd_un (by decide), fc 150 (by omega) (by omega)]
        rw [et2, e150, mW i hi, dd_us, dd_u_u, nI_1, li_1371, nI_leI (by omega) (by omega)]
        refine ⟨fun z => absurd z (by omega), fun _ => ⟨⟨nI_pos' (by omega), by omega⟩, ⟨nI_pos' (by omega), by omega⟩, ?_⟩⟩
        refine ih _ (fun j hj => ?_)
        by_cases q : j = i
        · subst q; rw [pk_us]
        · rw [pk_un (by omega)]; exact ff j (by omega)
    have := key (J 149) (fun j hj => absurd hj (Nat.not_lt_zero j))
    have e : dd_u (dd_u J 148 (upd (I 148) 0 0)) 149 (J 149) = dd_u J 148 (upd (I 148) 0 0) := by
      have e2 : J 149 = dd_u J 148 (upd (I 148) 0 0) 149 := (dd_un (by decide)).symm
      rw [e2, dd_u_id]
    rw [e] at this
    exact this
