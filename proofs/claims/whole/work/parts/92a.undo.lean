/-! undo, image, back -/
theorem wgA_cong {C D : Nat → Int32} {F : Nat → Nat} {sil fer : Bool} {n : Nat} (h : ∀ i, i < n → D i = C i) : wgA D F sil fer n = wgA C F sil fer n := by
  unfold wgA
  exact lpf_cong (fun i x hi => by rw [h i hi])
theorem C_cpL {d Ln c s : Nat} {I : Nat → Nat → Int32} {L : Nat → Nat → Int64} {K : (Nat → Nat → Int32) → (Nat → Nat → Int64) → Prop} {w : Nat → Nat} {k f : Nat} (hd : 28 ≤ d) (hk : (k = 29 ∧ f = 25) ∨ (k = 25 ∧ f = 29)) (h : RLk w I f) (kk : ∀ I', RLk w I' k → (∀ j, j ≠ k → j ≠ k + 1 → I' j = I j) → K I' L) : dd_Ev d m_X2_copyFrom [.ref k, .ref f] (sM Ln I L c s) (dd_RV Ln c s K) := by
  refine w_X2_copyFrom_0 hd (by omega) ?_
  rw [dd_u_u]
  obtain ⟨h1, n, hn, h2, h3⟩ := h
  refine dd_qV (kk _ ⟨?_, n, hn, ?_, fun F sil fer hF => ?_⟩ (fun j j1 j2 => by rw [dd_un j1, dd_un j2]))
  · rw [dd_us, pk_us]; exact h1
  · rw [dd_us, pk_un (by decide), pk_us]; exact h2
  · rw [dd_un (show k + 1 ≠ k by omega), dd_us]
    have e : ∀ i, i < n → va_cpy (I (f + 1)) (I (k + 1)) 0 0 400 i = I (f + 1) i := fun i hi => by
      rw [pk_cpy_in (by omega) (by omega), Nat.sub_zero, Nat.zero_add]
    rw [wgA_cong e]
    exact h3 F sil fer hF
theorem C_takeBack {d Ln c s : Nat} {I : Nat → Nat → Int32} {L : Nat → Nat → Int64} {K : Int32 → (Nat → Nat → Int32) → (Nat → Nat → Int64) → Prop} {na od : Nat} {A : Nat → Nat → Nat} (hd : 29 ≤ d) (hn : na < 12) (ho : od < 12) (hg : GOOD (A na)) (ha : acC (na + 1) od A I L) (kk : ∀ I' L', RC (A na) I' L' → acC na od A I' L' → (∀ k, k ≠ 31 → (k < 1 ∨ 9 ≤ k) → I' k = I k) → (∀ k, k ≠ 1 → L' k = L k) → K 1 I' L') : dd_Ev d m_X0_takeBack [.ref 31, .ref 1] (sM Ln I L c s) (dd_RI Ln c s K) := by
  obtain ⟨a2, a1, a3⟩ := ha
  have h9 := hg.1.1.2.2.2.2.2.2.2.2.1
  have key : ∀ t, (od + na) % 12 = t → dd_Ev (d - 1) m_X8_copyFrom [.ref 1, .ref (33 + 8 * t)] (sM Ln (dd_u I 31 (upd (I 31) 2 (nI na))) L c s) (dd_RV Ln c s (fun I1 L1 => dd_RI Ln c s K (none, .int 1, sM Ln I1 L1 c s))) := by
    intro t ht
    have t12 : t < 12 := by omega
    have r := a3 na (by omega)
    rw [ht] at r
    refine C_copyFrom (w := A na) (by omega) (Or.inl ⟨rfl, Or.inr (Or.inr ⟨t, t12, rfl⟩)⟩) (r.of (fun j _ _ => dd_un (by omega)) rfl) h9 fun I1 L1 r1 f1 l1 => ?_
    have e31 : I1 31 = upd (I 31) 2 (nI na) := by rw [f1 31 (by omega), dd_us]
    refine dd_qi (kk I1 L1 r1 ⟨?_, ?_, fun i hi => ?_⟩ (fun k k31 hk => ?_) l1)
    · rw [e31, pk_us]
    · rw [e31, pk_un (by decide)]; exact a1
    · exact (a3 i (by omega)).of (fun j _ _ => by rw [f1 j (by omega), dd_un (by omega)]) (l1 _ (by omega))
    · rw [f1 k (by omega), dd_un k31]
  refine w_X0_takeBack_0 (by omega) ?_
  have e0 : nI (na + 1) - 1 = nI na := by rw [li_1, pk_sub (by omega), show na + 1 - 1 = na by omega]
  have e : nI od + nI na - (nI od + nI na) / 12 * 12 = nI ((od + na) % 12) := by
    rw [nI_add, li_12, pk_rem (by omega) (by omega) (by omega)]
  have et : tn (nI ((od + na) % 12)) = (od + na) % 12 := nI_clamp (by omega)
  rw [a1, a2, e0, e, et]
  refine ⟨fun z => absurd z (nI_ne0 (by omega) (by omega)), fun _ => ⟨⟨nI_pos' (by omega), by omega⟩, key 0, key 1, key 2, key 3, key 4, key 5, key 6, key 7, key 8, key 9, key 10, key 11⟩⟩
theorem A_undo {d Ln c s : Nat} {I0 I : Nat → Nat → Int32} {L : Nat → Nat → Int64} {w : Nat → Nat} {im : Option (Nat → Nat)} {na od : Nat} {A : Nat → Nat → Nat} {tp : Nat → Nat} {tl : Nat} {fa : Option Nat} (hd : 60 ≤ d) (h : INV I0 w im na od A tp tl fa I L) : PIw d m_X10_undo [.ref 0] m_X11_undo [.ref 148] I0 Ln c s I L := by
  obtain ⟨h1, h2, h3, h4, ⟨i1, i2, i3⟩, ⟨a1, a2, a3, a4, a5, a6⟩, ⟨t1, t2, t3, t4, t5⟩, ⟨q1, q2⟩, h9⟩ := h
  have h : INV I0 w im na od A tp tl fa I L := ⟨h1, h2, h3, h4, ⟨i1, i2, i3⟩, ⟨a1, a2, a3, a4, a5, a6⟩, ⟨t1, t2, t3, t4, t5⟩, ⟨q1, q2⟩, h9⟩
  match na, a1, a3, a4, a6, h with
  | 0, a1, a3, a4, a6, h =>
    refine PIw.q h 0 ?_ ?_
    · intro K g
      refine w_X10_undo_0 (by omega) ?_
      refine w_X0_takeBack_0 (by omega) ?_
      rw [a4]
      exact ⟨fun _ => dd_qi ⟨Or.inl rfl, dd_qi (g I L (FC.refl I L))⟩, fun z => absurd rfl z⟩
    · intro I1 L1 h1 K g
      refine w_X11_undo_0 (by omega) ?_
      rw [h1.2.2.2.2.2.1.2.2.1]
      exact ⟨fun _ => mqR h1.2.1 rfl g, fun z => absurd rfl z⟩
  | na + 1, a1, a3, a4, a6, h =>
    intro G g
    obtain ⟨gA, sA, mA, _⟩ := a6 na (by omega)
    refine w_X10_undo_0 (by omega) ?_
    refine C_takeBack (A := A) (by omega) (by omega) a2 gA ⟨a4, a5, fun i hi => (a6 i hi).2.2.2⟩ fun I1 L1 r1 c1 f1 l1 => ?_
    refine ⟨Or.inr rfl, dd_qi ⟨fun k hk => by rw [f1 k (by omega) (by omega)]; exact h9 k hk, ?_⟩⟩
    refine w_X11_undo_0 (by omega) ?_
    have e148 : I1 148 = I 148 := f1 148 (by omega) (by omega)
    rw [e148, a3]
    refine ⟨fun z => absurd z (nI_ne0 (by omega) (by omega)), fun _ => ?_⟩
    have e0 : nI (na + 1) - 1 = nI na := by rw [li_1, pk_sub (by omega), show na + 1 - 1 = na by omega]
    rw [e0, dd_u_u]
    have key : ∀ f, (∀ j, j < 0 → f j = nI (A na j)) → (∀ j, 0 ≤ j → j < 1371 → f j = nI (w j)) → dd_Rn d m_X11_undo (26, [.ref 148, .int (nI 0)], [], sM Ln (dd_u (dd_u I1 148 (upd (upd (I 148) 0 0) 7 (nI na))) 149 f) L1 c s) (dd_RI Ln c s (fun x2 I2 L2 => G 1 x2 I2 L2)) := by
      refine dd_lp (fun i => ∀ f, (∀ j, j < i → f j = nI (A na j)) → (∀ j, i ≤ j → j < 1371 → f j = nI (w j)) → dd_Rn d m_X11_undo (26, [.ref 148, .int (nI i)], [], sM Ln (dd_u (dd_u I1 148 (upd (upd (I 148) 0 0) 7 (nI na))) 149 f) L1 c s) (dd_RI Ln c s (fun x2 I2 L2 => G 1 x2 I2 L2))) 522 ?_ ?_
      · intro f f1' f2'
        refine w_X11_undo_26 (by omega) ?_
        rw [li_522, nI_leI (by omega) (by omega)]
        refine ⟨fun _ => dd_qi (g 1 _ L1 ⟨A na, im, na, od, A, tp, tl, fa, ?_⟩), fun z => absurd (Nat.le_refl _) z⟩
        have fk : ∀ k, k ≠ 31 → k ≠ 148 → k ≠ 149 → (k < 1 ∨ 9 ≤ k) → dd_u (dd_u I1 148 (upd (upd (I 148) 0 0) 7 (nI na))) 149 f k = I k := by
          intro k k1 k2 k3 hk
          rw [dd_un k3, dd_un k2]
          exact f1 k k1 hk
        have f8 : ∀ j, j ≠ 0 → j ≠ 7 → dd_u (dd_u I1 148 (upd (upd (I 148) 0 0) 7 (nI na))) 149 f 148 j = I 148 j := by
          intro j j0 j7
          rw [dd_un (by decide), dd_us, pk_un j7, pk_un j0]
        have f87 : dd_u (dd_u I1 148 (upd (upd (I 148) 0 0) 7 (nI na))) 149 f 148 7 = nI na := by
          rw [dd_un (by decide), dd_us, pk_us]
        have f31 : dd_u (dd_u I1 148 (upd (upd (I 148) 0 0) 7 (nI na))) 149 f 31 = I1 31 := by
          rw [dd_un (by decide), dd_un (by decide)]
        refine ⟨gA, ?_, ?_, ?_, ⟨?_, ?_, ?_⟩, ⟨by omega, a2, f87, ?_, ?_, ?_⟩, ⟨t1, t2, ?_, ?_, ?_⟩, ⟨?_, ?_⟩, ?_⟩
        · intro j hj
          rw [dd_us]
          by_cases z : j < 522
          · exact f1' j z
          · rw [f2' j (by omega) hj, sA.2 j (by omega)]
        · exact r1.of (fun j _ _ => by rw [dd_un (by omega), dd_un (by omega)]) rfl
        · refine (h4.of ?_ ?_ (fk 26 (by omega) (by omega) (by omega) (by omega))).cong sA
          · rw [fk 25 (by omega) (by omega) (by omega) (by omega)]
          · rw [fk 25 (by omega) (by omega) (by omega) (by omega)]
        · rw [f8 6 (by omega) (by omega)]; exact i1
        · rw [fk 0 (by omega) (by omega) (by omega) (by omega)]; exact i2
        · intro wi hw
          obtain ⟨j1, j2, j3, j4⟩ := i3 wi hw
          refine ⟨j1, fun j hj => by rw [fk 150 (by omega) (by omega) (by omega) (by omega)]; exact j2 j hj, j3.of (fun j _ _ => fk j (by omega) (by omega) (by omega) (by omega)) (l1 17 (by omega)), ?_⟩
          unfold RLk
          rw [fk 29 (by omega) (by omega) (by omega) (by omega), fk (29 + 1) (by omega) (by omega) (by omega) (by omega)]
          exact j4
        · rw [f31]; exact c1.1
        · rw [f31]; exact c1.2.1
        · intro i hi
          obtain ⟨j1, j2, j3, j4⟩ := a6 i (by omega)
          refine ⟨j1, sA.symm.trans j2, fun j hj => by rw [fk 153 (by omega) (by omega) (by omega) (by omega)]; exact j3 j hj, ?_⟩
          exact (c1.2.2 i hi).of (fun j _ _ => by rw [dd_un (by omega), dd_un (by omega)]) rfl
        · rw [f8 9 (by omega) (by omega)]; exact t3
        · rw [fk 0 (by omega) (by omega) (by omega) (by omega)]; exact t4
        · intro j hj
          rw [fk 129 (by omega) (by omega) (by omega) (by omega), fk 154 (by omega) (by omega) (by omega) (by omega)]
          exact t5 j hj
        · rw [f8 14 (by omega) (by omega)]; exact q1
        · rw [fk 0 (by omega) (by omega) (by omega) (by omega)]; exact q2
        · intro k hk
          rw [fk k (by omega) (by omega) (by omega) (by omega)]
          exact h9 k hk
      · intro i hi ih f f1' f2'
        refine w_X11_undo_26 (by omega) ?_
        have e7 : dd_u (dd_u I1 148 (upd (upd (I 148) 0 0) 7 (nI na))) 149 f 148 7 = nI na := by rw [dd_un (by decide), dd_us, pk_us]
        have ei : (522 : Int32) * nI na + nI i = nI (522 * na + i) := by rw [li_522, pk_mul, nI_add]
        have et : tn (nI (522 * na + i)) = 522 * na + i := nI_clamp (by omega)
        have et2 : tn (nI i) = i := nI_clamp (by omega)
        have e153 : dd_u (dd_u I1 148 (upd (upd (I 148) 0 0) 7 (nI na))) 149 f 153 = I 153 := by
          rw [dd_un (by decide), dd_un (by decide)]
          exact f1 153 (by omega) (by omega)
        rw [e7, ei, et, et2, e153, mA i hi, dd_us, dd_u_u, nI_1, li_522, nI_leI (by omega) (by omega)]
        refine ⟨fun z => absurd z (by omega), fun _ => ⟨⟨nI_pos' (by omega), by omega⟩, ⟨nI_pos' (by omega), by omega⟩, ?_⟩⟩
        refine ih _ (fun j hj => ?_) (fun j hj hj2 => ?_)
        · by_cases q : j = i
          · subst q; rw [pk_us]
          · rw [pk_un (by omega)]; exact f1' j (by omega)
        · rw [pk_un (by omega)]; exact f2' j (by omega) hj2
    have := key (I1 149) (fun j hj => absurd hj (Nat.not_lt_zero j)) (fun j _ hj => by rw [f1 149 (by omega) (by omega)]; exact h2 j hj)
    have e : dd_u (dd_u I1 148 (upd (upd (I 148) 0 0) 7 (nI na))) 149 (I1 149) = dd_u I1 148 (upd (upd (I 148) 0 0) 7 (nI na)) := by
      have e2 : I1 149 = dd_u I1 148 (upd (upd (I 148) 0 0) 7 (nI na)) 149 := (dd_un (by decide)).symm
      rw [e2, dd_u_id]
    rw [e] at this
    exact this
