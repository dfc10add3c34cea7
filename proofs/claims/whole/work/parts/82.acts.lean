/-! Acts remembered: the model -/
def acM (na : Nat) (A : Nat → Nat → Nat) (I : Nat → Nat → Int32) : Prop := I 148 7 = nI na ∧ ∀ i, i < na → ∀ j, j < 522 → I 153 (522 * i + j) = nI (A i j)
theorem M_rem55 {d Ln c s : Nat} {I : Nat → Nat → Int32} {L : Nat → Nat → Int64} {K : (Nat → Nat → Int32) → (Nat → Nat → Int64) → Prop} {w : Nat → Nat} {n : Nat} (hd : 28 ≤ d) (hR : RM w I) (h1 : 1 ≤ n) (h2 : n ≤ 12) (h7 : I 148 7 = nI n) (kk : ∀ f, (∀ j, j < 522 → f (522 * (n - 1) + j) = nI (w j)) → (∀ j, j < 522 * (n - 1) → f j = I 153 j) → K (dd_u I 153 f) L) : dd_Rn d m_X11_remembers (55, [.ref 148, .int (nI 0)], [], sM Ln I L c s) (dd_RV Ln c s K) := by
  have key : ∀ f, (∀ j, j < 0 → f (522 * (n - 1) + j) = nI (w j)) → (∀ j, j < 522 * (n - 1) → f j = I 153 j) → dd_Rn d m_X11_remembers (55, [.ref 148, .int (nI 0)], [], sM Ln (dd_u I 153 f) L c s) (dd_RV Ln c s K) := by
    refine dd_lp (fun t => ∀ f, (∀ j, j < t → f (522 * (n - 1) + j) = nI (w j)) → (∀ j, j < 522 * (n - 1) → f j = I 153 j) → dd_Rn d m_X11_remembers (55, [.ref 148, .int (nI t)], [], sM Ln (dd_u I 153 f) L c s) (dd_RV Ln c s K)) 522 ?_ ?_
    · intro f f1 f2
      refine w_X11_remembers_55 hd ?_
      rw [li_522, nI_leI (by omega) (by omega)]
      exact ⟨fun _ => dd_qV (kk f f1 f2), fun z => absurd (Nat.le_refl _) z⟩
    · intro t ht ih f f1 f2
      refine w_X11_remembers_55 hd ?_
      have e7 : dd_u I 153 f 148 7 = nI n := by rw [dd_un (by decide)]; exact h7
      have ei : (522 : Int32) * (nI n - 1) + nI t = nI (522 * (n - 1) + t) := by
        rw [li_522, li_1, pk_sub (by omega), pk_mul, nI_add]
      have et : tn (nI (522 * (n - 1) + t)) = 522 * (n - 1) + t := nI_clamp (by omega)
      have et2 : tn (nI t) = t := nI_clamp (by omega)
      rw [e7, ei, et, et2, dd_un (show (149 : Nat) ≠ 153 by decide), hR.g (by omega), dd_us, dd_u_u, nI_1, li_522, nI_leI (by omega) (by omega)]
      refine ⟨fun z => absurd z (by omega), fun _ => ⟨⟨nI_pos' (by omega), by omega⟩, ⟨nI_pos' (by omega), by omega⟩, ?_⟩⟩
      refine ih _ (fun j hj => ?_) (fun j hj => ?_)
      · by_cases q : j = t
        · subst q; rw [pk_us]
        · rw [pk_un (by omega)]; exact f1 j (by omega)
      · rw [pk_un (by omega)]; exact f2 j hj
  have := key (I 153) (fun j hj => absurd hj (Nat.not_lt_zero j)) (fun _ _ => rfl)
  rw [dd_u_id] at this
  exact this
theorem M_remembers {d Ln c s : Nat} {I : Nat → Nat → Int32} {L : Nat → Nat → Int64} {K : (Nat → Nat → Int32) → (Nat → Nat → Int64) → Prop} {w : Nat → Nat} {na : Nat} {A : Nat → Nat → Nat} (hd : 28 ≤ d) (hR : RM w I) (hn : na ≤ 12) (ha : acM na A I) (kk : ∀ I', RM w I' → acM (acN na) (acA na A w) I' → FR 148 [153] [7] I I' → K I' L) : dd_Ev d m_X11_remembers [.ref 148] (sM Ln I L c s) (dd_RV Ln c s K) := by
  obtain ⟨a7, a3⟩ := ha
  refine w_X11_remembers_0 hd ?_
  rw [a7, li_12, nI_eq (by omega) (by omega), nI_1]
  refine ⟨fun q => ?_, fun q => ?_⟩
  · subst q
    have key : ∀ f, (∀ j, j < 0 → f j = I 153 (j + 522)) → (∀ j, 0 ≤ j → f j = I 153 j) → dd_Rn d m_X11_remembers (11, [.ref 148, .int (nI 0)], [], sM Ln (dd_u I 153 f) L c s) (dd_RV Ln c s K) := by
      refine dd_lp (fun t => ∀ f, (∀ j, j < t → f j = I 153 (j + 522)) → (∀ j, t ≤ j → f j = I 153 j) → dd_Rn d m_X11_remembers (11, [.ref 148, .int (nI t)], [], sM Ln (dd_u I 153 f) L c s) (dd_RV Ln c s K)) 5742 ?_ ?_
      · intro f f1 f2
        refine w_X11_remembers_11 hd ?_
        rw [li_5742, nI_leI (by omega) (by omega)]
        refine ⟨fun _ => ?_, fun z => absurd (Nat.le_refl _) z⟩
        refine M_rem55 (w := w) (n := 12) hd (hR.of (dd_un (by decide))) (by omega) (by omega) (by rw [dd_un (by decide)]; exact a7) fun g g1 g2 => ?_
        rw [dd_u_u]
        refine kk _ (hR.of (dd_un (by decide))) ⟨by rw [dd_un (by decide)]; exact a7, fun i hi j hj => ?_⟩ ((FR.refl I).u (by decide) (by decide))
        have en : acN 12 = 12 := rfl
        rw [en] at hi
        rw [dd_us]
        by_cases z : i = 11
        · subst z
          have e : acA 12 A w 11 = w := by unfold acA; rw [en]; exact if_pos rfl
          rw [e]
          exact g1 j hj
        · have e : acA 12 A w i = A (i + 1) := by unfold acA; rw [en, if_neg (by omega), if_pos rfl]
          rw [e, g2 _ (by omega), dd_us, f1 _ (by omega), ← a3 (i + 1) (by omega) j hj]
          congr 1
          omega
      · intro t ht ih f f1 f2
        refine w_X11_remembers_11 hd ?_
        have ei : nI t + 522 = nI (t + 522) := by rw [li_522, nI_add]
        have et : tn (nI (t + 522)) = t + 522 := nI_clamp (by omega)
        have et2 : tn (nI t) = t := nI_clamp (by omega)
        rw [ei, et, et2, dd_us, dd_u_u, nI_1, li_5742, nI_leI (by omega) (by omega), f2 (t + 522) (by omega)]
        refine ⟨fun z => absurd z (by omega), fun _ => ⟨⟨nI_pos' (by omega), by omega⟩, ⟨nI_pos' (by omega), by omega⟩, ?_⟩⟩
        refine ih _ (fun j hj => ?_) (fun j hj => ?_)
        · by_cases z : j = t
          · subst z; rw [pk_us]
          · rw [pk_un z]; exact f1 j (by omega)
        · rw [pk_un (by omega)]; exact f2 j (by omega)
    have := key (I 153) (fun j hj => absurd hj (Nat.not_lt_zero j)) (fun _ _ => rfl)
    rw [dd_u_id] at this
    exact this
  · have en : acN na = na + 1 := by unfold acN; rw [if_neg q]
    refine M_rem55 (w := w) (n := na + 1) hd (hR.of (dd_un (by decide))) (by omega) (by omega) (by rw [dd_us, pk_us]) fun g g1 g2 => ?_
    refine kk _ (hR.of (by rw [dd_un (by decide), dd_un (by decide)])) ⟨?_, fun i hi j hj => ?_⟩ (((FR.refl I).v (by decide)).u (by decide) (by decide))
    · rw [dd_un (by decide), dd_us, pk_us, en]
    · rw [en] at hi
      rw [dd_us]
      by_cases z : i = na
      · subst z
        have e : acA i A w i = w := by unfold acA; rw [en, if_pos rfl]
        rw [e]
        exact g1 j hj
      · have e : acA na A w i = A i := by unfold acA; rw [en, if_neg (by omega), if_neg q]
        rw [e, g2 _ (by omega), dd_un (by decide)]
        exact a3 i (by omega) j hj
