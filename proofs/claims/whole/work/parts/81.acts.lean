/-! Acts remembered: the class -/
def acC (na od : Nat) (A : Nat → Nat → Nat) (I : Nat → Nat → Int32) (L : Nat → Nat → Int64) : Prop := I 31 2 = nI na ∧ I 31 1 = nI od ∧ ∀ i, i < na → RW (A i) I L (33 + 8 * ((od + i) % 12))
/-- one act more -/
def acN (na : Nat) : Nat := if na = 12 then 12 else na + 1
def acO (na od : Nat) : Nat := if na = 12 then (od + 1) % 12 else od
def acA (na : Nat) (A : Nat → Nat → Nat) (w : Nat → Nat) : Nat → Nat → Nat := fun i => if i + 1 = acN na then w else if na = 12 then A (i + 1) else A i
theorem C_rem32 {d Ln c s : Nat} {I : Nat → Nat → Int32} {L : Nat → Nat → Int64} {K : (Nat → Nat → Int32) → (Nat → Nat → Int64) → Prop} {w : Nat → Nat} {m o : Nat} {B : Nat → Nat → Nat} (hd : 29 ≤ d) (hC : RC w I L) (h9 : w 9 ≤ 60) (hm : m < 12) (ho : o < 12) (h2 : I 31 2 = nI m) (h1 : I 31 1 = nI o) (hB : ∀ i, i < m → RW (B i) I L (33 + 8 * ((o + i) % 12))) (kk : ∀ I' L', acC (m + 1) o (fun i => if i = m then w else B i) I' L' → RC w I' L' → (∀ k, k ≠ 31 → (k < 33 ∨ 129 ≤ k) → I' k = I k) → (∀ k, k < 33 ∨ 129 ≤ k → L' k = L k) → K I' L') : dd_Rn d m_X0_remember (32, [.ref 31, .ref 1], [], sM Ln I L c s) (dd_RV Ln c s K) := by
  have key : ∀ t, (o + m) % 12 = t → dd_Ev (d - 1) m_X8_copyFrom [.ref (33 + 8 * t), .ref 1] (sM Ln I L c s) (dd_RV Ln c s (fun I1 L1 => dd_RV Ln c s K (none, .null, sM Ln (dd_u I1 31 (upd (I1 31) 2 ((I1 31 2) + 1))) L1 c s))) := by
    intro t ht
    have t12 : t < 12 := by omega
    refine C_copyFrom (w := w) (by omega) (Or.inr ⟨rfl, Or.inr (Or.inr ⟨t, t12, rfl⟩)⟩) hC h9 fun I1 L1 r1 f1 l1 => ?_
    have e31 : I1 31 = I 31 := f1 31 (by omega)
    rw [e31, h2, nI_1]
    refine dd_qV (kk _ L1 ⟨?_, ?_, ?_⟩ ?_ ?_ ?_)
    · rw [dd_us, pk_us]
    · rw [dd_us, pk_un (by decide)]; exact h1
    · intro i hi
      by_cases q : i = m
      · simp only [if_pos q]
        have e : 33 + 8 * ((o + i) % 12) = 33 + 8 * t := by rw [q, ht]
        rw [e]
        exact r1.of (fun j _ _ => dd_un (by omega)) rfl
      · simp only [if_neg q]
        have hi' : i < m := by omega
        have ne : (o + i) % 12 ≠ t := by omega
        exact (hB i hi').of (fun j _ _ => by rw [dd_un (by omega)]; exact f1 j (by omega)) (l1 _ (by omega))
    · exact hC.of (fun j _ _ => by rw [dd_un (by omega)]; exact f1 j (by omega)) (l1 1 (by omega))
    · intro k k31 hk
      rw [dd_un k31]
      exact f1 k (by omega)
    · intro k hk
      exact l1 k (by omega)
  refine w_X0_remember_32 (by omega) ?_
  have e : I 31 1 + I 31 2 - (I 31 1 + I 31 2) / 12 * 12 = nI ((o + m) % 12) := by
    rw [h1, h2, nI_add, li_12, pk_rem (by omega) (by omega) (by omega)]
  have et : tn (nI ((o + m) % 12)) = (o + m) % 12 := nI_clamp (by omega)
  rw [e, et]
  exact ⟨⟨nI_pos' (by omega), by omega⟩, key 0, key 1, key 2, key 3, key 4, key 5, key 6, key 7, key 8, key 9, key 10, key 11⟩
theorem C_remember {d Ln c s : Nat} {I : Nat → Nat → Int32} {L : Nat → Nat → Int64} {K : (Nat → Nat → Int32) → (Nat → Nat → Int64) → Prop} {w : Nat → Nat} {na od : Nat} {A : Nat → Nat → Nat} (hd : 29 ≤ d) (hC : RC w I L) (h9 : w 9 ≤ 60) (hn : na ≤ 12) (ho : od < 12) (ha : acC na od A I L) (kk : ∀ I' L', acC (acN na) (acO na od) (acA na A w) I' L' → RC w I' L' → (∀ k, k ≠ 31 → (k < 33 ∨ 129 ≤ k) → I' k = I k) → (∀ k, k < 33 ∨ 129 ≤ k → L' k = L k) → K I' L') : dd_Ev d m_X0_remember [.ref 31, .ref 1] (sM Ln I L c s) (dd_RV Ln c s K) := by
  obtain ⟨a2, a1, a3⟩ := ha
  refine w_X0_remember_0 (by omega) ?_
  rw [a2, a1, li_12, nI_eq (by omega) (by omega)]
  refine ⟨fun q => ?_, fun q => ?_⟩
  · subst q
    have e1 : nI od + 1 - (nI od + 1) / nI 12 * nI 12 = nI ((od + 1) % 12) := by
      rw [nI_1, pk_rem (by omega) (by omega) (by omega)]
    have e2 : nI 12 - 1 = nI 11 := by decide
    rw [e1, e2, dd_u_u]
    refine C_rem32 (w := w) (m := 11) (o := (od + 1) % 12) (B := fun i => A (i + 1)) hd ?_ h9 (by omega) (by omega) (by rw [dd_us, pk_us]) (by rw [dd_us, pk_un (by decide), pk_us]) ?_ ?_
    · exact hC.of (fun j _ _ => dd_un (by omega)) rfl
    · intro i hi
      have e : 33 + 8 * (((od + 1) % 12 + i) % 12) = 33 + 8 * ((od + (i + 1)) % 12) := by omega
      rw [e]
      exact (a3 (i + 1) (by omega)).of (fun j _ _ => dd_un (by omega)) rfl
    · intro I' L' c1 c2 c3 c4
      refine kk I' L' ?_ c2 (fun k k31 hk => by rw [c3 k k31 hk, dd_un k31]) c4
      obtain ⟨x1, x2, x3⟩ := c1
      refine ⟨x1, x2, fun i hi => ?_⟩
      have := x3 i hi
      have e : acA 12 A w i = if i = 11 then w else A (i + 1) := by
        unfold acA acN
        rw [if_pos rfl]
        by_cases z : i = 11
        · rw [if_pos (by omega), if_pos z]
        · rw [if_neg (by omega), if_pos rfl, if_neg z]
      rw [e]
      exact this
  · refine C_rem32 (w := w) (m := na) (o := od) (B := A) hd hC h9 (by omega) ho a2 a1 a3 ?_
    intro I' L' c1 c2 c3 c4
    refine kk I' L' ?_ c2 c3 c4
    obtain ⟨x1, x2, x3⟩ := c1
    have en : acN na = na + 1 := by unfold acN; rw [if_neg q]
    have eo : acO na od = od := by unfold acO; rw [if_neg q]
    rw [en, eo]
    refine ⟨x1, x2, fun i hi => ?_⟩
    have := x3 i hi
    have e : acA na A w i = if i = na then w else A i := by
      unfold acA
      rw [en]
      by_cases z : i = na
      · rw [if_pos (by omega), if_pos z]
      · rw [if_neg (by omega), if_neg q, if_neg z]
    rw [e]
    exact this
