/-! An act: the invariant anew; loud -/
theorem INV.act {I0 : Nat → Nat → Int32} {w w' : Nat → Nat} {im : Option (Nat → Nat)} {na od : Nat} {A : Nat → Nat → Nat} {tp : Nat → Nat} {tl : Nat} {fa : Option Nat} {I I' : Nat → Nat → Int32} {L L' : Nat → Nat → Int64} (h : INV I0 w im na od A tp tl fa I L) (g : GOOD w') (r : RM w' I') (rc : RC w' I' L') (sl : sameL w w') (hc : acC (acN na) (acO na od) (acA na A w) I' L') (hm : acM (acN na) (acA na A w) I') (f : ∀ k, ((17 ≤ k ∧ k < 25) ∨ k = 0 ∨ k = 26 ∨ k = 29 ∨ k = 30 ∨ k = 129 ∨ k = 150 ∨ k = 154 ∨ 163 ≤ k) → I' k = I k) (f1 : I' 25 1 = I 25 1) (f2 : I' 25 2 = I 25 2) (f6 : I' 148 6 = I 148 6) (f9 : I' 148 9 = I 148 9) (f14 : I' 148 14 = I 148 14) (fL : L' 17 = L 17) : INV I0 w' im (acN na) (acO na od) (acA na A w) tp tl fa I' L' := by
  obtain ⟨h1, h2, h3, h4, ⟨i1, i2, i3⟩, ⟨a1, a2, a3, a4, a5, a6⟩, ⟨t1, t2, t3, t4, t5⟩, ⟨q1, q2⟩, h9⟩ := h
  have n12 : acN na ≤ 12 := by unfold acN; split <;> omega
  have o12 : acO na od < 12 := by unfold acO; split <;> omega
  refine ⟨g, r, rc, (h4.of f1 f2 (f 26 (by omega))).cong sl, ⟨?_, ?_, ?_⟩, ⟨n12, o12, hm.1, hc.1, hc.2.1, ?_⟩, ⟨t1, t2, ?_, ?_, ?_⟩, ⟨?_, ?_⟩, ?_⟩
  · rw [f6]; exact i1
  · rw [f 0 (by omega)]; exact i2
  · intro wi hw
    obtain ⟨j1, j2, j3, j4⟩ := i3 wi hw
    refine ⟨j1, fun j hj => by rw [f 150 (by omega)]; exact j2 j hj, j3.of (fun j _ _ => f j (by omega)) fL, ?_⟩
    unfold RLk
    rw [f 29 (by omega), f (29 + 1) (by omega)]
    exact j4
  · intro i hi
    have gs : GOOD (acA na A w i) ∧ sameL w' (acA na A w i) := by
      unfold acA
      split
      · exact ⟨h1, sl.symm⟩
      · rename_i z
        split
        · rename_i z2
          subst z2
          have : acN 12 = 12 := rfl
          obtain ⟨j1, j2, _, _⟩ := a6 (i + 1) (by omega)
          exact ⟨j1, sl.symm.trans j2⟩
        · rename_i z2
          have : acN na = na + 1 := by unfold acN; rw [if_neg z2]
          obtain ⟨j1, j2, _, _⟩ := a6 i (by omega)
          exact ⟨j1, sl.symm.trans j2⟩
    exact ⟨gs.1, gs.2, hm.2 i hi, hc.2.2 i hi⟩
  · rw [f9]; exact t3
  · rw [f 0 (by omega)]; exact t4
  · intro j hj
    rw [f 129 (by omega), f 154 (by omega)]
    exact t5 j hj
  · rw [f14]; exact q1
  · rw [f 0 (by omega)]; exact q2
  · intro k hk
    rw [f k (by omega)]
    exact h9 k hk
