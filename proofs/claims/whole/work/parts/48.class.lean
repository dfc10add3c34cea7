/-! The class: a wood copied -/
theorem C_copyFrom {d Ln c s : Nat} {I : Nat → Nat → Int32} {L : Nat → Nat → Int64} {K : (Nat → Nat → Int32) → (Nat → Nat → Int64) → Prop} {w : Nat → Nat} {k f : Nat} (hd : 28 ≤ d) (hk : (k = 1 ∧ (f = 9 ∨ f = 17 ∨ ∃ i, i < 12 ∧ f = 33 + 8 * i)) ∨ (f = 1 ∧ (k = 9 ∨ k = 17 ∨ ∃ i, i < 12 ∧ k = 33 + 8 * i))) (h : RW w I L f) (h9 : w 9 ≤ 60) (kk : ∀ I' L', RW w I' L' k → (∀ j, j < k ∨ k + 8 ≤ j → I' j = I j) → (∀ j, j ≠ k → L' j = L j) → K I' L') : dd_Ev d m_X8_copyFrom [.ref k, .ref f] (sM Ln I L c s) (dd_RV Ln c s K) := by
  have hd' : k + 8 ≤ f ∨ f + 8 ≤ k := by
    rcases hk with ⟨h1, h2 | h2 | ⟨i, _, h2⟩⟩ | ⟨h1, h2 | h2 | ⟨i, _, h2⟩⟩ <;> omega
  refine w_X8_copyFrom_0 hd ?_ ?_
  · rcases hk with ⟨h1, h2 | h2 | ⟨i, hi, h2⟩⟩ | ⟨h1, h2 | h2 | ⟨i, hi, h2⟩⟩
    · subst h1 h2; decide
    · subst h1 h2; decide
    · have : i = 0 ∨ i = 1 ∨ i = 2 ∨ i = 3 ∨ i = 4 ∨ i = 5 ∨ i = 6 ∨ i = 7 ∨ i = 8 ∨ i = 9 ∨ i = 10 ∨ i = 11 := by omega
      rcases this with e | e | e | e | e | e | e | e | e | e | e | e <;> subst e <;> subst h1 h2 <;> decide
    · subst h1 h2; decide
    · subst h1 h2; decide
    · have : i = 0 ∨ i = 1 ∨ i = 2 ∨ i = 3 ∨ i = 4 ∨ i = 5 ∨ i = 6 ∨ i = 7 ∨ i = 8 ∨ i = 9 ∨ i = 10 ∨ i = 11 := by omega
      rcases this with e | e | e | e | e | e | e | e | e | e | e | e <;> subst e <;> subst h1 h2 <;> decide
  · obtain ⟨h0, h1, h2, h3, h4, h5, h6, h7, h8, s0, s1, s2, s3, s4, s5, s6, s7, s8, s9⟩ := h
    simp only [dd_u_u]
    have a0 : k + 1 ≠ k := by omega
    have a1 : k + 2 ≠ k := by omega
    have a2 : k + 3 ≠ k := by omega
    have a3 : k + 4 ≠ k := by omega
    have a4 : k + 5 ≠ k := by omega
    have a5 : k + 6 ≠ k := by omega
    have a6 : k + 7 ≠ k := by omega
    refine dd_qV (kk _ _ ⟨?_, ?_, ?_, ?_, ?_, ?_, ?_, ?_, ?_, ?_, ?_, ?_, ?_, ?_, ?_, ?_, ?_, ?_, ?_⟩ ?_ ?_)
    · intro c hc
      rw [dd_us, pk_uLs]
      exact h0 c hc
    · intro c hc
      rw [dd_un a0, dd_un (show k + 1 ≠ k + 7 by omega), dd_un (show k + 1 ≠ k + 6 by omega), dd_un (show k + 1 ≠ k + 5 by omega), dd_un (show k + 1 ≠ k + 4 by omega), dd_un (show k + 1 ≠ k + 3 by omega), dd_un (show k + 1 ≠ k + 2 by omega), dd_us, pk_cpy_in (by omega) (by omega), Nat.sub_zero, Nat.zero_add]
      exact h1 c hc
    · intro c hc
      rw [dd_un a1, dd_un (show k + 2 ≠ k + 7 by omega), dd_un (show k + 2 ≠ k + 6 by omega), dd_un (show k + 2 ≠ k + 5 by omega), dd_un (show k + 2 ≠ k + 4 by omega), dd_un (show k + 2 ≠ k + 3 by omega), dd_us, pk_cpy_in (by omega) (by omega), Nat.sub_zero, Nat.zero_add]
      exact h2 c hc
    · intro c hc
      rw [dd_un a2, dd_un (show k + 3 ≠ k + 7 by omega), dd_un (show k + 3 ≠ k + 6 by omega), dd_un (show k + 3 ≠ k + 5 by omega), dd_un (show k + 3 ≠ k + 4 by omega), dd_us, pk_cpy_in (by omega) (by omega), Nat.sub_zero, Nat.zero_add]
      exact h3 c hc
    · intro c hc
      rw [dd_un a3, dd_un (show k + 4 ≠ k + 7 by omega), dd_un (show k + 4 ≠ k + 6 by omega), dd_un (show k + 4 ≠ k + 5 by omega), dd_us, pk_cpy_in (by omega) (by omega), Nat.sub_zero, Nat.zero_add]
      exact h4 c hc
    · intro c hc
      rw [dd_un a4, dd_un (show k + 5 ≠ k + 7 by omega), dd_un (show k + 5 ≠ k + 6 by omega), dd_us, pk_cpy_in (by omega) (by omega), Nat.sub_zero, Nat.zero_add]
      exact h5 c hc
    · intro c hc
      rw [dd_un a5, dd_un (show k + 6 ≠ k + 7 by omega), dd_us, pk_cpy_in (by omega) (by omega), Nat.sub_zero, Nat.zero_add]
      exact h6 c hc
    · intro i hi
      rw [dd_us]
      simp (disch := decide) only [pk_us, pk_un]
      exact h7 i hi
    · intro a ha
      rw [dd_un a6, dd_us, pk_cpy_in (by omega) (by omega), Nat.sub_zero, Nat.zero_add]
      exact h8 a ha
    · rw [dd_us]
      simp (disch := decide) only [pk_us, pk_un]
      exact s0
    · rw [dd_us]
      simp (disch := decide) only [pk_us, pk_un]
      exact s1
    · rw [dd_us]
      simp (disch := decide) only [pk_us, pk_un]
      exact s2
    · rw [dd_us]
      simp (disch := decide) only [pk_us, pk_un]
      exact s3
    · rw [dd_us]
      simp (disch := decide) only [pk_us, pk_un]
      exact s4
    · rw [dd_us]
      simp (disch := decide) only [pk_us, pk_un]
      exact s5
    · rw [dd_us]
      simp (disch := decide) only [pk_us, pk_un]
      exact s6
    · rw [dd_us]
      simp (disch := decide) only [pk_us, pk_un]
      exact s7
    · rw [dd_us]
      simp (disch := decide) only [pk_us, pk_un]
      exact s8
    · rw [dd_us]
      simp (disch := decide) only [pk_us, pk_un]
      exact s9
    · intro j hj
      rw [dd_un (by omega), dd_un (by omega), dd_un (by omega), dd_un (by omega), dd_un (by omega), dd_un (by omega), dd_un (by omega), dd_un (by omega)]
    · intro j hj
      exact dd_un hj
