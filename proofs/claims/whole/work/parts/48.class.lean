/-! The class: a wood copied -/
theorem C_copyFrom {d Ln c s : Nat} {I : Nat → Nat → Int32} {L : Nat → Nat → Int64} {K : (Nat → Nat → Int32) → (Nat → Nat → Int64) → Prop} {w : Nat → Nat} {k f : Nat} (hd : 28 ≤ d) (hk : (k = 1 ∧ (f = 9 ∨ f = 17 ∨ ∃ i, i < 12 ∧ f = 33 + 8 * i)) ∨ (f = 1 ∧ (k = 9 ∨ k = 17 ∨ ∃ i, i < 12 ∧ k = 33 + 8 * i))) (h : RW w I L f) (h9 : w 9 ≤ 60) (kk : ∀ I' L', RW w I' L' k → (∀ j, j < k ∨ k + 8 ≤ j → I' j = I j) → (∀ j, j ≠ k → L' j = L j) → K I' L') : dd_Ev d m_X8_copyFrom [.ref k, .ref f] (sM Ln I L c s) (dd_RV Ln c s K) := by
  have hd' : k + 8 ≤ f ∨ f + 8 ≤ k := by
    rcases hk with ⟨h1, h2 | h2 | ⟨i, _, h2⟩⟩ | ⟨h1, h2 | h2 | ⟨i, _, h2⟩⟩ <;> omega
  refine w_X8_copyFrom_0 hd ?_ ?_
  · rcases hk with ⟨h1, h2 | h2 | ⟨i, hi, h2⟩⟩ | ⟨h1, h2 | h2 | ⟨i, hi, h2⟩⟩
    · omega
    · omega
    · have : i = 0 ∨ i = 1 ∨ i = 2 ∨ i = 3 ∨ i = 4 ∨ i = 5 ∨ i = 6 ∨ i = 7 ∨ i = 8 ∨ i = 9 ∨ i = 10 ∨ i = 11 := by omega
      rcases this with e | e | e | e | e | e | e | e | e | e | e | e <;> subst e <;> omega
    · omega
    · omega
    · have : i = 0 ∨ i = 1 ∨ i = 2 ∨ i = 3 ∨ i = 4 ∨ i = 5 ∨ i = 6 ∨ i = 7 ∨ i = 8 ∨ i = 9 ∨ i = 10 ∨ i = 11 := by omega
      rcases this with e | e | e | e | e | e | e | e | e | e | e | e <;> subst e <;> omega
  · obtain ⟨h0, h1, h2, h3, h4, h5, h6, h7, h8, s0, s1, s2, s3, s4, s5, s6, s7, s8, s9⟩ := h
    refine dd_qV (kk _ _ ⟨?_, ?_, ?_, ?_, ?_, ?_, ?_, ?_, ?_, ?_, ?_, ?_, ?_, ?_, ?_, ?_, ?_, ?_, ?_⟩ ?_ ?_)
    · intro c hc
      rw [dd_us, pk_uLs]
      exact h0 c hc
    · intro c hc
      simp (disch := omega) only [dd_us, dd_un, pk_cpy_in]
      rw [Nat.sub_zero, Nat.zero_add]
      exact h1 c hc
    · intro c hc
      simp (disch := omega) only [dd_us, dd_un, pk_cpy_in]
      rw [Nat.sub_zero, Nat.zero_add]
      exact h2 c hc
    · intro c hc
      simp (disch := omega) only [dd_us, dd_un, pk_cpy_in]
      rw [Nat.sub_zero, Nat.zero_add]
      exact h3 c hc
    · intro c hc
      simp (disch := omega) only [dd_us, dd_un, pk_cpy_in]
      rw [Nat.sub_zero, Nat.zero_add]
      exact h4 c hc
    · intro c hc
      simp (disch := omega) only [dd_us, dd_un, pk_cpy_in]
      rw [Nat.sub_zero, Nat.zero_add]
      exact h5 c hc
    · intro c hc
      simp (disch := omega) only [dd_us, dd_un, pk_cpy_in]
      rw [Nat.sub_zero, Nat.zero_add]
      exact h6 c hc
    · intro i hi
      simp (disch := omega) only [dd_us, pk_us, pk_un]
      exact h7 i hi
    · intro a ha
      simp (disch := omega) only [dd_us, dd_un, pk_cpy_in]
      rw [Nat.sub_zero, Nat.zero_add]
      exact h8 a ha
    · simp (disch := omega) only [dd_us, pk_us, pk_un]; exact s0
    · simp (disch := omega) only [dd_us, pk_us, pk_un]; exact s1
    · simp (disch := omega) only [dd_us, pk_us, pk_un]; exact s2
    · simp (disch := omega) only [dd_us, pk_us, pk_un]; exact s3
    · simp (disch := omega) only [dd_us, pk_us, pk_un]; exact s4
    · simp (disch := omega) only [dd_us, pk_us, pk_un]; exact s5
    · simp (disch := omega) only [dd_us, pk_us, pk_un]; exact s6
    · simp (disch := omega) only [dd_us, pk_us, pk_un]; exact s7
    · simp (disch := omega) only [dd_us, pk_us, pk_un]; exact s8
    · simp (disch := omega) only [dd_us, pk_us, pk_un]; exact s9
    · intro j hj
      simp (disch := omega) only [dd_un]
    · intro j hj
      exact dd_un hj
