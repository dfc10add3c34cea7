/-! The class: beats on and on -/
theorem ist_o {w : Nat → Nat} {b x j : Nat} (h1 : j ≠ 187 + 5 * b) (h2 : j ≠ 187 + 5 * b + 3) : ist w b x j = w j := by
  unfold ist
  split
  · rw [upw_ne h2, upw_ne h1]
  · rw [upw_ne h1]
theorem ist_in {w : Nat → Nat} {b x : Nat} (hn : ¬ w (187 + 5 * b + 3) = 1) : ist w b x (187 + 5 * b + 3) = 1 ↔ ist w b x (187 + 5 * b) = w 4 := by
  unfold ist
  split
  · rename_i q
    rw [upw_eq, upw_ne (by omega), upw_eq]
    exact ⟨fun _ => q, fun _ => rfl⟩
  · rename_i q
    rw [upw_ne (by omega), upw_eq]
    exact ⟨fun h => absurd h hn, fun h => absurd h q⟩
theorem stry_o {w : Nat → Nat} {b j : Nat} (hj : j < 222) (h9 : j ≠ 9) (h10 : j ≠ 10) (hb : j < 187 + 5 * b ∨ 187 + 5 * b + 5 ≤ j) : stry w b j = w j := by
  unfold stry
  split
  · exact drw_ne h10
  · rw [tel_lo hj h9]
    unfold str3 str2
    rw [upw_ne (by omega), ist_o (by omega) (by omega), drw_ne h10, drw_ne h10]
theorem stry_in {w : Nat → Nat} {b : Nat} (hb : b ≤ 6) (hi : inb w b) (hn : ¬ w (187 + 5 * b + 3) = 1) : inb (stry w b) b := by
  have e4 : stry w b 4 = w 4 := stry_o (by omega) (by omega) (by omega) (by omega)
  unfold inb
  rw [e4]
  unfold stry
  split
  · rw [drw_ne (by omega), drw_ne (by omega)]
    exact hi
  · rw [tel_lo (by omega) (by omega), tel_lo (by omega) (by omega)]
    unfold str3 str2
    rw [upw_ne (by omega), upw_ne (by omega)]
    have := ist_in (w := drw (drw w)) (b := b) (x := stp (drw (drw w)) (drw (drw w) (187 + 5 * b)) (1 + drn (drw w) 4)) (by rw [drw_ne (by omega), drw_ne (by omega)]; exact hn)
    rw [drw_ne (show (4 : Nat) ≠ 10 by omega), drw_ne (show (4 : Nat) ≠ 10 by omega)] at this
    exact this
theorem oneG_o {w : Nat → Nat} {cm : Bool} {b j : Nat} (hj : j < 222) (h9 : j ≠ 9) (h10 : j ≠ 10) (hb : j < 187 + 5 * b ∨ 187 + 5 * b + 5 ≤ j) : oneG cm w b j = w j := by
  unfold oneG
  split
  · rw [stry_o hj h9 h10 hb, gbW_o (by omega) (by omega)]
  · exact gbW_o (by omega) (by omega)
theorem oneG_in {w : Nat → Nat} {cm : Bool} {b : Nat} (hb : b ≤ 6) (hi : inb w b) (hn : ¬ w (187 + 5 * b + 3) = 1) : inb (oneG cm w b) b := by
  unfold oneG
  split
  · rename_i q
    have e : gbW w b (ntB w b) = w := by
      rw [Bool.and_eq_true] at q
      have q1 := q.1
      unfold gbS at q1
      rw [Bool.and_eq_true, Bool.and_eq_true] at q1
      unfold gbW
      rw [if_pos (Or.inr (Or.inr (by have := q1.2; rw [Bool.not_eq_true'] at this; exact this)))]
    rw [e]
    exact stry_in hb hi hn
  · unfold inb
    rw [gbW_o (by omega) (by omega) (j := 4)]
    exact gbW_in hi hb
theorem oneB_o2 {w : Nat → Nat} {cm : Bool} {b j : Nat} (hj : j < 222) (h9 : j ≠ 9) (h10 : j ≠ 10) (hb : j < 187 + 5 * b ∨ 187 + 5 * b + 5 ≤ j) : oneB cm b w j = w j := by
  unfold oneB
  split
  · rfl
  · split
    · rw [tel_lo hj h9, oneG_o hj h9 h10 hb]
    · exact oneG_o hj h9 h10 hb
theorem oneB_in2 {w : Nat → Nat} {cm : Bool} {b b' : Nat} (hb : b ≤ 6) (hb' : b' ≤ 6) (hi : inb w b) (hi' : inb w b') : inb (oneB cm b w) b' := by
  have e4 : oneB cm b w 4 = w 4 := oneB_o2 (by omega) (by omega) (by omega) (by omega)
  by_cases q : b' = b
  · subst q
    unfold inb
    rw [e4]
    unfold oneB
    split
    · exact hi
    · rename_i hn
      have h := oneG_in (cm := cm) hb hi hn
      unfold inb at h
      rw [oneG_o (j := 4) (by omega) (by omega) (by omega) (by omega)] at h
      split
      · rw [tel_lo (by omega) (by omega), tel_lo (by omega) (by omega)]
        exact h
      · exact h
  · unfold inb
    rw [e4, oneB_o2 (by omega) (by omega) (by omega) (by omega), oneB_o2 (by omega) (by omega) (by omega) (by omega)]
    exact hi'
def inbs (w : Nat → Nat) : Prop := ∀ b, b < w 1 → inb w b
theorem boysA_in {w : Nat → Nat} {cm : Bool} (hO : OKW w) (hi : inbs w) : ∀ i, i ≤ w 1 → ∀ b, b < w 1 → inb (boysA cm w i).1 b := by
  have h1 := hO.1.2.1
  intro i
  induction i with
  | zero => intro _; exact hi
  | succ i ih =>
    intro hle b hb
    exact oneB_in2 (by omega) (by omega) (ih (by omega) i (by omega)) (ih (by omega) b hb)
theorem beatA_in {w : Nat → Nat} {cm : Bool} (hO : OKW w) (hi : inbs w) : inbs (beatA cm w).1 := by
  have h1 := hO.1.2.1
  have s1 := (beatA_ok hO (cm := cm)).2 1 (by omega)
  intro b hb
  rw [s1] at hb
  have := boysA_in (cm := cm) hO hi (w 1) (Nat.le_refl _) b hb
  have e : (beatA cm w).1 = bend (boysA cm w (w 1)).1 := rfl
  rw [e]
  unfold inb at *
  rw [bend_o (by omega) (by omega), bend_o (by omega) (by omega), bend_o (by omega) (by omega)]
  exact this
theorem goA_in {w : Nat → Nat} {cm : Bool} (hO : OKW w) (hi : inbs w) : ∀ n, inbs (goA cm w n).1 := by
  intro n
  induction n with
  | zero => exact hi
  | succ n ih => exact beatA_in (goA_ok hO n).1 ih
