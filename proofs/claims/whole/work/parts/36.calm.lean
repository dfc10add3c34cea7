/-! Calm beats, boy by boy -/
def vF (num part ear bad beat cell fire : Nat) : Nat → Nat := fun i =>
  if i = 0 then num else if i = 1 then part else if i = 2 then ear else if i = 3 then cell % 8 else if i = 4 then cell / 8 else if i = 5 then gap cell fire else if i = 6 then bad else beat
theorem vF_fct (w : Nat → Nat) (b : Nat) : vF b (w (187 + 5 * b + 1)) (w (187 + 5 * b + 2)) (w (187 + 5 * b + 4)) (w 7) (w (187 + 5 * b)) (w 4) = fct w b := rfl
def prow (w : Nat → Nat) (p : Nat) : Nat → Nat := fun j => w (139 + 8 * p + j)
theorem stp_cong {w u : Nat → Nat} (h : stat w u) {c s : Nat} (hc : c < 64) : stp u c s = stp w c s := by
  unfold stp
  by_cases h1 : s = 1
  · rw [if_pos h1, if_pos h1]
    by_cases q : 8 ≤ c
    · rw [h _ (by omega)]
    · rw [if_neg (fun x => q x.1), if_neg (fun x => q x.1)]
  · rw [if_neg h1, if_neg h1]
    by_cases h2 : s = 2
    · rw [if_pos h2, if_pos h2]
      rw [h _ (by omega)]
    · rw [if_neg h2, if_neg h2]
      by_cases h3 : s = 3
      · rw [if_pos h3, if_pos h3]
        rw [h _ (by omega)]
      · rw [if_neg h3, if_neg h3]
        by_cases h4 : s = 4
        · rw [if_pos h4, if_pos h4]
          by_cases q : 0 < c % 8
          · rw [h _ (by omega)]
          · rw [if_neg (fun x => q x.1), if_neg (fun x => q x.1)]
        · rw [if_neg h4, if_neg h4]
theorem cby_cong {w u : Nat → Nat} (h : stat w u) {c n : Nat} (hc : c < 64) : cby u c n = cby w c n := by
  have e4 : u 4 = w 4 := h 4 (by omega)
  unfold cby nrr nrx nry
  rw [e4, stp_cong h hc, stp_cong h hc, stp_cong h hc, stp_cong h hc, stp_cong h hc]
/-- the next cell, whoever he is -/
def gcl (w F : Nat → Nat) (loud fern note cell : Nat) : Nat :=
  if cell = w 4 then cell else if sts w F fern note = true then cell else if hrs w F loud fern note = true then cby w cell note else cell
theorem sts_cong {w u F : Nat → Nat} (h : sameL w u) {fern note : Nat} : sts u F fern note = sts w F fern note := by
  unfold sts
  rw [sumL_cong h]
theorem hrs_cong {w u F : Nat → Nat} (h : sameL w u) {loud fern note : Nat} : hrs u F loud fern note = hrs w F loud fern note := by
  unfold hrs
  rw [sumL_cong h, sumL_cong h]
theorem gcl_cong {w u F : Nat → Nat} (h : stat w u) {loud fern note cell : Nat} (hc : cell < 64) : gcl u F loud fern note cell = gcl w F loud fern note cell := by
  unfold gcl
  rw [h 4 (by omega), sts_cong h.L, hrs_cong h.L, cby_cong h hc]
theorem gcl_lt {w F : Nat → Nat} {loud fern note cell : Nat} (hc : cell < 64) : gcl w F loud fern note cell < 64 := by
  unfold gcl
  split
  · exact hc
  · split
    · exact hc
    · split
      · exact cby_lt hc
      · exact hc
/-- a boy is in just where the fire is -/
def inb (w : Nat → Nat) (b : Nat) : Prop := w (187 + 5 * b + 3) = 1 ↔ w (187 + 5 * b) = w 4
theorem gbW_c {w : Nat → Nat} {b note : Nat} (hi : inb w b) : gbW w b note (187 + 5 * b) = gcl w (fct w b) (w 5) (w (75 + w (187 + 5 * b))) note (w (187 + 5 * b)) := by
  unfold inb at hi
  unfold gbW gcl
  by_cases q1 : w (187 + 5 * b) = w 4
  · rw [if_pos (Or.inl (hi.mpr q1)), if_pos q1]
  · rw [if_neg q1]
    by_cases q2 : stB w b note = true
    · have q2' : sts w (fct w b) (w (75 + w (187 + 5 * b))) note = true := q2
      rw [if_pos (Or.inr (Or.inl q2)), if_pos q2']
    · have q2' : ¬ sts w (fct w b) (w (75 + w (187 + 5 * b))) note = true := q2
      rw [if_neg q2']
      by_cases q3 : hrB w b note = true
      · have q3' : hrs w (fct w b) (w 5) (w (75 + w (187 + 5 * b))) note = true := q3
        rw [if_pos q3', if_neg (by
          rintro (h | h | h)
          · exact q1 (hi.mp h)
          · exact q2 h
          · rw [q3] at h; cases h)]
        unfold ist
        split
        · rw [upw_ne (by omega), upw_eq]
        · rw [upw_eq]
      · have q3' : ¬ hrs w (fct w b) (w 5) (w (75 + w (187 + 5 * b))) note = true := q3
        rw [if_neg q3', if_pos (Or.inr (Or.inr (by cases hh : hrB w b note with | true => exact absurd hh q3 | false => rfl)))]
theorem gbW_o {w : Nat → Nat} {b note j : Nat} (h1 : j ≠ 187 + 5 * b) (h2 : j ≠ 187 + 5 * b + 3) : gbW w b note j = w j := by
  unfold gbW
  split
  · rfl
  · unfold ist
    split
    · rw [upw_ne h2, upw_ne h1]
    · rw [upw_ne h1]
theorem gbW_in {w : Nat → Nat} {b note : Nat} (hi : inb w b) (hb : b ≤ 6) : gbW w b note (187 + 5 * b + 3) = 1 ↔ gbW w b note (187 + 5 * b) = w 4 := by
  unfold gbW
  split
  · exact hi
  · rename_i q
    have q0 : ¬ w (187 + 5 * b + 3) = 1 := fun h => q (Or.inl h)
    unfold ist
    split
    · rename_i q1
      rw [upw_eq, upw_ne (by omega), upw_eq]
      exact ⟨fun _ => q1, fun _ => rfl⟩
    · rename_i q1
      rw [upw_ne (by omega), upw_eq]
      exact ⟨fun h => absurd h q0, fun h => absurd h q1⟩
/-- where a boy is behind one calm beat -/
def gN (w : Nat → Nat) (b : Nat) : Nat := gcl w (fct w b) (w 5) (w (75 + w (187 + 5 * b))) (ntB w b) (w (187 + 5 * b))
theorem oneB_eq (w : Nat → Nat) (b j : Nat) (hj : j < 222) (h9 : j ≠ 9) : oneB true b w j = if w (187 + 5 * b + 3) = 1 then w j else gbW w b (ntB w b) j := by
  unfold oneB oneG
  simp only [Bool.not_true, Bool.and_false, Bool.false_eq_true, if_false]
  split
  · rfl
  · split
    · rw [tel_lo hj h9]
    · rfl
theorem oneB_c {w : Nat → Nat} {b : Nat} (hi : inb w b) (hb : b ≤ 6) : oneB true b w (187 + 5 * b) = gN w b := by
  rw [oneB_eq w b _ (by omega) (by omega)]
  split
  · rename_i q
    unfold gN gcl
    rw [if_pos (hi.mp q)]
  · exact gbW_c hi
theorem oneB_o {w : Nat → Nat} {b j : Nat} (hj : j < 222) (h9 : j ≠ 9) (h1 : j ≠ 187 + 5 * b) (h2 : j ≠ 187 + 5 * b + 3) : oneB true b w j = w j := by
  rw [oneB_eq w b _ hj h9]
  split
  · rfl
  · exact gbW_o h1 h2
theorem oneB_in {w : Nat → Nat} {b : Nat} (hi : inb w b) (hb : b ≤ 6) : oneB true b w (187 + 5 * b + 3) = 1 ↔ oneB true b w (187 + 5 * b) = w 4 := by
  rw [oneB_eq w b _ (by omega) (by omega), oneB_eq w b _ (by omega) (by omega)]
  split
  · exact hi
  · exact gbW_in hi hb
/-- what a calm beat leaves of the boys -/
def cst (w u : Nat → Nat) : Prop := stat w u ∧ (∀ b, b ≤ 6 → u (187 + 5 * b + 1) = w (187 + 5 * b + 1) ∧ u (187 + 5 * b + 2) = w (187 + 5 * b + 2) ∧ u (187 + 5 * b + 4) = w (187 + 5 * b + 4))
theorem cst.refl (w : Nat → Nat) : cst w w := ⟨stat.refl w, fun _ _ => ⟨rfl, rfl, rfl⟩⟩
theorem cst.trans {a b c : Nat → Nat} (h : cst a b) (h2 : cst b c) : cst a c :=
  ⟨h.1.trans h2.1, fun x hx => ⟨(h2.2 x hx).1.trans (h.2 x hx).1, (h2.2 x hx).2.1.trans (h.2 x hx).2.1, (h2.2 x hx).2.2.trans (h.2 x hx).2.2⟩⟩
theorem boysA_c {w : Nat → Nat} (hO : OKW w) (hi : ∀ b, b < w 1 → inb w b) : ∀ i, i ≤ w 1 →
    cst w (boysA true w i).1 ∧ (boysA true w i).1 7 = w 7 ∧ (∀ b, b < w 1 → (boysA true w i).1 (187 + 5 * b) = if b < i then gN w b else w (187 + 5 * b)) ∧ (∀ b, b < w 1 → ((boysA true w i).1 (187 + 5 * b + 3) = 1 ↔ (boysA true w i).1 (187 + 5 * b) = w 4)) := by
  have h1 := hO.1.2.1
  intro i
  induction i with
  | zero =>
    intro _
    exact ⟨cst.refl w, rfl, fun b _ => by rw [if_neg (Nat.not_lt_zero b)]; rfl, fun b hb => hi b hb⟩
  | succ i ih =>
    intro hle
    obtain ⟨c1, c2, c3, c4⟩ := ih (by omega)
    have e : (boysA true w (i + 1)).1 = oneB true i (boysA true w i).1 := rfl
    rw [e]
    generalize (boysA true w i).1 = u at *
    have s4 : u 4 = w 4 := c1.1 4 (by omega)
    have ci := c3 i (by omega)
    rw [if_neg (Nat.lt_irrefl i)] at ci
    have hin : inb u i := by
      unfold inb
      rw [s4]
      exact c4 i (by omega)
    obtain ⟨p1, p2, p3⟩ := c1.2 i (by omega)
    have eN : gN u i = gN w i := by
      have eF : fct u i = fct w i := by
        unfold fct
        rw [p1, p2, p3, ci, s4, c2]
      have ent : ntB u i = ntB w i := by
        unfold ntB
        rw [p1, c2]
        have b2 := (hO.2.2.2.1 i (by omega)).2.2.1
        have b7 := hO.1.2.2.2.2.2.2.1
        exact c1.1 _ (by omega)
      have b1 := (hO.2.2.2.1 i (by omega)).2.1
      unfold gN
      rw [eF, ent, ci, c1.1 5 (by omega), c1.1 (75 + w (187 + 5 * i)) (by omega), gcl_cong c1.1 b1]
    refine ⟨⟨c1.1.trans (stat_oneB (by omega)), fun b hb => ?_⟩, ?_, fun b hb => ?_, fun b hb => ?_⟩
    · rw [oneB_o (by omega) (by omega) (by omega) (by omega), oneB_o (by omega) (by omega) (by omega) (by omega), oneB_o (by omega) (by omega) (by omega) (by omega)]
      exact c1.2 b hb
    · rw [oneB_o (by omega) (by omega) (by omega) (by omega)]
      exact c2
    · by_cases q : b = i
      · subst q
        rw [oneB_c hin (by omega), if_pos (by omega), eN]
      · rw [oneB_o (by omega) (by omega) (by omega) (by omega), c3 b hb]
        by_cases q2 : b < i
        · rw [if_pos q2, if_pos (by omega)]
        · rw [if_neg q2, if_neg (by omega)]
    · by_cases q : b = i
      · subst q
        rw [← s4]
        exact oneB_in hin (by omega)
      · rw [oneB_o (by omega) (by omega) (by omega) (by omega), oneB_o (by omega) (by omega) (by omega) (by omega)]
        exact c4 b hb
theorem bend_o {w : Nat → Nat} {j : Nat} (h7 : j ≠ 7) (h8 : j ≠ 8) : bend w j = w j := by
  unfold bend
  split
  · rw [upw_ne h7]
  · rw [upw_ne h8, upw_ne h7]
theorem bend_7 {w : Nat → Nat} (h : w 7 < 8) : bend w 7 = (w 7 + 1) % 8 := by
  unfold bend
  split
  · rw [upw_eq]; omega
  · rw [upw_ne (by omega), upw_eq]; omega
theorem cst_bend {w : Nat → Nat} : cst w (bend w) := ⟨stat_bend, fun b hb => ⟨bend_o (by omega) (by omega), bend_o (by omega) (by omega), bend_o (by omega) (by omega)⟩⟩
theorem beatA_c {w : Nat → Nat} (hO : OKW w) (hi : ∀ b, b < w 1 → inb w b) : cst w (beatA true w).1 ∧ (beatA true w).1 7 = (w 7 + 1) % 8 ∧ (∀ b, b < w 1 → (beatA true w).1 (187 + 5 * b) = gN w b) ∧ (∀ b, b < w 1 → inb (beatA true w).1 b) := by
  have h1 := hO.1.2.1
  obtain ⟨c1, c2, c3, c4⟩ := boysA_c hO hi (w 1) (Nat.le_refl _)
  have e : (beatA true w).1 = bend (boysA true w (w 1)).1 := rfl
  rw [e]
  generalize (boysA true w (w 1)).1 = u at *
  refine ⟨c1.trans cst_bend, ?_, fun b hb => ?_, fun b hb => ?_⟩
  · rw [bend_7 (by rw [c2]; exact hO.1.2.2.2.2.2.2.1), c2]
  · rw [bend_o (by omega) (by omega), c3 b hb, if_pos hb]
  · unfold inb
    rw [bend_o (by omega) (by omega), bend_o (by omega) (by omega), bend_o (by omega) (by omega), c1.1 4 (by omega)]
    exact c4 b hb
/-- the way of one, beat by beat -/
def wk (w : Nat → Nat) (num part ear bad loud : Nat) (row : Nat → Nat) (t0 c0 : Nat) : Nat → Nat :=
  lpf (fun i x => gcl w (vF num part ear bad ((t0 + i) % 8) x (w 4)) loud (w (75 + x)) (row ((t0 + i) % 8)) x) c0
theorem wk_lt {w : Nat → Nat} {num part ear bad loud t0 c0 : Nat} {row : Nat → Nat} (hc : c0 < 64) : ∀ n, wk w num part ear bad loud row t0 c0 n < 64 := by
  intro n
  induction n with
  | zero => exact hc
  | succ n ih => exact gcl_lt ih
theorem wk_fire {w : Nat → Nat} {num part ear bad loud t0 c0 : Nat} {row : Nat → Nat} {n : Nat} (h : wk w num part ear bad loud row t0 c0 n = w 4) : ∀ m, n ≤ m → wk w num part ear bad loud row t0 c0 m = w 4 := by
  intro m hm
  induction m with
  | zero =>
    have : n = 0 := by omega
    subst this
    exact h
  | succ m ih =>
    by_cases q : n = m + 1
    · rw [← q]; exact h
    · have := ih (by omega)
      unfold wk at *
      rw [lpf, this]
      unfold gcl
      rw [if_pos rfl]
/-- where he was a whole row ago he goes the same way for ever -/
theorem wk_per {w : Nat → Nat} {num part ear bad loud t0 c0 : Nat} {row : Nat → Nat} {n : Nat} (h : wk w num part ear bad loud row t0 c0 (n + 8) = wk w num part ear bad loud row t0 c0 n) : ∀ m, wk w num part ear bad loud row t0 c0 (n + 8 + m) = wk w num part ear bad loud row t0 c0 (n + m) := by
  intro m
  induction m with
  | zero => exact h
  | succ m ih =>
    rw [show n + 8 + (m + 1) = (n + 8 + m) + 1 by omega, show n + (m + 1) = (n + m) + 1 by omega]
    unfold wk at *
    rw [lpf, lpf, ih, show (t0 + (n + 8 + m)) % 8 = (t0 + (n + m)) % 8 by omega]
theorem wk_never {w : Nat → Nat} {num part ear bad loud t0 c0 : Nat} {row : Nat → Nat} {n : Nat} (h : wk w num part ear bad loud row t0 c0 (n + 8) = wk w num part ear bad loud row t0 c0 n) (hf : wk w num part ear bad loud row t0 c0 (n + 8) ≠ w 4) : ∀ m, wk w num part ear bad loud row t0 c0 m ≠ w 4 := by
  intro m hm
  have e : ∀ k, wk w num part ear bad loud row t0 c0 (n + 8 * k) = wk w num part ear bad loud row t0 c0 n := by
    intro k
    induction k with
    | zero => rfl
    | succ k ih =>
      rw [show n + 8 * (k + 1) = n + 8 + 8 * k by omega, wk_per h]
      exact ih
  have := wk_fire hm (n + 8 * m) (by omega)
  rw [e m, ← h] at this
  exact hf this
/-- of a boy -/
abbrev wkB (w : Nat → Nat) (b : Nat) : Nat → Nat := wk w b (w (187 + 5 * b + 1)) (w (187 + 5 * b + 2)) (w (187 + 5 * b + 4)) (w 5) (prow w (w (187 + 5 * b + 1))) (w 7) (w (187 + 5 * b))
theorem calm {w : Nat → Nat} (hO : OKW w) (hi : ∀ b, b < w 1 → inb w b) : ∀ n, cst w (goA true w n).1 ∧ (goA true w n).1 7 = (w 7 + n) % 8 ∧ (∀ b, b < w 1 → (goA true w n).1 (187 + 5 * b) = wkB w b n) ∧ (∀ b, b < w 1 → inb (goA true w n).1 b) := by
  have h1 := hO.1.2.1
  have h7 := hO.1.2.2.2.2.2.2.1
  intro n
  induction n with
  | zero => exact ⟨cst.refl w, by show w 7 = _; omega, fun _ _ => rfl, hi⟩
  | succ n ih =>
    obtain ⟨c1, c2, c3, c4⟩ := ih
    have e : (goA true w (n + 1)).1 = (beatA true (goA true w n).1).1 := rfl
    have hOu := (goA_ok hO (cm := true) n).1
    rw [e]
    generalize (goA true w n).1 = u at *
    have s1 : u 1 = w 1 := c1.1 1 (by omega)
    obtain ⟨d1, d2, d3, d4⟩ := beatA_c hOu (fun b hb => c4 b (by omega))
    refine ⟨c1.trans d1, ?_, fun b hb => ?_, fun b hb => d4 b (by omega)⟩
    · rw [d2, c2]; omega
    · rw [d3 b (by omega)]
      obtain ⟨p1, p2, p3⟩ := c1.2 b (by omega)
      have s4 : u 4 = w 4 := c1.1 4 (by omega)
      have bc := (hOu.2.2.2.1 b (by omega)).2.1
      have b2 := (hO.2.2.2.1 b (by omega)).2.2.1
      unfold gN
      rw [← vF_fct, gcl_cong c1.1 bc, p1, p2, p3, s4, c2, c1.1 5 (by omega), c1.1 (75 + u (187 + 5 * b)) (by omega)]
      have en : ntB u b = prow w (w (187 + 5 * b + 1)) ((w 7 + n) % 8) := by
        unfold ntB prow
        rw [p1, c2]
        exact c1.1 _ (by omega)
      rw [en, c3 b hb]
      rfl
/-- the first of N that is so -/
def frst (p : Nat → Bool) : Nat → Option Nat
  | 0 => none
  | n + 1 => match frst p n with
    | some i => some i
    | none => if p n then some n else none
theorem frst_none {p : Nat → Bool} : ∀ {N}, (∀ i, i < N → p i = false) → frst p N = none := by
  intro N
  induction N with
  | zero => intro _; rfl
  | succ n ih =>
    intro h
    rw [frst, ih (fun i hi => h i (by omega)), h n (by omega)]
    rfl
theorem frst_some {p : Nat → Bool} {n : Nat} (hp : p n = true) (hm : ∀ i, i < n → p i = false) : ∀ {N}, n < N → frst p N = some n := by
  intro N
  induction N with
  | zero => intro h; exact absurd h (Nat.not_lt_zero n)
  | succ k ih =>
    intro h
    by_cases q : n < k
    · rw [frst, ih q]
    · have : n = k := by omega
      subst this
      rw [frst, frst_none hm, hp]
      rfl
theorem frst_cases (p : Nat → Bool) (N : Nat) : (frst p N = none ∧ ∀ i, i < N → p i = false) ∨ ∃ n, n < N ∧ frst p N = some n ∧ p n = true ∧ ∀ i, i < n → p i = false := by
  induction N with
  | zero => exact Or.inl ⟨rfl, fun i h => absurd h (Nat.not_lt_zero i)⟩
  | succ k ih =>
    rcases ih with ⟨h1, h2⟩ | ⟨n, h1, h2, h3, h4⟩
    · cases hp : p k with
      | true => exact Or.inr ⟨k, by omega, frst_some hp h2 (by omega), hp, h2⟩
      | false =>
        refine Or.inl ⟨?_, ?_⟩
        · rw [frst, h1, hp]; rfl
        · intro i hi
          by_cases q : i = k
          · subst q; exact hp
          · exact h2 i (by omega)
    · exact Or.inr ⟨n, by omega, frst_some h3 h4 (by omega), h3, h4⟩
theorem frst_cong {p q : Nat → Bool} {N : Nat} (h : ∀ i, i < N → p i = q i) : frst p N = frst q N := by
  induction N with
  | zero => rfl
  | succ n ih => rw [frst, frst, ih (fun i hi => h i (by omega)), h n (by omega)]
