/-! what the first three new leave; the start; the law -/
def sE : List (Nat × Nat) := [(9, 18), (7, 19), (100, 64), (100, 48), (100, 6), (100, 6), (100, 6), (100, 6), (100, 60), (7, 19), (100, 64), (100, 48), (100, 6), (100, 6), (100, 6), (100, 6), (100, 60), (7, 19), (100, 64), (100, 48), (100, 6), (100, 6), (100, 6), (100, 6), (100, 60), (2, 5), (100, 400), (2, 5), (100, 400), (2, 5), (100, 400), (0, 3), (103, 12), (7, 19), (100, 64), (100, 48), (100, 6), (100, 6), (100, 6), (100, 6), (100, 60), (7, 19), (100, 64), (100, 48), (100, 6), (100, 6), (100, 6), (100, 6), (100, 60), (7, 19), (100, 64), (100, 48), (100, 6), (100, 6), (100, 6), (100, 6), (100, 60), (7, 19), (100, 64), (100, 48), (100, 6), (100, 6), (100, 6), (100, 6), (100, 60), (7, 19), (100, 64), (100, 48), (100, 6), (100, 6), (100, 6), (100, 6), (100, 60), (7, 19), (100, 64), (100, 48), (100, 6), (100, 6), (100, 6), (100, 6), (100, 60), (7, 19), (100, 64), (100, 48), (100, 6), (100, 6), (100, 6), (100, 6), (100, 60), (7, 19), (100, 64), (100, 48), (100, 6), (100, 6), (100, 6), (100, 6), (100, 60), (7, 19), (100, 64), (100, 48), (100, 6), (100, 6), (100, 6), (100, 6), (100, 60), (7, 19), (100, 64), (100, 48), (100, 6), (100, 6), (100, 6), (100, 6), (100, 60), (7, 19), (100, 64), (100, 48), (100, 6), (100, 6), (100, 6), (100, 6), (100, 60), (7, 19), (100, 64), (100, 48), (100, 6), (100, 6), (100, 6), (100, 6), (100, 60), (100, 400), (8, 7), (3, 11), (100, 21), (5, 6), (100, 8), (100, 8), (5, 6), (100, 8), (100, 8), (6, 2), (100, 64), (1, 4), (102, 8), (102, 8), (4, 5), (100, 31), (100, 31), (100, 465), (10, 26), (100, 2220), (100, 1371), (100, 1371), (100, 522), (100, 6264), (101, 400), (100, 5), (100, 400), (100, 64), (100, 64), (100, 64), (100, 64), (100, 1984), (100, 15), (102, 1)]
def rE : List (Nat × Nat × Nat) := [(148, 25, 162), (148, 24, 161), (148, 23, 160), (148, 22, 159), (148, 20, 158), (148, 19, 157), (148, 17, 156), (148, 15, 155), (148, 8, 154), (148, 5, 153), (148, 4, 152), (148, 3, 151), (148, 2, 150), (148, 1, 149), (0, 17, 144), (144, 1, 133), (144, 0, 1), (144, 4, 147), (144, 3, 146), (144, 2, 145), (0, 16, 141), (141, 1, 133), (141, 0, 1), (141, 3, 143), (141, 2, 142), (0, 15, 139), (139, 0, 1), (139, 1, 140), (0, 14, 136), (136, 1, 25), (136, 0, 1), (136, 3, 138), (136, 2, 137), (0, 13, 133), (133, 1, 25), (133, 0, 1), (133, 3, 135), (133, 2, 134), (0, 12, 131), (131, 6, 27), (131, 7, 132), (131, 0, 129), (0, 11, 130), (130, 6, 1), (130, 0, 129), (0, 8, 129), (0, 7, 31), (32, 11, 121), (121, 7, 128), (121, 6, 127), (121, 5, 126), (121, 4, 125), (121, 3, 124), (121, 2, 123), (121, 1, 122), (32, 10, 113), (113, 7, 120), (113, 6, 119), (113, 5, 118), (113, 4, 117), (113, 3, 116), (113, 2, 115), (113, 1, 114), (32, 9, 105), (105, 7, 112), (105, 6, 111), (105, 5, 110), (105, 4, 109), (105, 3, 108), (105, 2, 107), (105, 1, 106), (32, 8, 97), (97, 7, 104), (97, 6, 103), (97, 5, 102), (97, 4, 101), (97, 3, 100), (97, 2, 99), (97, 1, 98), (32, 7, 89), (89, 7, 96), (89, 6, 95), (89, 5, 94), (89, 4, 93), (89, 3, 92), (89, 2, 91), (89, 1, 90), (32, 6, 81), (81, 7, 88), (81, 6, 87), (81, 5, 86), (81, 4, 85), (81, 3, 84), (81, 2, 83), (81, 1, 82), (32, 5, 73), (73, 7, 80), (73, 6, 79), (73, 5, 78), (73, 4, 77), (73, 3, 76), (73, 2, 75), (73, 1, 74), (32, 4, 65), (65, 7, 72), (65, 6, 71), (65, 5, 70), (65, 4, 69), (65, 3, 68), (65, 2, 67), (65, 1, 66), (32, 3, 57), (57, 7, 64), (57, 6, 63), (57, 5, 62), (57, 4, 61), (57, 3, 60), (57, 2, 59), (57, 1, 58), (32, 2, 49), (49, 7, 56), (49, 6, 55), (49, 5, 54), (49, 4, 53), (49, 3, 52), (49, 2, 51), (49, 1, 50), (32, 1, 41), (41, 7, 48), (41, 6, 47), (41, 5, 46), (41, 4, 45), (41, 3, 44), (41, 2, 43), (41, 1, 42), (32, 0, 33), (33, 7, 40), (33, 6, 39), (33, 5, 38), (33, 4, 37), (33, 3, 36), (33, 2, 35), (33, 1, 34), (31, 0, 32), (0, 5, 29), (29, 0, 30), (0, 4, 27), (27, 0, 28), (0, 3, 25), (25, 0, 26), (0, 2, 17), (17, 7, 24), (17, 6, 23), (17, 5, 22), (17, 4, 21), (17, 3, 20), (17, 2, 19), (17, 1, 18), (0, 1, 9), (9, 7, 16), (9, 6, 15), (9, 5, 14), (9, 4, 13), (9, 3, 12), (9, 2, 11), (9, 1, 10), (0, 0, 1), (1, 7, 8), (1, 6, 7), (1, 5, 6), (1, 4, 5), (1, 3, 4), (1, 2, 3), (1, 1, 2)]
def qE : List (Nat × Nat × Int32) := [(149, 10, 1), (149, 6, 50), (149, 5, 4), (149, 4, 27), (148, 14, (-1)), (131, 5, (-1)), (130, 5, (-1)), (0, 10, (-1)), (121, 18, 1), (121, 15, 50), (121, 14, 4), (121, 13, 27), (113, 18, 1), (113, 15, 50), (113, 14, 4), (113, 13, 27), (105, 18, 1), (105, 15, 50), (105, 14, 4), (105, 13, 27), (97, 18, 1), (97, 15, 50), (97, 14, 4), (97, 13, 27), (89, 18, 1), (89, 15, 50), (89, 14, 4), (89, 13, 27), (81, 18, 1), (81, 15, 50), (81, 14, 4), (81, 13, 27), (73, 18, 1), (73, 15, 50), (73, 14, 4), (73, 13, 27), (65, 18, 1), (65, 15, 50), (65, 14, 4), (65, 13, 27), (57, 18, 1), (57, 15, 50), (57, 14, 4), (57, 13, 27), (49, 18, 1), (49, 15, 50), (49, 14, 4), (49, 13, 27), (41, 18, 1), (41, 15, 50), (41, 14, 4), (41, 13, 27), (33, 18, 1), (33, 15, 50), (33, 14, 4), (33, 13, 27), (29, 2, (-1)), (27, 2, (-1)), (25, 2, (-1)), (17, 18, 1), (17, 15, 50), (17, 14, 4), (17, 13, 27), (9, 18, 1), (9, 15, 50), (9, 14, 4), (9, 13, 27), (1, 18, 1), (1, 15, 50), (1, 14, 4), (1, 13, 27)]
def vq : Value → Value → Bool
  | .ref a, .ref b => Nat.beq a b
  | .int a, .int b => decide (a = b)
  | .null, .null => true
  | _, _ => false
theorem vq_ok {a b : Value} (h : vq a b = true) : a = b := by
  unfold vq at h
  split at h
  · rw [Nat.eq_of_beq_eq_true h]
  · rw [of_decide_eq_true h]
  · rfl
  · cases h
def vqs : List Value → List Value → Bool
  | [], [] => true
  | a :: l, b :: r => vq a b && vqs l r
  | _, _ => false
theorem vqs_ok : ∀ {l r : List Value}, vqs l r = true → l = r := by
  intro l
  induction l with
  | nil =>
    intro r h
    cases r with
    | nil => rfl
    | cons b r => cases h
  | cons a l ih =>
    intro r h
    cases r with
    | nil => cases h
    | cons b r =>
      have h : (vq a b && vqs l r) = true := h
      rw [Bool.and_eq_true] at h
      rw [vq_ok h.1, ih h.2]
def ckE (r : Option bC) : Bool := match r with
  | none => false
  | some (pc, ls, st, S, R, Q, s) => Nat.beq pc 23 && vqs ls [.ref 3000000, .ref 0, .ref 148, .ref 163, .int (nI (6 * 0)), .null, .null] && vqs st [] && decide (S = sE) && decide (R = rE) && decide (Q = qE) && Nat.beq s 20409
theorem ckE_ok {r : Option bC} (h : ckE r = true) : r = some (23, [.ref 3000000, .ref 0, .ref 148, .ref 163, .int (nI (6 * 0)), .null, .null], [], (sE, rE, qE, 20409)) := by
  unfold ckE at h
  split at h
  · cases h
  · rename_i pc ls st S R Q s
    simp only [Bool.and_eq_true] at h
    obtain ⟨⟨⟨⟨⟨⟨h1, h2⟩, h3⟩, h4⟩, h5⟩, h6⟩, h7⟩ := h
    rw [Nat.eq_of_beq_eq_true h1, vqs_ok h2, vqs_ok h3, of_decide_eq_true h4, of_decide_eq_true h5, of_decide_eq_true h6, Nat.eq_of_beq_eq_true h7]
theorem bE_c : ckE (abG 500 13 m_L_law_ (0, dd_ent 7 [.ref 3000000], [], ([], [], [], 0))) = true := by decide +kernel
theorem bE_ok : abG 500 13 m_L_law_ (0, dd_ent 7 [.ref 3000000], [], ([], [], [], 0)) = some (23, [.ref 3000000, .ref 0, .ref 148, .ref 163, .int (nI (6 * 0)), .null, .null], [], (sE, rE, qE, 20409)) := ckE_ok bE_c
theorem blt_t {a b : Nat} (h : a < b) : Nat.blt a b = true := Nat.ble_eq_true_of_le h
theorem blt_f {a b : Nat} (h : b ≤ a) : Nat.blt a b = false := by
  cases e : Nat.blt a b with
  | false => rfl
  | true => exact absurd (Nat.le_of_ble_eq_true e) (by omega)
theorem bS_0 (Ln : Nat) (xs : Nat → Int32) : dd_M0 Ln xs = bS Ln xs ([], [], [], 0) := by
  have e1 : (fun k => if k < 1000000 then (60, 0) else dd_sh0 Ln k) = shB Ln [] := by
    funext k
    unfold shB
    rw [getD_o [] k (Nat.zero_le k)]
  have e2 : (fun k j => if k < 1000000 then 0 else dd_rf0 k j) = rfB [] := by
    funext k j
    rfl
  have e3 : dd_fI xs = iB xs [] := by
    funext k j
    unfold iB
    by_cases h : k < 1000000
    · rw [if_pos h]
      unfold dd_fI
      rw [if_neg (by omega), if_neg (by omega)]
      rfl
    · rw [if_neg h]
  show (0, (fun k => if k < 1000000 then (60, 0) else dd_sh0 Ln k), (fun k j => if k < 1000000 then 0 else dd_rf0 k j), dd_fI xs, (fun _ _ => (0 : Int64)), 0, 0) = (0, shB Ln [], rfB [], iB xs [], (fun _ _ => (0 : Int64)), 0, 0)
  rw [e1, e2, e3]
theorem sE_ok : ∀ k, k < 164 → sE.getD k (60, 0) = dd_shw k := by decide +kernel
theorem sE_l : sE.length = 164 := by decide +kernel
theorem rE_c : rE.all (fun t => Nat.blt t.1 164 && Nat.beq (dd_rfw t.1 t.2.1) t.2.2) = true := by decide +kernel
theorem rE_ok : ∀ k, k < 164 → ∀ j, j < 30 → dd_rfw k j = 0 ∨ lkR rE k j = dd_rfw k j := by decide +kernel
theorem lkR_m {k j : Nat} : ∀ (R : List (Nat × Nat × Nat)), lkR R k j = 0 ∨ (k, j, lkR R k j) ∈ R := by
  intro R
  induction R with
  | nil => exact Or.inl rfl
  | cons x R ih =>
    obtain ⟨a, b, v⟩ := x
    rw [lkR_c]
    by_cases h : a = k ∧ b = j
    · obtain ⟨rfl, rfl⟩ := h
      rw [if_pos ⟨rfl, rfl⟩]
      exact Or.inr (List.mem_cons_self ..)
    · rw [if_neg h]
      rcases ih with q | q
      · exact Or.inl q
      · exact Or.inr (List.mem_cons_of_mem _ q)
theorem rfw_hi (i k : Nat) : dd_rfw k (i + 30) = 0 := by
  unfold dd_rfw
  repeat' (first | rfl | split)
theorem bS_E (Ln : Nat) (xs : Nat → Int32) : bS Ln xs (sE, rE, qE, 20409) = sM Ln (iB xs qE) (fun _ _ => 0) 164 20409 := by
  have e1 : shB Ln sE = dd_sh0 Ln := by
    funext k
    unfold shB
    by_cases h : k < 1000000
    · rw [if_pos h]
      unfold dd_sh0
      by_cases h2 : k < 164
      · rw [blt_t h2, sE_ok k h2]
      · rw [blt_f (by omega), blt_t h, getD_o sE k (by rw [sE_l]; omega)]
    · rw [if_neg h]
  have e2 : rfB rE = dd_rf0 := by
    funext k j
    unfold rfB
    by_cases h : k < 1000000
    · rw [if_pos h]
      unfold dd_rf0
      have me : (k, j, lkR rE k j) ∈ rE → k < 164 ∧ dd_rfw k j = lkR rE k j := fun q => by
        have c1 := List.all_eq_true.mp rE_c _ q
        rw [Bool.and_eq_true] at c1
        exact ⟨Nat.le_of_ble_eq_true c1.1, Nat.eq_of_beq_eq_true c1.2⟩
      by_cases h2 : k < 164
      · rw [blt_t h2]
        show lkR rE k j = dd_rfw k j
        rcases lkR_m (k := k) (j := j) rE with q | q
        · by_cases h3 : j < 30
          · rcases rE_ok k h2 j h3 with u | u
            · rw [u, q]
            · exact u
          · have := rfw_hi (j - 30) k
            rw [show j - 30 + 30 = j by omega] at this
            rw [q, this]
        · exact (me q).2.symm
      · rw [blt_f (by omega), blt_t h]
        show lkR rE k j = 0
        rcases lkR_m (k := k) (j := j) rE with q | q
        · exact q
        · exact absurd (me q).1 h2
    · rw [if_neg h]
  show (sE.length, shB Ln sE, rfB rE, iB xs qE, (fun _ _ => (0 : Int64)), sE.length, 20409) = _
  rw [e1, e2, sE_l]
/-! the start -/
def w0 : Nat → Nat := fun j => if j = 4 then 27 else if j = 5 then 4 else if j = 6 then 50 else if j = 10 then 1 else 0
theorem iE (xs : Nat → Int32) {k j : Nat} (h : k < 1000000) : iB xs qE k j = lkI qE k j := by
  unfold iB
  rw [if_pos h]
theorem w0_good : GOOD w0 := by
  refine ⟨⟨by unfold okW; decide, by unfold okT; decide +kernel, by unfold okP; decide +kernel, fun b hb => ?_, by show (0 : Nat) ≤ 1; omega, fun z => absurd z (by decide)⟩, fun b hb => absurd hb (Nat.not_lt_zero b), ⟨by decide, fun b hb => absurd hb (Nat.not_lt_zero b)⟩, fun a ha => absurd ha (Nat.not_lt_zero a), ?_⟩
  · have : ∀ b, b < 7 → w0 (187 + 5 * b) < 64 ∧ w0 (187 + 5 * b + 1) < 6 ∧ w0 (187 + 5 * b + 2) ≤ 15 ∧ w0 (187 + 5 * b + 3) ≤ 1 ∧ w0 (187 + 5 * b + 4) ≤ 99 := by decide
    exact ⟨hb, this b (by omega)⟩
  · intro b _ hb
    have : ∀ b, b < 6 → ¬ w0 (187 + 5 * b + 3) = 1 := by decide
    exact this b hb
theorem q149 : ∀ j, j < 1371 → lkI qE 149 j = nI (w0 j) := by decide +kernel
theorem q2 : ∀ c, c < 64 → lkI qE (1 + 1) c = nI (w0 (75 + c)) := by decide +kernel
theorem q3 : ∀ c, c < 48 → lkI qE (1 + 2) c = nI (w0 (139 + c)) := by decide +kernel
theorem q4 : ∀ b, b < 6 → lkI qE (1 + 3) b = nI (w0 (187 + 5 * b)) := by decide +kernel
theorem q5 : ∀ b, b < 6 → lkI qE (1 + 4) b = nI (w0 (187 + 5 * b + 1)) := by decide +kernel
theorem q6 : ∀ b, b < 6 → lkI qE (1 + 5) b = nI (w0 (187 + 5 * b + 2)) := by decide +kernel
theorem q7 : ∀ b, b < 6 → lkI qE (1 + 6) b = nI (w0 (187 + 5 * b + 4)) := by decide +kernel
theorem qb : ∀ i, i < 32 → bX (lkI qE 1 12) i = (decide (i < 6) && decide (w0 (187 + 5 * i + 3) = 1)) := by decide +kernel
theorem qL : ∀ c, c < 64 → bL (0 : Int64) c = decide (w0 (11 + c) = 1) := by decide +kernel
theorem qT : ∀ j, j < 400 → lkI qE 129 j = nI 0 ∧ lkI qE 154 j = byt 0 := by decide +kernel
theorem inv0 (xs : Nat → Int32) : INVx (iB xs qE) (iB xs qE) (fun _ _ => 0) := by
  refine ⟨w0, none, 0, 0, fun _ _ => 0, fun _ => 0, 0, none, w0_good, fun j hj => ?_, ?_, ?_, ⟨?_, ?_, fun wi h => by cases h⟩, ⟨by omega, by omega, ?_, ?_, ?_, fun i hi => absurd hi (Nat.not_lt_zero i)⟩, ⟨by omega, fun _ => by show 0 < 256; omega, ?_, ?_, fun j hj => ?_⟩, ⟨?_, ?_⟩, fun _ _ => rfl⟩
  · rw [iE xs (by omega)]; exact q149 j hj
  · refine ⟨qL, fun c hc => ?_, fun c hc => ?_, fun b hb => ?_, fun b hb => ?_, fun b hb => ?_, fun b hb => ?_, fun i hi => ?_, fun a ha => absurd ha (Nat.not_lt_zero a), ?_, ?_, ?_, ?_, ?_, ?_, ?_, ?_, ?_, ?_⟩
    · rw [iE xs (by omega)]; exact q2 c hc
    · rw [iE xs (by omega)]; exact q3 c hc
    · rw [iE xs (by omega)]; exact q4 b hb
    · rw [iE xs (by omega)]; exact q5 b hb
    · rw [iE xs (by omega)]; exact q6 b hb
    · rw [iE xs (by omega)]; exact q7 b hb
    · rw [iE xs (by omega)]; exact qb i hi
    · rw [iE xs (by omega)]; decide +kernel
    · rw [iE xs (by omega)]; decide +kernel
    · rw [iE xs (by omega)]; decide +kernel
    · rw [iE xs (by omega)]; decide +kernel
    · rw [iE xs (by omega)]; decide +kernel
    · rw [iE xs (by omega)]; decide +kernel
    · rw [iE xs (by omega)]; decide +kernel
    · rw [iE xs (by omega)]; decide +kernel
    · rw [iE xs (by omega)]; decide +kernel
    · rw [iE xs (by omega)]; decide +kernel
  · refine ⟨?_, 0, by omega, ?_, fun F sil fer hF => ⟨?_, rfl⟩⟩
    · rw [iE xs (by omega)]; decide +kernel
    · rw [iE xs (by omega)]; decide +kernel
    · show (0 : Int32) = nI 0 - nI 0
      decide
  · rw [iE xs (by omega)]; decide +kernel
  · rw [iE xs (by omega)]; decide +kernel
  · rw [iE xs (by omega)]; decide +kernel
  · rw [iE xs (by omega)]; decide +kernel
  · rw [iE xs (by omega)]; decide +kernel
  · rw [iE xs (by omega)]; decide +kernel
  · rw [iE xs (by omega)]; decide +kernel
  · rw [iE xs (by omega), iE xs (by omega)]; exact qT j hj
  · rw [iE xs (by omega)]; decide +kernel
  · rw [iE xs (by omega)]; decide +kernel
theorem str0 (xs : Nat → Int32) : STR (iB xs qE) := by
  intro w hw
  refine ⟨?_, fun j => ?_⟩
  · unfold iB
    rw [if_neg (by omega)]
    unfold dd_fI
    rw [if_neg (by omega), if_neg (by omega)]
  · unfold iB
    rw [if_neg (by omega)]
    unfold dd_fI
    rw [if_neg (by omega), if_pos (by omega), Nat.add_sub_cancel_left]
    rfl
theorem dd_law : dd_Law := by
  intro Ln xs hL
  have r : dd_Rn (999 + 1) m_L_law_ (0, dd_ent 7 [.ref 3000000], [], dd_M0 Ln xs) (LQ Ln (164 + Ln / 6) (20409 + 6 * (Ln / 6))) := by
    rw [bS_0]
    refine abG_ok (Ln := Ln) (xs := xs) (N := 500) (d := 999) (by omega) 13 (0, dd_ent 7 [.ref 3000000], [], ([], [], [], 0)) _ bE_ok ?_
    show dd_Rn (999 + 1) m_L_law_ (23, [.ref 3000000, .ref 0, .ref 148, .ref 163, .int (nI (6 * 0)), .null, .null], [], bS Ln xs (sE, rE, qE, 20409)) _
    rw [bS_E]
    exact law_loop (d := 999 + 1) (I0 := iB xs qE) (c0 := 164) (s0 := 20409) (by omega) hL (fun _ hi kk => LC_wood (by omega) (str0 xs) hi kk) (fun _ hi kk => LC_law (by omega) (str0 xs) hi kk) _ _ 164 20409 .null .null (Nat.le_refl _) (Nat.le_refl _) (inv0 xs)
  obtain ⟨n, o, h1, I, L, c, s, rfl, hc, hs⟩ := r
  exact ⟨n, _, h1, by show c ≤ 601024; omega, by show s ≤ 7293034; omega⟩
