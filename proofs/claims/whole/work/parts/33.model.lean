/-! What stays as it is -/
def sameL (w w' : Nat → Nat) : Prop := w' 3 = w 3 ∧ ∀ j, 522 ≤ j → w' j = w j
theorem sameL.refl (w : Nat → Nat) : sameL w w := ⟨rfl, fun _ _ => rfl⟩
theorem sameL.trans {a b c : Nat → Nat} (h : sameL a b) (h2 : sameL b c) : sameL a c := ⟨h2.1.trans h.1, fun j hj => (h2.2 j hj).trans (h.2 j hj)⟩
theorem sameL_upw {w : Nat → Nat} {j v : Nat} (h3 : j ≠ 3) (h : j < 522) : sameL w (upw w j v) := ⟨upw_ne (by omega), fun i hi => upw_ne (by omega)⟩
theorem evA_cong {w w' : Nat → Nat} (h : sameL w w') (F : Nat → Nat) (sil fer : Bool) (a : Nat) : ∀ n, evA w' F sil fer a n = evA w F sil fer a n := by
  intro n
  induction n with
  | zero => rfl
  | succ n ih =>
    rw [evA, evA, ih]
    unfold evS
    rw [h.2 _ (by omega), h.2 _ (by omega)]
theorem hldL_cong {w w' : Nat → Nat} (h : sameL w w') (F : Nat → Nat) (sil fer : Bool) (n : Nat) : hldL w' F sil fer n = hldL w F sil fer n := by
  unfold hldL
  rw [h.2 _ (by omega), h.2 _ (by omega), evA_cong h]
theorem sumL_cong {w w' : Nat → Nat} (h : sameL w w') (F : Nat → Nat) (sil fer : Bool) (kd : Nat) : sumL w' F sil fer kd = sumL w F sil fer kd := by
  unfold sumL sumA
  rw [h.1, h.2 522 (by omega)]
  congr 1
  refine lpf_cong fun i x _ => ?_
  rw [h.2 _ (by omega), h.2 _ (by omega), hldL_cong h]
theorem okN_cong {w w' : Nat → Nat} (h : sameL w w') {n : Nat} (ho : okN w n) : okN w' n := by
  obtain ⟨h1, h2, h3, h4, h5⟩ := ho
  unfold okN
  rw [h.2 _ (by omega), h.2 _ (by omega), h.2 _ (by omega), h.2 _ (by omega)]
  refine ⟨h1, h2, h3, h4, fun F sil fer hF => ⟨fun i hi => ?_, fun i hi => ?_⟩⟩
  · rw [evA_cong h]
    exact (h5 F sil fer hF).1 i hi
  · rw [evA_cong h]
    have := (h5 F sil fer hF).2 i hi
    unfold okS at *
    rw [h.2 _ (by omega), h.2 _ (by omega)]
    exact this
theorem LawOK_cong {w w' : Nat → Nat} (h : sameL w w') (ho : LawOK w) : LawOK w' := by
  unfold LawOK at *
  rw [h.1, h.2 522 (by omega)]
  exact ⟨ho.1, fun q => ⟨(ho.2 q).1, fun n hn => okN_cong h ((ho.2 q).2 n hn)⟩⟩
theorem sumA_le {w F : Nat → Nat} {sil fer : Bool} {kd : Nat} : ∀ n, (∀ i, i < n → w (523 + 4 * i + 1) ≤ 20) → sumA w F sil fer kd n ≤ 20 * n := by
  intro n
  induction n with
  | zero => intro _; exact Nat.le_refl _
  | succ n ih =>
    intro h
    have h1 := ih (fun i hi => h i (by omega))
    have h2 := h n (by omega)
    unfold sumA at *
    rw [lpf]
    split <;> omega
theorem sumL_le {w F : Nat → Nat} {sil fer : Bool} {kd : Nat} (ho : LawOK w) : sumL w F sil fer kd ≤ 240 := by
  unfold sumL
  split
  · rename_i q
    have := sumA_le (w := w) (F := F) (sil := sil) (fer := fer) (kd := kd) (w 522) (fun i hi => ((ho.2 q).2 i hi).2.1)
    have := (ho.2 q).1
    omega
  · omega
theorem okW_s {w : Nat → Nat} (h : OKW w) {j v : Nat} (hj : j ≤ 10) (h3 : j ≠ 3) (hv : (j = 0 → v ≤ 6) ∧ (j = 1 → v ≤ 6) ∧ (j = 2 → v ≤ 12) ∧ (j = 4 → v < 64) ∧ (j = 5 → v ≤ 15) ∧ (j = 6 → v ≤ 100) ∧ (j = 7 → v < 8) ∧ (j = 8 → v ≤ 9999) ∧ (j = 9 → v ≤ 60) ∧ (j = 10 → v < 2 ^ 32)) : OKW (upw w j v) := by
  obtain ⟨hW, hT, hP, hB, hL⟩ := h
  obtain ⟨w0, w1, w2, w4, w5, w6, w7, w8, w9, w10⟩ := hW
  refine ⟨?_, ?_, ?_, ?_, LawOK_cong (sameL_upw h3 (by omega)) hL⟩
  · unfold okW upw
    refine ⟨?_, ?_, ?_, ?_, ?_, ?_, ?_, ?_, ?_, ?_⟩ <;> split <;> omega
  · intro c hc
    rw [upw_ne (by omega), upw_ne (by omega)]
    exact hT c hc
  · intro p hp b hb
    rw [upw_ne (by omega)]
    exact hP p hp b hb
  · intro b hb
    have := hB b hb
    unfold okB at *
    rw [upw_ne (by omega), upw_ne (by omega), upw_ne (by omega), upw_ne (by omega), upw_ne (by omega)]
    exact this
theorem okW_b {w : Nat → Nat} (h : OKW w) {b k v : Nat} (hb : b ≤ 6) (hk : k < 5) (hv : (k = 0 → v < 64) ∧ (k = 1 → v < 6) ∧ (k = 2 → v ≤ 15) ∧ (k = 3 → v ≤ 1) ∧ (k = 4 → v ≤ 99)) : OKW (upw w (187 + 5 * b + k) v) := by
  obtain ⟨hW, hT, hP, hB, hL⟩ := h
  refine ⟨?_, ?_, ?_, ?_, LawOK_cong (sameL_upw (by omega) (by omega)) hL⟩
  · unfold okW at *
    simp (disch := omega) only [upw_ne]
    exact hW
  · intro c hc
    rw [upw_ne (by omega), upw_ne (by omega)]
    exact hT c hc
  · intro p hp b hb
    rw [upw_ne (by omega)]
    exact hP p hp b hb
  · intro b' hb'
    obtain ⟨a0, a1, a2, a3, a4, a5⟩ := hB b' hb'
    unfold okB upw
    refine ⟨hb', ?_, ?_, ?_, ?_, ?_⟩ <;> split <;> omega
theorem okW_t {w : Nat → Nat} (h : OKW w) {c v : Nat} (hc : c < 64) (hv : v ≤ 1) : OKW (upw w (11 + c) v) := by
  obtain ⟨hW, hT, hP, hB, hL⟩ := h
  refine ⟨?_, ?_, ?_, ?_, LawOK_cong (sameL_upw (by omega) (by omega)) hL⟩
  · unfold okW at *
    simp (disch := omega) only [upw_ne]
    exact hW
  · intro c' hc'
    obtain ⟨a0, a1⟩ := hT c' hc'
    unfold upw
    refine ⟨?_, ?_⟩ <;> split <;> omega
  · intro p hp b hb
    rw [upw_ne (by omega)]
    exact hP p hp b hb
  · intro b hb
    have := hB b hb
    unfold okB at *
    rw [upw_ne (by omega), upw_ne (by omega), upw_ne (by omega), upw_ne (by omega), upw_ne (by omega)]
    exact this
theorem okW_f {w : Nat → Nat} (h : OKW w) {c v : Nat} (hc : c < 64) (hv : v ≤ 9) : OKW (upw w (75 + c) v) := by
  obtain ⟨hW, hT, hP, hB, hL⟩ := h
  refine ⟨?_, ?_, ?_, ?_, LawOK_cong (sameL_upw (by omega) (by omega)) hL⟩
  · unfold okW at *
    simp (disch := omega) only [upw_ne]
    exact hW
  · intro c' hc'
    obtain ⟨a0, a1⟩ := hT c' hc'
    unfold upw
    refine ⟨?_, ?_⟩ <;> split <;> omega
  · intro p hp b hb
    rw [upw_ne (by omega)]
    exact hP p hp b hb
  · intro b hb
    have := hB b hb
    unfold okB at *
    rw [upw_ne (by omega), upw_ne (by omega), upw_ne (by omega), upw_ne (by omega), upw_ne (by omega)]
    exact this
theorem okW_n {w : Nat → Nat} (h : OKW w) {p b v : Nat} (hp : p < 6) (hb : b < 8) (hv : v ≤ 9) : OKW (upw w (139 + 8 * p + b) v) := by
  obtain ⟨hW, hT, hP, hB, hL⟩ := h
  refine ⟨?_, ?_, ?_, ?_, LawOK_cong (sameL_upw (by omega) (by omega)) hL⟩
  · unfold okW at *
    simp (disch := omega) only [upw_ne]
    exact hW
  · intro c hc
    rw [upw_ne (by omega), upw_ne (by omega)]
    exact hT c hc
  · intro p' hp' b' hb'
    have := hP p' hp' b' hb'
    unfold upw
    split <;> omega
  · intro b hb
    have := hB b hb
    unfold okB at *
    rw [upw_ne (by omega), upw_ne (by omega), upw_ne (by omega), upw_ne (by omega), upw_ne (by omega)]
    exact this
theorem tel_lo {w : Nat → Nat} {b x j : Nat} (h : j < 222) (h9 : j ≠ 9) : tel w b x j = w j := by
  unfold tel
  rw [if_neg h9, if_pos (Or.inl h)]
theorem tel_hi {w : Nat → Nat} {b x j : Nat} (h : 522 ≤ j) : tel w b x j = w j := by
  unfold tel
  rw [if_neg (by omega), if_pos (Or.inr h)]
theorem tel_9 {w : Nat → Nat} {b x : Nat} : tel w b x 9 = min 60 (w 9 + 1) := if_pos rfl
theorem okW_tel {w : Nat → Nat} (h : OKW w) {b x : Nat} : OKW (tel w b x) := by
  obtain ⟨hW, hT, hP, hB, hL⟩ := h
  refine ⟨?_, ?_, ?_, ?_, LawOK_cong ⟨tel_lo (by omega) (by omega), fun j hj => tel_hi hj⟩ hL⟩
  · unfold okW at *
    simp (disch := omega) only [tel_lo, tel_9]
    omega
  · intro c hc
    rw [tel_lo (by omega) (by omega), tel_lo (by omega) (by omega)]
    exact hT c hc
  · intro p hp b hb
    rw [tel_lo (by omega) (by omega)]
    exact hP p hp b hb
  · intro b hb
    have := hB b hb
    unfold okB at *
    rw [tel_lo (by omega) (by omega), tel_lo (by omega) (by omega), tel_lo (by omega) (by omega), tel_lo (by omega) (by omega), tel_lo (by omega) (by omega)]
    exact this
/-- all but beat, night, rows, seed, boys, log -/
def stat (w w' : Nat → Nat) : Prop := ∀ j, (j < 7 ∨ (11 ≤ j ∧ j < 187) ∨ 522 ≤ j) → w' j = w j
theorem stat.refl (w : Nat → Nat) : stat w w := fun _ _ => rfl
theorem stat.trans {a b c : Nat → Nat} (h : stat a b) (h2 : stat b c) : stat a c := fun j hj => (h2 j hj).trans (h j hj)
theorem stat_upw {w : Nat → Nat} {j v : Nat} (h : (7 ≤ j ∧ j < 11) ∨ (187 ≤ j ∧ j < 522)) : stat w (upw w j v) := fun i hi => upw_ne (by omega)
theorem stat_tel {w : Nat → Nat} {b x : Nat} : stat w (tel w b x) := by
  intro j hj
  by_cases h : j < 222
  · exact tel_lo h (by omega)
  · exact tel_hi (by omega)
theorem stat.L {w w' : Nat → Nat} (h : stat w w') : sameL w w' := ⟨h 3 (by omega), fun j hj => h j (by omega)⟩
theorem okW_ist {w : Nat → Nat} (h : OKW w) {b x : Nat} (hb : b ≤ 6) (hx : x < 64) : OKW (ist w b x) := by
  unfold ist
  have h1 : OKW (upw w (187 + 5 * b) x) := okW_b (k := 0) h hb (by omega) (by omega)
  split
  · exact okW_b h1 hb (by omega) (by omega)
  · exact h1
theorem stat_ist {w : Nat → Nat} {b x : Nat} (hb : b ≤ 6) : stat w (ist w b x) := by
  unfold ist
  split
  · exact (stat_upw (by omega)).trans (stat_upw (by omega))
  · exact stat_upw (by omega)
theorem okW_gbW {w : Nat → Nat} (h : OKW w) {b x : Nat} (hb : b ≤ 6) : OKW (gbW w b x) := by
  unfold gbW
  split
  · exact h
  · exact okW_ist h hb (cby_lt ((h.2.2.2.1 b hb).2.1))
theorem stat_gbW {w : Nat → Nat} {b x : Nat} (hb : b ≤ 6) : stat w (gbW w b x) := by
  unfold gbW
  split
  · exact stat.refl w
  · exact stat_ist hb
theorem okW_drw {w : Nat → Nat} (h : OKW w) : OKW (drw w) := by
  unfold drw
  exact okW_s h (by omega) (by omega) (by omega)
theorem stat_drw {w : Nat → Nat} : stat w (drw w) := stat_upw (by omega)
theorem drw_ne {w : Nat → Nat} {j : Nat} (h : j ≠ 10) : drw w j = w j := upw_ne h
theorem okW_stry {w : Nat → Nat} (h : OKW w) {b : Nat} (hb : b ≤ 6) : OKW (stry w b) := by
  unfold stry
  split
  · exact okW_drw h
  · refine okW_tel ?_
    unfold str3
    have h2 : OKW (str2 (drw w) b) := by
      have h1 := okW_drw (okW_drw h)
      exact okW_ist h1 hb (stp_lt ((h1.2.2.2.1 b hb).2.1))
    exact okW_b h2 hb (by omega) (by omega)
theorem stat_stry {w : Nat → Nat} {b : Nat} (hb : b ≤ 6) : stat w (stry w b) := by
  unfold stry
  split
  · exact stat_drw
  · refine stat.trans ?_ stat_tel
    unfold str3
    refine stat.trans ?_ (stat_upw (by omega))
    unfold str2
    exact stat_drw.trans (stat_drw.trans (stat_ist hb))
theorem okW_bend {w : Nat → Nat} (h : OKW w) : OKW (bend w) := by
  unfold bend
  split
  · exact okW_s h (by omega) (by omega) (by omega)
  · exact okW_s (okW_s h (by omega) (by omega) (by omega)) (by omega) (by omega) (by omega)
theorem stat_bend {w : Nat → Nat} : stat w (bend w) := by
  unfold bend
  split
  · exact stat_upw (by omega)
  · exact (stat_upw (by omega)).trans (stat_upw (by omega))
theorem okW_oneG {w : Nat → Nat} (h : OKW w) {b : Nat} {cm : Bool} (hb : b ≤ 6) : OKW (oneG cm w b) := by
  unfold oneG
  split
  · exact okW_stry (okW_gbW h hb) hb
  · exact okW_gbW h hb
theorem stat_oneG {w : Nat → Nat} {b : Nat} {cm : Bool} (hb : b ≤ 6) : stat w (oneG cm w b) := by
  unfold oneG
  split
  · exact (stat_gbW hb).trans (stat_stry hb)
  · exact stat_gbW hb
theorem okW_oneB {w : Nat → Nat} (h : OKW w) {b : Nat} {cm : Bool} (hb : b ≤ 6) : OKW (oneB cm b w) := by
  unfold oneB
  split
  · exact h
  · split
    · exact okW_tel (okW_oneG h hb)
    · exact okW_oneG h hb
theorem stat_oneB {w : Nat → Nat} {b : Nat} {cm : Bool} (hb : b ≤ 6) : stat w (oneB cm b w) := by
  unfold oneB
  split
  · exact stat.refl w
  · split
    · exact (stat_oneG hb).trans stat_tel
    · exact stat_oneG hb
theorem boysA_ok {w : Nat → Nat} (h : OKW w) {cm : Bool} : ∀ i, i ≤ 6 → OKW (boysA cm w i).1 ∧ stat w (boysA cm w i).1 := by
  intro i
  induction i with
  | zero => intro _; exact ⟨h, stat.refl w⟩
  | succ i ih =>
    intro hi
    obtain ⟨h1, h2⟩ := ih (by omega)
    exact ⟨okW_oneB h1 (by omega), h2.trans (stat_oneB (by omega))⟩
theorem beatA_ok {w : Nat → Nat} (h : OKW w) {cm : Bool} : OKW (beatA cm w).1 ∧ stat w (beatA cm w).1 := by
  obtain ⟨h1, h2⟩ := boysA_ok h (cm := cm) (w 1) h.1.2.1
  exact ⟨okW_bend h1, h2.trans stat_bend⟩
theorem goA_ok {w : Nat → Nat} (h : OKW w) {cm : Bool} : ∀ i, OKW (goA cm w i).1 ∧ stat w (goA cm w i).1 := by
  intro i
  induction i with
  | zero => exact ⟨h, stat.refl w⟩
  | succ i ih =>
    obtain ⟨h1, h2⟩ := beatA_ok ih.1 (cm := cm)
    exact ⟨h1, ih.2.trans h2⟩
