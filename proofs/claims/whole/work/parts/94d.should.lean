/-! should -/
theorem lv_63 {op : Nat → Bool} {x n y : Nat} (hx : x < 64) (hy : y < 64) (h : lvA op x n y = true) : lvA op x 63 y = true := by
  have h64 := lv_64 hx hy h
  have ho : op x = true := lv_op (lv_symm hx 64 y hy h64)
  rcases lv_cnt hx ho 63 with ⟨k, hk, hs⟩ | z
  · have e1 := lv_stab hs (64 - k) y hy
    have e2 := lv_stab hs (63 - k) y hy
    rw [show k + (64 - k) = 64 by omega] at e1
    rw [show k + (63 - k) = 63 by omega] at e2
    rw [e2, ← e1]
    exact h64
  · cases hq : lvA op x 63 y with
    | true => rfl
    | false =>
      have u := smF_upd (f := fun y => (lvA op x 63 y).toNat) (a := y) (n := 64) hy (by show (lvA op x 63 y).toNat = 0; rw [hq]; rfl)
      have := smF_le (f := fun i => if i = y then 1 else (lvA op x 63 i).toNat) (n := 64) (fun i _ => by
        show (if i = y then 1 else (lvA op x 63 i).toNat) ≤ 1
        split
        · exact Nat.le_refl _
        · cases lvA op x 63 i <;> decide)
      omega
theorem fr_64 {op : Nat → Bool} {x y : Nat} (hx : x < 64) (hy : y < 64) : (frst (fun n => lvA op x n y) 64 = none ∧ lvA op x 64 y = false) ∨ ∃ n, n < 64 ∧ frst (fun n => lvA op x n y) 64 = some n ∧ lvA op x 64 y = true := by
  rcases frst_cases (fun n => lvA op x n y) 64 with ⟨h1, h2⟩ | ⟨n, h1, h2, h3, h4⟩
  · left
    refine ⟨h1, ?_⟩
    cases hq : lvA op x 64 y with
    | false => rfl
    | true =>
      have := h2 63 (by omega)
      have e : lvA op x 63 y = true := lv_63 hx hy hq
      rw [e] at this
      cases this
  · exact Or.inr ⟨n, h1, h2, lv_64 hx hy h3⟩
theorem fr_sym {op : Nat → Bool} {x y : Nat} (hx : x < 64) (hy : y < 64) : frst (fun n => lvA op x n y) 64 = frst (fun n => lvA op y n x) 64 := frst_cong (fun i _ => lv_sym hx hy)
/-- how far, or 0 -/
def dvN (op : Nat → Bool) (x y N : Nat) : Nat := (frst (fun n => lvA op x n y) N).getD 0
theorem dvN_le {op : Nat → Bool} {x y N : Nat} : dvN op x y N ≤ N := by
  unfold dvN
  rcases frst_cases (fun n => lvA op x n y) N with ⟨h1, _⟩ | ⟨n, h1, h2, _⟩
  · rw [h1]; exact Nat.zero_le _
  · rw [h2]; show n ≤ N; omega
def frB (op : Nat → Bool) (x n y : Nat) : Bool := lvA op x n y && !(decide (0 < n) && lvA op x (n - 1) y)
theorem lv_not {op : Nat → Bool} {x n y : Nat} (h : lvA op x n y = false) : ∀ m, m ≤ n → lvA op x m y = false := by
  intro m hm
  cases hq : lvA op x m y with
  | false => rfl
  | true => rw [lv_mono hm hq] at h; cases h
theorem dvN_s {op : Nat → Bool} {x y n : Nat} : dvN op x y (n + 1) = dvN op x y n + if frB op x n y = true then n else 0 := by
  unfold dvN frB
  rcases frst_cases (fun n => lvA op x n y) n with ⟨h1, h2⟩ | ⟨m, h1, h2, h3, h4⟩
  · have hp : (decide (0 < n) && lvA op x (n - 1) y) = false := by
      by_cases z : 0 < n
      · rw [h2 (n - 1) (by omega), Bool.and_false]
      · rw [decide_eq_false z, Bool.false_and]
    rw [hp, h1]
    cases hq : lvA op x n y with
    | true =>
      rw [frst_some (p := fun n => lvA op x n y) hq h2 (Nat.lt_succ_self n)]
      show n = 0 + if (true : Bool) = true then n else 0
      rw [if_pos rfl, Nat.zero_add]
    | false =>
      have : frst (fun n => lvA op x n y) (n + 1) = none := frst_none (fun i hi => by
        by_cases z : i = n
        · subst z; exact hq
        · exact h2 i (by omega))
      rw [this]
      rfl
  · have e : lvA op x (n - 1) y = true := lv_mono (show m ≤ n - 1 by omega) h3
    rw [frst_some (p := fun n => lvA op x n y) h3 h4 (show m < n + 1 by omega), h2, e, decide_eq_true (show 0 < n by omega)]
    show m = m + if (lvA op x n y && !(true && true)) = true then n else 0
    rw [if_neg (by cases lvA op x n y <;> decide), Nat.add_zero]
theorem dvN_stop {op : Nat → Bool} {x y n : Nat} (hy : y < 64) (hn : n ≤ 64) (h : ∀ y, y < 64 → frB op x n y = false) : dvN op x y 64 = dvN op x y n := by
  have key : ∀ m, n ≤ m → lvA op x m y = true → ∃ k, k < n ∧ lvA op x k y = true := by
    intro m hm hl
    by_cases z : n = 0
    · subst z
      exfalso
      have l0 : ∀ y, y < 64 → lvA op x 0 y = false := fun y hy => by
        have := h y hy
        unfold frB at this
        rw [decide_eq_false (Nat.lt_irrefl 0), Bool.false_and, Bool.not_false, Bool.and_true] at this
        exact this
      have : ∀ m y, y < 64 → lvA op x m y = false := by
        intro m
        induction m with
        | zero => exact l0
        | succ m ih =>
          intro y hy
          rw [lvA, ih y hy, Bool.false_or]
          have : anyN (fun j => decide (nbr y j) && lvA op x m j) 64 = false := (anyN_no _ _).mpr (fun j hj => by rw [ih j hj, Bool.and_false])
          rw [this, Bool.and_false]
      rw [this m y hy] at hl
      cases hl
    · have st : ∀ y, y < 64 → lvA op x (n - 1 + 1) y = lvA op x (n - 1) y := by
        intro y hy
        have := h y hy
        unfold frB at this
        rw [decide_eq_true (show 0 < n by omega), Bool.true_and] at this
        rw [show n - 1 + 1 = n by omega]
        cases h1 : lvA op x (n - 1) y with
        | true => exact lv_mono (show n - 1 ≤ n by omega) h1
        | false => rw [h1] at this; cases h2 : lvA op x n y with
          | false => rfl
          | true => rw [h2] at this; cases this
      have e := lv_stab st (m - (n - 1)) y hy
      rw [show n - 1 + (m - (n - 1)) = m by omega, hl] at e
      exact ⟨n - 1, by omega, e.symm⟩
  unfold dvN
  have : frst (fun n => lvA op x n y) 64 = frst (fun n => lvA op x n y) n := by
    rcases frst_cases (fun n => lvA op x n y) n with ⟨h1, h2⟩ | ⟨m, h1, h2, h3, h4⟩
    · rw [h1]
      refine frst_none (fun i hi => ?_)
      cases hq : lvA op x i y with
      | false => rfl
      | true =>
        by_cases z : i < n
        · rw [h2 i z] at hq; cases hq
        · obtain ⟨k, hk, hl⟩ := key i (by omega) hq
          have := h2 k hk
          rw [hl] at this
          cases this
    · rw [h2]
      exact frst_some (p := fun n => lvA op x n y) h3 h4 (by omega)
  rw [this]
theorem C_addSteps {d Ln c s : Nat} {I : Nat → Nat → Int32} {L : Nat → Nat → Int64} {K : (Nat → Nat → Int32) → (Nat → Nat → Int64) → Prop} {w : Nat → Nat} {x : Nat} {T : Nat → Nat} (hd : 29 ≤ d) (hC : RC w I L) (hx : x < 64) (hT : ∀ y, y < 64 → I 140 y = nI (T y)) (kk : ∀ f, (∀ y, y < 64 → f y = nI (T y + dvN (opn w) x y 64)) → K (dd_u I 140 f) L) : dd_Ev d m_X7_addSteps [.ref 139, .int (nI x)] (sM Ln I L c s) (dd_RV Ln c s K) := by
  have ho : ∀ i, i < 64 → bL (L 1 0 ^^^ Int64.ofNat 18446744073709551615) i = opn w i := by
    intro i hi
    rw [bL_not _ hi, hC.tree hi]
    unfold opn
    rw [decide_eq_true hi, Bool.true_and]
  refine w_X7_addSteps_0 (by omega) ?_
  generalize (L 1 0 ^^^ Int64.ofNat 18446744073709551615) = o at *
  have key : ∀ (a b : Int64) (a9 : Value) (f : Nat → Int32), (∀ i, i < 64 → bL a i = lvA (opn w) x 0 i) → (∀ i, i < 64 → bL b i = frB (opn w) x 0 i) → (∀ y, y < 64 → f y = nI (T y + dvN (opn w) x y 0)) → dd_Rn d m_X7_addSteps (26, [.ref 139, .int (nI x), .long o, .null, .long a, .null, .long b, .null, .int (nI 0), a9], [], sM Ln (dd_u I 140 f) L c s) (dd_RV Ln c s K) := by
    refine dd_lp (fun n => ∀ (a b : Int64) (a9 : Value) (f : Nat → Int32), (∀ i, i < 64 → bL a i = lvA (opn w) x n i) → (∀ i, i < 64 → bL b i = frB (opn w) x n i) → (∀ y, y < 64 → f y = nI (T y + dvN (opn w) x y n)) → dd_Rn d m_X7_addSteps (26, [.ref 139, .int (nI x), .long o, .null, .long a, .null, .long b, .null, .int (nI n), a9], [], sM Ln (dd_u I 140 f) L c s) (dd_RV Ln c s K)) 64 ?_ ?_
    · intro a b a9 f ha hb hf
      refine w_X7_addSteps_26 (by omega) ?_
      rw [li_64, nI_leI (by omega) (by omega)]
      exact ⟨fun _ => dd_qV (kk f hf), fun z => absurd (Nat.le_refl _) z⟩
    · intro n hn ih a b a9 f ha hb hf
      refine w_X7_addSteps_26 (by omega) ?_
      rw [li_64, nI_leI (by omega) (by omega), L_zero]
      refine ⟨fun z => absurd z (by omega), fun _ => ⟨fun z => ?_, fun z => ?_⟩⟩
      · refine dd_qV (kk f (fun y hy => ?_))
        rw [dvN_stop (n := n) hy (by omega) (fun y hy => by rw [← hb y hy]; exact z y hy)]
        exact hf y hy
      · have inner : ∀ (f : Nat → Int32), (∀ y, y < 64 → f y = nI (T y + if y < 0 then dvN (opn w) x y (n + 1) else dvN (opn w) x y n)) → dd_Rn d m_X7_addSteps (43, [.ref 139, .int (nI x), .long o, .null, .long a, .null, .long b, .null, .int (nI n), .int (nI 0)], [], sM Ln (dd_u I 140 f) L c s) (dd_RV Ln c s K) := by
          refine dd_lp (fun j => ∀ (f : Nat → Int32), (∀ y, y < 64 → f y = nI (T y + if y < j then dvN (opn w) x y (n + 1) else dvN (opn w) x y n)) → dd_Rn d m_X7_addSteps (43, [.ref 139, .int (nI x), .long o, .null, .long a, .null, .long b, .null, .int (nI n), .int (nI j)], [], sM Ln (dd_u I 140 f) L c s) (dd_RV Ln c s K)) 64 ?_ ?_
          · intro f hf
            refine w_X7_addSteps_43 (by omega) ?_
            rw [li_64, nI_leI (by omega) (by omega)]
            refine ⟨fun _ => C_beside (by omega) ?_, fun z => absurd (Nat.le_refl _) z⟩
            simp only [nI_1]
            have fr' : ∀ i, i < 64 → bL ((besL b &&& o) &&& (a ^^^ Int64.ofNat 18446744073709551615)) i = frB (opn w) x (n + 1) i := by
              intro i hi
              have e : bL ((besL b &&& o) &&& (a ^^^ Int64.ofNat 18446744073709551615)) i = true ↔ frB (opn w) x (n + 1) i = true := by
                unfold frB
                rw [bL_and, bL_and, bL_not _ hi, ha i hi, ho i hi, Bool.and_eq_true, Bool.and_eq_true, bes_b hi, decide_eq_true (Nat.succ_pos n), Bool.true_and, Nat.add_sub_cancel, Bool.and_eq_true, lv_s]
                constructor
                · rintro ⟨⟨⟨j, q1, q2, q3⟩, q4⟩, q5⟩
                  rw [hb j q1] at q3
                  unfold frB at q3
                  rw [Bool.and_eq_true] at q3
                  exact ⟨Or.inr ⟨q4, j, q1, q2, q3.1⟩, q5⟩
                · rintro ⟨q1 | ⟨q1, j, q2, q3, q4⟩, q5⟩
                  · rw [q1] at q5; cases q5
                  · refine ⟨⟨⟨j, q2, q3, ?_⟩, q1⟩, q5⟩
                    rw [hb j q2]
                    unfold frB
                    rw [q4, Bool.true_and]
                    cases hz : (decide (0 < n) && lvA (opn w) x (n - 1) j) with
                    | false => rfl
                    | true =>
                      rw [Bool.and_eq_true, decide_eq_true_eq] at hz
                      have : lvA (opn w) x (n - 1 + 1) i = true := lv_s.mpr (Or.inr ⟨q1, j, q2, q3, hz.2⟩)
                      rw [show n - 1 + 1 = n by omega] at this
                      rw [this] at q5
                      cases q5
              cases h1 : bL ((besL b &&& o) &&& (a ^^^ Int64.ofNat 18446744073709551615)) i with
              | true => exact (e.mp h1).symm
              | false => cases h2 : frB (opn w) x (n + 1) i with
                | true => rw [e.mpr h2] at h1; cases h1
                | false => rfl
            refine ih _ _ _ f (fun i hi => ?_) fr' (fun y hy => ?_)
            · rw [bL_or, fr' i hi, ha i hi]
              unfold frB
              rw [decide_eq_true (Nat.succ_pos n), Bool.true_and, Nat.add_sub_cancel]
              cases h1 : lvA (opn w) x n i with
              | true => rw [lv_s.mpr (Or.inl h1)]; rfl
              | false => cases lvA (opn w) x (n + 1) i <;> rfl
            · rw [hf y hy, if_pos hy]
          · intro j hj ihj f hf
            have tj : tn (nI j) = j := nI_clamp (by omega)
            refine w_X7_addSteps_43 (by omega) ?_
            rw [li_64, nI_leI (by omega) (by omega), L_bit hj, hb j hj, tj, dd_us, dd_u_u, hf j hj, if_neg (Nat.lt_irrefl j), nI_add]
            simp only [nI_1]
            refine ⟨fun z => absurd z (by omega), fun _ => ⟨fun z => ?_, fun z => ⟨⟨nI_pos' (by omega), by omega⟩, ⟨nI_pos' (by omega), by omega⟩, ?_⟩⟩⟩
            · refine ihj f (fun y hy => ?_)
              rw [hf y hy]
              by_cases e : y = j
              · subst e
                rw [if_neg (Nat.lt_irrefl y), if_pos (Nat.lt_succ_self y), dvN_s, if_neg (by rw [z]; decide), Nat.add_zero]
              · by_cases e2 : y < j
                · rw [if_pos e2, if_pos (by omega)]
                · rw [if_neg e2, if_neg (by omega)]
            · refine ihj _ (fun y hy => ?_)
              by_cases e : y = j
              · subst e
                rw [pk_us, if_pos (Nat.lt_succ_self y), dvN_s, if_pos (by cases hq : frB (opn w) x n y with
                  | true => rfl
                  | false => exact absurd hq z), Nat.add_assoc]
              · rw [pk_un e, hf y hy]
                by_cases e2 : y < j
                · rw [if_pos e2, if_pos (by omega)]
                · rw [if_neg e2, if_neg (by omega)]
        exact inner f (fun y hy => by rw [if_neg (Nat.not_lt_zero y)]; exact hf y hy)
  have := key _ _ .null (I 140) (lv_start hx ho) (fun i hi => by
    rw [lv_start hx ho i hi]
    unfold frB
    rw [decide_eq_false (Nat.lt_irrefl 0), Bool.false_and, Bool.not_false, Bool.and_true]) (fun y hy => hT y hy)
  rw [dd_u_id] at this
  exact this

theorem C_fill140 {d Ln c s : Nat} {I : Nat → Nat → Int32} {L : Nat → Nat → Int64} {K : (Nat → Nat → Int32) → (Nat → Nat → Int64) → Prop} (hd : 28 ≤ d) (kk : ∀ f, (∀ y, y < 64 → f y = nI 0) → K (dd_u I 140 f) L) : dd_Ev d m_J7_fill_53178 [.ref 140, .int 0] (sM Ln I L c s) (dd_RV Ln c s K) := by
  refine w_J7_fill_53178_140_0 hd ?_
  have key : ∀ f, (∀ y, y < 0 → f y = nI 0) → dd_Rn d m_J7_fill_53178 (5, [.ref 140, .int 0, .int (nI 0), .int 64], [], sM Ln (dd_u I 140 f) L c s) (dd_RV Ln c s K) := by
    refine dd_lp (fun i => ∀ f, (∀ y, y < i → f y = nI 0) → dd_Rn d m_J7_fill_53178 (5, [.ref 140, .int 0, .int (nI i), .int 64], [], sM Ln (dd_u I 140 f) L c s) (dd_RV Ln c s K)) 64 ?_ ?_
    · intro f hf
      refine w_J7_fill_53178_140_5 hd ?_
      rw [li_64, nI_leI (by omega) (by omega)]
      exact ⟨fun _ => dd_qV (kk f hf), fun z => absurd (Nat.le_refl _) z⟩
    · intro i hi ih f hf
      have ti : tn (nI i) = i := nI_clamp (by omega)
      refine w_J7_fill_53178_140_5 hd ?_
      rw [li_64, nI_leI (by omega) (by omega), ti, dd_us, dd_u_u, nI_1]
      refine ⟨fun z => absurd z (by omega), fun _ => ⟨⟨nI_pos' (by omega), by omega⟩, ih _ (fun y hy => ?_)⟩⟩
      by_cases q : y = i
      · subst q; rw [pk_us]; rfl
      · rw [pk_un q]; exact hf y (by omega)
  have := key (I 140) (fun y hy => absurd hy (Nat.not_lt_zero y))
  rw [dd_u_id] at this
  exact this
def lsB (w : Nat → Nat) (b : Nat) : Bool := !decide (w (187 + 5 * b + 3) = 1)
/-- of the first boys: the sum of their ways to a cell, and whether all reach it -/
def tgA (w : Nat → Nat) (y : Nat) : Nat → Nat := lpf (fun b x => x + if lsB w b = true then dvN (opn w) (w (187 + 5 * b)) y 64 else 0) 0
def alA (w : Nat → Nat) (y i : Nat) : Bool := allN (fun b => !lsB w b || lvA (opn w) (w (187 + 5 * b)) 64 y) i
theorem tgA_le {w : Nat → Nat} {y : Nat} : ∀ i, tgA w y i ≤ 64 * i := by
  intro i
  induction i with
  | zero => exact Nat.le_refl _
  | succ i ih =>
    have e : tgA w y (i + 1) = tgA w y i + if lsB w i = true then dvN (opn w) (w (187 + 5 * i)) y 64 else 0 := rfl
    have := dvN_le (op := opn w) (x := w (187 + 5 * i)) (y := y) (N := 64)
    rw [e]
    split <;> omega
/-- the first of the least -/
def mnO (al : Nat → Bool) (t : Nat → Nat) : Nat → Option Nat := lpf (fun y o => if al y = true then (match o with | none => some y | some m => if t y < t m then some y else some m) else o) none
theorem mnO_n {al : Nat → Bool} {t : Nat → Nat} {i : Nat} (h : ¬ al i = true) : mnO al t (i + 1) = mnO al t i := by
  have e : mnO al t (i + 1) = if al i = true then (match mnO al t i with | none => some i | some m => if t i < t m then some i else some m) else mnO al t i := rfl
  rw [e, if_neg h]
theorem mnO_0 {al : Nat → Bool} {t : Nat → Nat} {i : Nat} (h : al i = true) (h2 : mnO al t i = none) : mnO al t (i + 1) = some i := by
  have e : mnO al t (i + 1) = if al i = true then (match mnO al t i with | none => some i | some m => if t i < t m then some i else some m) else mnO al t i := rfl
  rw [e, if_pos h, h2]
theorem mnO_m {al : Nat → Bool} {t : Nat → Nat} {i m : Nat} (h : al i = true) (h2 : mnO al t i = some m) : mnO al t (i + 1) = if t i < t m then some i else some m := by
  have e : mnO al t (i + 1) = if al i = true then (match mnO al t i with | none => some i | some m => if t i < t m then some i else some m) else mnO al t i := rfl
  rw [e, if_pos h, h2]
theorem mnO_lt {al : Nat → Bool} {t : Nat → Nat} : ∀ {i m : Nat}, mnO al t i = some m → m < i := by
  intro i
  induction i with
  | zero => intro m h; cases h
  | succ i ih =>
    intro m h
    by_cases q : al i = true
    · cases h2 : mnO al t i with
      | none => rw [mnO_0 q h2] at h; cases h; omega
      | some k =>
        rw [mnO_m q h2] at h
        have := ih h2
        split at h
        · cases h; omega
        · cases h; omega
    · rw [mnO_n q] at h
      have := ih h
      omega
