/-! calls, first, can: which cells one can come to -/
def fB (w : Nat → Nat) (b β y : Nat) : Nat → Nat := vF b (w (187 + 5 * b + 1)) (w (187 + 5 * b + 2)) (w (187 + 5 * b + 4)) β y (w 4)
def nx (w : Nat → Nat) (b β note y : Nat) : Nat := gcl w (fB w b β y) (w 5) (w (75 + y)) note y
def ledB (w : Nat → Nat) (b β nt y : Nat) : Bool := !sts w (fB w b β y) (w (75 + y)) nt && hrs w (fB w b β y) (w 5) (w (75 + y)) nt
theorem nx_eq {w : Nat → Nat} {b β note y : Nat} : nx w b β note y = if y = w 4 then y else if ledB w b β note y = true then cby w y note else y := by
  unfold nx gcl ledB
  by_cases q : y = w 4
  · rw [if_pos q, if_pos q]
  · rw [if_neg q, if_neg q]
    cases h1 : sts w (fB w b β y) (w (75 + y)) note with
    | true => rfl
    | false =>
      rw [if_neg (by decide)]
      rfl
theorem ledB_n {w : Nat → Nat} {b β nt y : Nat} (h : nt ≠ 0) : ledB w b β nt y = ledB w b β 1 y := by
  unfold ledB sts hrs
  rw [decide_eq_false h, decide_eq_false (show ¬ (1 : Nat) = 0 by decide)]
theorem nx_lt {w : Nat → Nat} {b β nt y : Nat} (h : y < 64) : nx w b β nt y < 64 := gcl_lt h
theorem nx_op {w : Nat → Nat} {b β nt y : Nat} (h : ¬ w (11 + y) = 1) : ¬ w (11 + nx w b β nt y) = 1 := by
  rw [nx_eq]
  split
  · exact h
  · split
    · exact opn_cby h
    · exact h
def nxS (w : Nat → Nat) (b β y z : Nat) : Bool := anyN (fun note => decide (nx w b β note y = z)) 8
theorem cby_hi {w : Nat → Nat} {y n : Nat} (h : 5 ≤ n) : cby w y n = y := by
  unfold cby
  rw [if_neg (by omega), if_neg (by omega)]
theorem cby_sd {w : Nat → Nat} {y n : Nat} (h1 : 1 ≤ n) (h : n ≤ 4) : cby w y n = stp w y n := by
  unfold cby
  rw [if_neg (by omega), if_pos h]
theorem nxS_iff {w : Nat → Nat} {b β y z : Nat} : nxS w b β y z = true ↔ z = y ∨ (¬ y = w 4 ∧ ledB w b β 1 y = true ∧ ∃ sd, 1 ≤ sd ∧ sd ≤ 4 ∧ stp w y sd = z) ∨ (¬ y = w 4 ∧ ledB w b β 0 y = true ∧ nrr w y = z) := by
  unfold nxS
  rw [anyN_iff]
  constructor
  · rintro ⟨nt, hn, q⟩
    rw [decide_eq_true_eq, nx_eq] at q
    by_cases z4 : y = w 4
    · rw [if_pos z4] at q
      exact Or.inl q.symm
    · rw [if_neg z4] at q
      by_cases zl : ledB w b β nt y = true
      · rw [if_pos zl] at q
        by_cases n0 : nt = 0
        · subst n0
          exact Or.inr (Or.inr ⟨z4, zl, q⟩)
        · rw [ledB_n n0] at zl
          by_cases n4 : nt ≤ 4
          · rw [cby_sd (by omega) n4] at q
            exact Or.inr (Or.inl ⟨z4, zl, nt, by omega, n4, q⟩)
          · rw [cby_hi (by omega)] at q
            exact Or.inl q.symm
      · rw [if_neg zl] at q
        exact Or.inl q.symm
  · rintro (q | ⟨q1, q2, sd, q3, q4, q5⟩ | ⟨q1, q2, q3⟩)
    · refine ⟨5, by omega, ?_⟩
      rw [decide_eq_true_eq, nx_eq, cby_hi (by omega), ite_self, ite_self]
      exact q.symm
    · refine ⟨sd, by omega, ?_⟩
      rw [decide_eq_true_eq, nx_eq, if_neg q1, ledB_n (by omega), if_pos q2, cby_sd q3 q4]
      exact q5
    · refine ⟨0, by omega, ?_⟩
      rw [decide_eq_true_eq, nx_eq, if_neg q1, if_pos q2]
      exact q3
def rs (w : Nat → Nat) (b t x : Nat) : Nat → Nat → Bool
  | 0, y => decide (y = x)
  | n + 1, z => anyN (fun y => rs w b t x n y && nxS w b ((t + n) % 8) y z) 64
theorem rs_s {w : Nat → Nat} {b t x n z : Nat} : rs w b t x (n + 1) z = true ↔ ∃ y, y < 64 ∧ rs w b t x n y = true ∧ nxS w b ((t + n) % 8) y z = true := by
  rw [rs, anyN_iff]
  constructor
  · rintro ⟨y, h1, h2⟩
    rw [Bool.and_eq_true] at h2
    exact ⟨y, h1, h2.1, h2.2⟩
  · rintro ⟨y, h1, h2, h3⟩
    exact ⟨y, h1, by rw [Bool.and_eq_true]; exact ⟨h2, h3⟩⟩
theorem nxS_st {w : Nat → Nat} {b β y z : Nat} (h : nxS w b β y z = true) : ∃ nt, nt < 8 ∧ nx w b β nt y = z := by
  unfold nxS at h
  rw [anyN_iff] at h
  obtain ⟨nt, h1, h2⟩ := h
  exact ⟨nt, h1, of_decide_eq_true h2⟩
theorem rs_ok {w : Nat → Nat} {b t x : Nat} (hx : x < 64) (ho : ¬ w (11 + x) = 1) : ∀ n y, rs w b t x n y = true → y < 64 ∧ ¬ w (11 + y) = 1 := by
  intro n
  induction n with
  | zero =>
    intro y h
    rw [rs, decide_eq_true_eq] at h
    rw [h]
    exact ⟨hx, ho⟩
  | succ n ih =>
    intro z h
    obtain ⟨y, h1, h2, h3⟩ := rs_s.mp h
    obtain ⟨nt, _, e⟩ := nxS_st h3
    rw [← e]
    exact ⟨nx_lt h1, nx_op (ih y h2).2⟩
theorem rs_up {w : Nat → Nat} {b t x n y : Nat} (hy : y < 64) (h : rs w b t x n y = true) : rs w b t x (n + 1) y = true := rs_s.mpr ⟨y, hy, h, nxS_iff.mpr (Or.inl rfl)⟩
theorem rs_mono {w : Nat → Nat} {b t x y : Nat} (hy : y < 64) : ∀ {m n : Nat}, n ≤ m → rs w b t x n y = true → rs w b t x m y = true := by
  intro m
  induction m with
  | zero =>
    intro n h q
    have : n = 0 := by omega
    subst this
    exact q
  | succ m ih =>
    intro n h q
    by_cases e : n = m + 1
    · subst e; exact q
    · exact rs_up hy (ih (by omega) q)
theorem rs_front {w : Nat → Nat} {b t x : Nat} (hx : x < 64) : ∀ n z, rs w b t x (n + 1) z = true ↔ ∃ nt, nt < 8 ∧ rs w b (t + 1) (nx w b (t % 8) nt x) n z = true := by
  intro n
  induction n with
  | zero =>
    intro z
    rw [rs_s]
    constructor
    · rintro ⟨y, h1, h2, h3⟩
      rw [rs, decide_eq_true_eq] at h2
      obtain ⟨nt, n1, e⟩ := nxS_st h3
      rw [h2, Nat.add_zero] at e
      exact ⟨nt, n1, by rw [rs, decide_eq_true_eq]; exact e.symm⟩
    · rintro ⟨nt, n1, e⟩
      rw [rs, decide_eq_true_eq] at e
      refine ⟨x, hx, by rw [rs, decide_eq_true_eq], ?_⟩
      unfold nxS
      rw [anyN_iff]
      exact ⟨nt, n1, by rw [decide_eq_true_eq, Nat.add_zero]; exact e.symm⟩
  | succ n ih =>
    intro z
    rw [rs_s]
    constructor
    · rintro ⟨y, h1, h2, h3⟩
      obtain ⟨nt, n1, e⟩ := (ih y).mp h2
      refine ⟨nt, n1, rs_s.mpr ⟨y, h1, e, ?_⟩⟩
      rw [show t + 1 + n = t + (n + 1) by omega]
      exact h3
    · rintro ⟨nt, n1, e⟩
      obtain ⟨y, h1, h2, h3⟩ := rs_s.mp e
      refine ⟨y, h1, (ih y).mpr ⟨nt, n1, h2⟩, ?_⟩
      rw [show t + 1 + n = t + (n + 1) by omega] at h3
      exact h3
/-! The class -/
def ldB (w : Nat → Nat) (b β nt y : Nat) : Bool := opn w y && (!decide (y = w 4) && ledB w b β nt y)
theorem RVq.fr {k num part ear bad beat loud : Nat} {row : Nat → Nat} {I I' : Nat → Nat → Int32} (h : RVq k num part ear bad beat loud row I) (e : ∀ j, k ≤ j → j < k + 3 → I' j = I j) : RVq k num part ear bad beat loud row I' := by
  obtain ⟨h0, h1, h2, h3, h4, h5, h6⟩ := h
  refine ⟨?_, ?_, ?_, ?_, ?_, fun j hj => ?_, ?_⟩
  · rw [e _ (by omega) (by omega)]; exact h0
  · rw [e _ (by omega) (by omega)]; exact h1
  · rw [e _ (by omega) (by omega)]; exact h2
  · rw [e _ (by omega) (by omega)]; exact h3
  · rw [e _ (by omega) (by omega)]; exact h4
  · rw [e _ (by omega) (by omega)]; exact h5 j hj
  · rw [e _ (by omega) (by omega)]; exact h6
abbrev RVw (w : Nat → Nat) (b β : Nat) (I : Nat → Nat → Int32) : Prop := RVq 133 b (w (187 + 5 * b + 1)) (w (187 + 5 * b + 2)) (w (187 + 5 * b + 4)) β (w 5) (prow w (w (187 + 5 * b + 1))) I
theorem C_leads {d Ln c s : Nat} {I : Nat → Nat → Int32} {L : Nat → Nat → Int64} {K : Int64 → (Nat → Nat → Int32) → (Nat → Nat → Int64) → Prop} {w : Nat → Nat} {b β nt : Nat} (hd : 31 ≤ d) (hC : RC w I L) (hO : OKW w) (hL : RLw w I) (hb : b < 6) (hβ : β < 8) (hn : nt ≤ 1) (hV : RVw w b β I) (kk : ∀ v I', (∀ y, y < 64 → bL v y = ldB w b β nt y) → RVw w b β I' → FV 133 I I' → K v I' L) : dd_Ev d m_X1_leads [.ref 141, .int (nI nt)] (sM Ln I L c s) (dd_RL Ln c s K) := by
  have hk : (133 : Nat) = 133 ∨ (133 : Nat) = 136 := Or.inl rfl
  have w4 := hO.1.2.2.2.1
  have w5 := hO.1.2.2.2.2.1
  obtain ⟨b0, b1, b2, b3, b4, b5⟩ := hO.2.2.2.1 b (by omega)
  refine w_X1_leads_0 (by omega) ?_
  have key : ∀ (a : Int64) I', (∀ y, y < 64 → bL a y = (decide (y < 0) && ldB w b β nt y)) → RVw w b β I' → FV 133 I I' → dd_Rn d m_X1_leads (5, [.ref 141, .int (nI nt), .long a, .null, .int (nI 0)], [], sM Ln I' L c s) (dd_RL Ln c s K) := by
    refine dd_lp (fun i => ∀ (a : Int64) I', (∀ y, y < 64 → bL a y = (decide (y < i) && ldB w b β nt y)) → RVw w b β I' → FV 133 I I' → dd_Rn d m_X1_leads (5, [.ref 141, .int (nI nt), .long a, .null, .int (nI i)], [], sM Ln I' L c s) (dd_RL Ln c s K)) 64 ?_ ?_
    · intro a I' ha v' f'
      refine w_X1_leads_5 (by omega) ?_
      rw [li_64, nI_leI (by omega) (by omega)]
      exact ⟨fun _ => dd_qL rfl (kk a I' (fun y hy => by rw [ha y hy, decide_eq_true hy, Bool.true_and]) v' f'), fun z => absurd (Nat.le_refl _) z⟩
    · intro i hi ih a I' ha v' f'
      have c1 := hC.fr f' (kA hk)
      have no : ldB w b β nt i = false → ∀ I2, RVw w b β I2 → FV 133 I I2 → dd_Rn d m_X1_leads (5, [.ref 141, .int (nI nt), .long a, .null, .int (nI (i + 1))], [], sM Ln I2 L c s) (dd_RL Ln c s K) := by
        intro lf I2 v2 f2
        refine ih a I2 (fun y hy => ?_) v2 f2
        rw [ha y hy]
        by_cases e : y = i
        · subst e; rw [lf, Bool.and_false, Bool.and_false]
        · rw [decide_eq_decide.mpr (show y < i ↔ y < i + 1 by omega)]
      refine w_X1_leads_5 (by omega) ?_
      rw [li_64, nI_leI (by omega) (by omega)]
      simp only [nI_1]
      refine ⟨fun z => absurd z (by omega), fun _ => ?_⟩
      refine C_isOpen (w := w) (by omega) c1 (by omega) ?_
      rw [bI_z, c1.fire, nI_eq (by omega) (by omega)]
      refine ⟨fun z => no (by unfold ldB; rw [z]; rfl) I' v' f', fun z => ⟨fun z2 => no (by unfold ldB; rw [decide_eq_true z2]; exact Bool.and_false _) I' v' f', fun z2 => ?_⟩⟩
      have zo : opn w i = true := by
        cases hz : opn w i with
        | true => rfl
        | false => exact absurd hz z
      refine C_standAt (w := w) (by omega) hk c1 w4 v' hi fun I2 v2 f2 => ?_
      have f12 := f'.trans f2
      refine w_X6_isLedBy_0 (by omega) hk ?_
      refine C_hears (w := w) (by omega) hk (hC.fr f12 (kA hk)) hO (hL.fr f12 (kA26 hk)) v2 (by omega) b2 b3 b5 hβ w5 hi (by omega) fun I3 e3 f3 => ?_
      have f13 : FV 133 I I3 := f12.trans (f3.mono (fun _ q => absurd q List.not_mem_nil) (fun _ q => q))
      have v3 : RVw w b β I3 := v2.1.fr (fun j h1 h2 => f3.1 j List.not_mem_nil (by omega))
      rw [e3, bI_z, bI_z]
      have el : ldB w b β nt i = (!sts w (fB w b β i) (w (75 + i)) nt && hrs w (fB w b β i) (w 5) (w (75 + i)) nt) := by
        unfold ldB ledB
        rw [zo, decide_eq_false z2]; rfl
      have yes : ldB w b β nt i = true → dd_Rn d m_X1_leads (5, [.ref 141, .int (nI nt), .long (a ||| (Int64.ofNat 1 <<< ((nI i).toInt64 &&& 63))), .null, .int (nI (i + 1))], [], sM Ln I3 L c s) (dd_RL Ln c s K) := by
        intro lt
        refine ih _ I3 (fun y hy => ?_) v3 f13
        rw [bL_or, bL_one hi hy, ha y hy]
        by_cases e : y = i
        · subst e; rw [lt, decide_eq_true rfl, decide_eq_true (Nat.lt_succ_self y), Bool.or_true]; rfl
        · rw [decide_eq_false e, Bool.or_false, decide_eq_decide.mpr (show y < i ↔ y < i + 1 by omega)]
      refine ⟨fun q => dd_qi ⟨fun _ => no (by rw [el]; show (_ && hrs w (fB w b β i) (w 5) (w (75 + i)) nt) = false; rw [show hrs w (fB w b β i) (w 5) (w (75 + i)) nt = false from q, Bool.and_false]) I3 v3 f13, fun q2 => absurd rfl q2⟩, fun q => ⟨fun q2 => dd_qi ⟨fun q3 => absurd q3 (by decide), fun _ => yes ?_⟩, fun q2 => dd_qi ⟨fun _ => no ?_ I3 v3 f13, fun q3 => absurd rfl q3⟩⟩⟩
      · rw [el, show sts w (fB w b β i) (w (75 + i)) nt = false from q2]
        cases hz : hrs w (fB w b β i) (w 5) (w (75 + i)) nt with
        | true => rfl
        | false => exact absurd hz q
      · rw [el]
        cases hz : sts w (fB w b β i) (w (75 + i)) nt with
        | true => rfl
        | false => exact absurd hz q2
  exact key _ I (fun y hy => by rw [bL_0, decide_eq_false (Nat.not_lt_zero y), Bool.false_and]) hV (FR.refl I)
def thkL (w : Nat → Nat) (b : Nat) (L : Nat → Nat → Int64) : Prop := ∀ β, β < 8 → ∀ y, y < 64 → bL (L 142 β) y = ldB w b β 0 y ∧ bL (L 143 β) y = ldB w b β 1 y
theorem C_thinkFor {d Ln c s : Nat} {I : Nat → Nat → Int32} {L : Nat → Nat → Int64} {K : (Nat → Nat → Int32) → (Nat → Nat → Int64) → Prop} {w : Nat → Nat} {b : Nat} (hd : 32 ≤ d) (hC : RC w I L) (hO : OKW w) (hL : RLw w I) (hb : b < 6) (kk : ∀ I' L', thkL w b L' → FV 133 I I' → (∀ k, k ≠ 142 → k ≠ 143 → L' k = L k) → K I' L') : dd_Ev d m_X1_thinkFor [.ref 141, .int (nI b)] (sM Ln I L c s) (dd_RV Ln c s K) := by
  have hk : (133 : Nat) = 133 ∨ (133 : Nat) = 136 := Or.inl rfl
  refine w_X1_thinkFor_0 (by omega) ?_
  refine C_follow (by omega) hk hC hO hb fun I1 v1 f1 => ?_
  have key : ∀ β0 I' L', RVw w b β0 I' → FV 133 I I' → (∀ β, β < 0 → ∀ y, y < 64 → bL (L' 142 β) y = ldB w b β 0 y ∧ bL (L' 143 β) y = ldB w b β 1 y) → (∀ k, k ≠ 142 → k ≠ 143 → L' k = L k) → dd_Rn d m_X1_thinkFor (10, [.ref 141, .int (nI b), .int (nI 0)], [], sM Ln I' L' c s) (dd_RV Ln c s K) := by
    refine dd_lp (fun i => ∀ β0 I' L', RVw w b β0 I' → FV 133 I I' → (∀ β, β < i → ∀ y, y < 64 → bL (L' 142 β) y = ldB w b β 0 y ∧ bL (L' 143 β) y = ldB w b β 1 y) → (∀ k, k ≠ 142 → k ≠ 143 → L' k = L k) → dd_Rn d m_X1_thinkFor (10, [.ref 141, .int (nI b), .int (nI i)], [], sM Ln I' L' c s) (dd_RV Ln c s K)) 8 ?_ ?_
    · intro β0 I' L' v' f' t' l'
      refine w_X1_thinkFor_10 (by omega) ?_
      rw [li_8, nI_leI (by omega) (by omega)]
      exact ⟨fun _ => dd_qV (kk I' L' t' f' l'), fun z => absurd (Nat.le_refl _) z⟩
    · intro i hi ih β0 I' L' v' f' t' l'
      have ti : tn (nI i) = i := nI_clamp (by omega)
      refine w_X1_thinkFor_10 (by omega) ?_
      rw [li_8, nI_leI (by omega) (by omega), ti]
      simp only [nI_1]
      refine ⟨fun z => absurd z (by omega), fun _ => ?_⟩
      have g1 : FV 133 I (dd_u I' 134 (upd (I' 134) 7 (nI i))) := f'.u (by decide) (by decide)
      have v1 : RVw w b i (dd_u I' 134 (upd (I' 134) 7 (nI i))) := by
        obtain ⟨h0, h1, h2, h3, h4, h5, h6⟩ := v'
        refine ⟨?_, ?_, ?_, ?_, ?_, fun j hj => ?_, ?_⟩
        · show dd_u I' 134 (upd (I' 134) 7 (nI i)) 134 0 = _
          rw [dd_us, pk_un (by decide)]; exact h0
        · show dd_u I' 134 (upd (I' 134) 7 (nI i)) 134 1 = _
          rw [dd_us, pk_un (by decide)]; exact h1
        · show dd_u I' 134 (upd (I' 134) 7 (nI i)) 134 2 = _
          rw [dd_us, pk_un (by decide)]; exact h2
        · show dd_u I' 134 (upd (I' 134) 7 (nI i)) 134 6 = _
          rw [dd_us, pk_un (by decide)]; exact h3
        · show dd_u I' 134 (upd (I' 134) 7 (nI i)) 134 7 = _
          rw [dd_us, pk_us]
        · rw [dd_un (by decide)]; exact h5 j hj
        · rw [dd_un (by decide)]; exact h6
      have cL : ∀ I2 L2, FV 133 I I2 → L2 1 = L 1 → RC w I2 L2 := fun I2 L2 f l => (hC.fr f (kA hk)).of (fun _ _ _ => rfl) l
      rw [li_0]
      refine C_leads (w := w) (b := b) (β := i) (nt := 0) (by omega) (cL _ _ g1 (l' 1 (by omega) (by omega))) hO (hL.fr g1 (kA26 hk)) hb hi (by omega) v1 fun x I2 hx v2 f2 => ?_
      refine ⟨⟨nI_pos' (by omega), by omega⟩, ?_⟩
      have g2 := g1.trans f2
      rw [li_1]
      refine C_leads (w := w) (b := b) (β := i) (nt := 1) (by omega) (cL _ _ g2 (by rw [dd_un (by decide)]; exact l' 1 (by omega) (by omega))) hO (hL.fr g2 (kA26 hk)) hb hi (by omega) v2 fun x3 I3 hx3 v3 f3 => ?_
      refine ⟨⟨nI_pos' (by omega), by omega⟩, ih i I3 _ v3 (g2.trans f3) (fun β hβ y hy => ?_) (fun k k1 k2 => by rw [dd_un k2, dd_un k1]; exact l' k k1 k2)⟩
      rw [dd_us, dd_un (show (142 : Nat) ≠ 143 by decide), dd_us, dd_un (show (143 : Nat) ≠ 142 by decide)]
      by_cases e : β = i
      · subst e
        rw [pk_uLs, pk_uLs]
        exact ⟨hx y hy, hx3 y hy⟩
      · rw [pk_uLn e, pk_uLn e]
        exact t' β (by omega) y hy
  exact key (w 7) I1 L v1.1 f1 (fun β hβ => absurd hβ (Nat.not_lt_zero β)) (fun _ _ _ => rfl)
theorem C_oneBeat {d Ln c s : Nat} {I : Nat → Nat → Int32} {L : Nat → Nat → Int64} {K : Int64 → (Nat → Nat → Int32) → (Nat → Nat → Int64) → Prop} {w : Nat → Nat} {b β : Nat} {a : Int64} {S : Nat → Bool} (hd : 30 ≤ d) (hC : RC w I L) (hO : OKW w) (hT : thkL w b L) (hβ : β < 8) (ha : ∀ y, y < 64 → bL a y = S y) (hS : ∀ y, S y = true → y < 64 ∧ ¬ w (11 + y) = 1) (kk : ∀ v, (∀ z, z < 64 → bL v z = anyN (fun y => S y && nxS w b β y z) 64) → K v I L) : dd_Ev d m_X1_oneBeatOn [.ref 141, .long a, .int (nI β)] (sM Ln I L c s) (dd_RL Ln c s K) := by
  have w4 := hO.1.2.2.2.1
  have tβ : tn (nI β) = β := nI_clamp (by omega)
  have ho : ∀ i, i < 64 → bL (L 1 0 ^^^ Int64.ofNat 18446744073709551615) i = opn w i := by
    intro i hi
    rw [bL_not _ hi, hC.tree hi]
    unfold opn
    rw [decide_eq_true hi, Bool.true_and]
  have sO : ∀ y, S y = true → opn w y = true := fun y q => opn_t.mpr ⟨(hS y q).1, (hS y q).2⟩
  refine w_X1_oneBeatOn_0 (by omega) ?_
  rw [tβ]
  refine ⟨⟨nI_pos' (by omega), by omega⟩, C_beside (by omega) ⟨⟨nI_pos' (by omega), by omega⟩, ?_⟩⟩
  have s1 : ∀ y, y < 64 → bL (a &&& L 142 β) y = (S y && ldB w b β 0 y) := fun y hy => by rw [bL_and, ha y hy, (hT β hβ y hy).1]
  have first : ∀ z, z < 64 → (bL (a ||| (besL (a &&& L 143 β) &&& (L 1 0 ^^^ Int64.ofNat 18446744073709551615))) z = true ↔ S z = true ∨ ∃ y, y < 64 ∧ S y = true ∧ ¬ y = w 4 ∧ ledB w b β 1 y = true ∧ ∃ sd, 1 ≤ sd ∧ sd ≤ 4 ∧ stp w y sd = z) := by
    intro z hz
    rw [bL_or, bL_and, Bool.or_eq_true, Bool.and_eq_true, ha z hz, ho z hz, bes_b hz]
    constructor
    · rintro (q | ⟨⟨y, y1, y2, y3⟩, q⟩)
      · exact Or.inl q
      · rw [bL_and, ha y y1, (hT β hβ y y1).2, Bool.and_eq_true] at y3
        have y4 := y3.2
        unfold ldB at y4
        rw [Bool.and_eq_true, Bool.and_eq_true, Bool.not_eq_true', decide_eq_false_iff_not] at y4
        exact Or.inr ⟨y, y1, y3.1, y4.2.1, y4.2.2, nb_stp y1 hz y2 q⟩
    · rintro (q | ⟨y, y1, y2, y3, y4, sd, d1, d4, e⟩)
      · exact Or.inl q
      · rcases stp_nb (w := w) (sd := sd) y1 with q | ⟨q1, q2, _⟩
        · rw [e] at q
          rw [q]
          exact Or.inl y2
        · rw [e] at q1 q2
          refine Or.inr ⟨⟨y, y1, q1, ?_⟩, q2⟩
          rw [bL_and, ha y y1, (hT β hβ y y1).2, y2, Bool.true_and]
          unfold ldB
          rw [sO y y2, decide_eq_false y3, y4]; rfl
  generalize (a ||| (besL (a &&& L 143 β) &&& (L 1 0 ^^^ Int64.ofNat 18446744073709551615))) = f0 at *
  generalize a &&& L 142 β = s0 at *
  have key : ∀ v, (∀ z, z < 64 → (bL v z = true ↔ bL f0 z = true ∨ ∃ y, y < 0 ∧ S y = true ∧ ldB w b β 0 y = true ∧ nrr w y = z)) → dd_Rn d m_X1_oneBeatOn (40, [.ref 141, .long a, .null, .int (nI β), .long v, .null, .long s0, .null, .int (nI 0)], [], sM Ln I L c s) (dd_RL Ln c s K) := by
    refine dd_lp (fun i => ∀ v, (∀ z, z < 64 → (bL v z = true ↔ bL f0 z = true ∨ ∃ y, y < i ∧ S y = true ∧ ldB w b β 0 y = true ∧ nrr w y = z)) → dd_Rn d m_X1_oneBeatOn (40, [.ref 141, .long a, .null, .int (nI β), .long v, .null, .long s0, .null, .int (nI i)], [], sM Ln I L c s) (dd_RL Ln c s K)) 64 ?_ ?_
    · intro v hv
      refine w_X1_oneBeatOn_40 (by omega) ?_
      rw [li_64, nI_leI (by omega) (by omega)]
      refine ⟨fun _ => dd_qL rfl (kk v (fun z hz => ?_)), fun z => absurd (Nat.le_refl _) z⟩
      have e : bL v z = true ↔ anyN (fun y => S y && nxS w b β y z) 64 = true := by
        rw [hv z hz, first z hz, anyN_iff]
        constructor
        · rintro ((q | ⟨y, y1, y2, y3, y4, y5⟩) | ⟨y, y1, y2, y3, y4⟩)
          · exact ⟨z, hz, by rw [q, Bool.true_and]; exact nxS_iff.mpr (Or.inl rfl)⟩
          · exact ⟨y, y1, by rw [y2, Bool.true_and]; exact nxS_iff.mpr (Or.inr (Or.inl ⟨y3, y4, y5⟩))⟩
          · unfold ldB at y3
            rw [Bool.and_eq_true, Bool.and_eq_true, Bool.not_eq_true', decide_eq_false_iff_not] at y3
            exact ⟨y, y1, by rw [y2, Bool.true_and]; exact nxS_iff.mpr (Or.inr (Or.inr ⟨y3.2.1, y3.2.2, y4⟩))⟩
        · rintro ⟨y, y1, q⟩
          rw [Bool.and_eq_true] at q
          obtain ⟨y2, q⟩ := q
          rcases nxS_iff.mp q with q | ⟨q1, q2, q3⟩ | ⟨q1, q2, q3⟩
          · rw [q]; exact Or.inl (Or.inl y2)
          · exact Or.inl (Or.inr ⟨y, y1, y2, q1, q2, q3⟩)
          · refine Or.inr ⟨y, y1, y2, ?_, q3⟩
            unfold ldB
            rw [sO y y2, decide_eq_false q1, q2]; rfl
      cases h1 : bL v z with
      | true => exact (e.mp h1).symm
      | false => cases h2 : anyN (fun y => S y && nxS w b β y z) 64 with
        | true => rw [e.mpr h2] at h1; cases h1
        | false => rfl
    · intro i hi ih v hv
      refine w_X1_oneBeatOn_40 (by omega) ?_
      rw [li_64, nI_leI (by omega) (by omega), L_bit hi, s1 i hi]
      simp only [nI_1]
      refine ⟨fun z => absurd z (by omega), fun _ => ⟨fun z => ih v (fun y hy => ?_), fun z => ?_⟩⟩
      · rw [hv y hy]
        constructor
        · rintro (q | ⟨u, u1, u2⟩)
          · exact Or.inl q
          · exact Or.inr ⟨u, by omega, u2⟩
        · rintro (q | ⟨u, u1, u2, u3, u4⟩)
          · exact Or.inl q
          · by_cases e : u = i
            · subst e; rw [u2, u3] at z; cases z
            · exact Or.inr ⟨u, by omega, u2, u3, u4⟩
      · have zt : S i = true ∧ ldB w b β 0 i = true := by
          cases h1 : S i <;> cases h2 : ldB w b β 0 i <;> first | exact ⟨rfl, rfl⟩ | exact absurd (by rw [h1, h2]; rfl) z
        have nl : nrr w i < 64 := by
          have : nrr w i = cby w i 0 := by unfold cby; rw [if_pos rfl]
          rw [this]
          exact cby_lt hi
        refine C_stepNearer (w := w) (by omega) hC w4 hi ?_
        refine ih _ (fun y hy => ?_)
        rw [bL_or, bL_one nl hy, Bool.or_eq_true, decide_eq_true_eq, hv y hy]
        constructor
        · rintro ((q | ⟨u, u1, u2⟩) | q)
          · exact Or.inl q
          · exact Or.inr ⟨u, by omega, u2⟩
          · exact Or.inr ⟨i, by omega, zt.1, zt.2, q.symm⟩
        · rintro (q | ⟨u, u1, u2, u3, u4⟩)
          · exact Or.inl (Or.inl q)
          · by_cases e : u = i
            · subst e; exact Or.inr u4.symm
            · exact Or.inl (Or.inr ⟨u, by omega, u2, u3, u4⟩)
  refine key f0 (fun z hz => ?_)
  constructor
  · exact Or.inl
  · rintro (q | ⟨u, u1, _⟩)
    · exact q
    · exact absurd u1 (Nat.not_lt_zero u)
