/-! Questions: all, loudest -/
def mono (p : Nat → Bool) : Prop := ∀ n, p n = true → p (n + 1) = true
theorem mono_le {p : Nat → Bool} (h : mono p) {n m : Nat} (hn : p n = true) (hm : n ≤ m) : p m = true := by
  induction m with
  | zero =>
    have : n = 0 := by omega
    subst this
    exact hn
  | succ m ih =>
    by_cases q : n = m + 1
    · subst q; exact hn
    · exact h m (ih (by omega))
theorem due_iff {p : Nat → Bool} (h : mono p) {n : Nat} (hn : n < 101) : p n = true ↔ due p ≤ n := by
  rcases frst_cases p 101 with ⟨h1, h2⟩ | ⟨k, h1, h2, h3, h4⟩
  · have e : due p = 101 := due_none h2
    rw [e, h2 n hn]
    constructor
    · intro z; cases z
    · intro z; omega
  · have e : due p = k := due_some h3 h4 h1
    rw [e]
    constructor
    · intro z
      by_cases q : k ≤ n
      · exact q
      · have := h4 n (by omega)
        rw [z] at this
        cases this
    · intro z
      exact mono_le h h3 z
theorem due_un {p : Nat → Bool} {D : Nat} (hD : D ≤ 101) (h : ∀ n, n < 101 → (p n = true ↔ D ≤ n)) : due p = D := by
  by_cases q : D = 101
  · subst q
    refine due_none fun i hi => ?_
    cases hh : p i with
    | false => rfl
    | true => have := (h i hi).mp hh; omega
  · refine due_some ((h D (by omega)).mpr (Nat.le_refl _)) (fun i hi => ?_) (by omega)
    cases hh : p i with
    | false => rfl
    | true => have := (h i (by omega)).mp hh; omega
def mxA (D : Nat → Nat) : Nat → Nat := lpf (fun b m => max m (D b)) 0
theorem mxA_le {D : Nat → Nat} (h : ∀ b, D b ≤ 101) : ∀ k, mxA D k ≤ 101 := by
  intro k
  induction k with
  | zero => exact Nat.zero_le _
  | succ k ih =>
    have e : mxA D (k + 1) = max (mxA D k) (D k) := rfl
    have := h k
    omega
theorem mxA_ge {D : Nat → Nat} {b : Nat} : ∀ {k}, b < k → D b ≤ mxA D k := by
  intro k
  induction k with
  | zero => intro h; omega
  | succ k ih =>
    intro h
    have e : mxA D (k + 1) = max (mxA D k) (D k) := rfl
    by_cases q : b = k
    · subst q; omega
    · have := ih (by omega)
      omega
theorem due_all {p : Nat → Nat → Bool} (h : ∀ b, mono (p b)) (k : Nat) : due (fun n => allN (fun b => p b n) k) = mxA (fun b => due (p b)) k := by
  refine due_un (mxA_le (fun b => due_le _) k) fun n hn => ?_
  rw [allN_iff]
  constructor
  · intro z
    induction k with
    | zero => exact Nat.zero_le _
    | succ k ih =>
      have e : mxA (fun b => due (p b)) (k + 1) = max (mxA (fun b => due (p b)) k) (due (p k)) := rfl
      have h1 := ih (fun i hi => z i (by omega))
      have h2 := (due_iff (h k) hn).mp (z k (by omega))
      omega
  · intro z b hb
    have : due (p b) ≤ mxA (fun b => due (p b)) k := mxA_ge (D := fun b => due (p b)) hb
    exact (due_iff (h b) hn).mpr (by omega)
/-- the way of a boy, if it is so loud -/
abbrev wkl (w : Nat → Nat) (l b : Nat) : Nat → Nat := wk w b (w (187 + 5 * b + 1)) (w (187 + 5 * b + 2)) (w (187 + 5 * b + 4)) l (prow w (w (187 + 5 * b + 1))) (w 7) (w (187 + 5 * b))
def dul (w : Nat → Nat) (l b : Nat) : Nat := due (fun n => decide (wkl w l b n = w 4))
theorem mono_wk {w : Nat → Nat} {num part ear bad loud t c : Nat} {row : Nat → Nat} : mono (fun n => decide (wk w num part ear bad loud row t c n = w 4)) := by
  intro n hn
  exact decide_eq_true (wk_fire (of_decide_eq_true hn) (n + 1) (by omega))
theorem C_allInWith {d Ln c s : Nat} {I : Nat → Nat → Int32} {L : Nat → Nat → Int64} {K : Int32 → (Nat → Nat → Int32) → (Nat → Nat → Int64) → Prop} {w : Nat → Nat} {l : Nat} (hd : 40 ≤ d) (hC : RC w I L) (hO : OKW w) (hL : RLw w I) (hl : l ≤ 15) (kk : ∀ I', FV 133 I I' → K (if mxA (dul w l) (w 1) = 101 then -1 else nI (mxA (dul w l) (w 1))) I' L) : dd_Ev d m_X10_allInWith [.ref 0, .int (nI l)] (sM Ln I L c s) (dd_RI Ln c s K) := by
  have hk : (133 : Nat) = 133 ∨ (133 : Nat) = 136 := Or.inl rfl
  have w1 := hO.1.2.1
  have dl : ∀ b, dul w l b ≤ 101 := fun b => due_le _
  refine w_X10_allInWith_0 (by omega) ?_
  have key : ∀ (a4 : Value) I', FV 133 I I' → mxA (dul w l) 0 < 101 → dd_Rn d m_X10_allInWith (4, [.ref 0, .int (nI l), .int (nI (mxA (dul w l) 0)), .int (nI 0), a4], [], sM Ln I' L c s) (dd_RI Ln c s K) := by
    refine dd_lp (fun i => ∀ (a4 : Value) I', FV 133 I I' → mxA (dul w l) i < 101 → dd_Rn d m_X10_allInWith (4, [.ref 0, .int (nI l), .int (nI (mxA (dul w l) i)), .int (nI i), a4], [], sM Ln I' L c s) (dd_RI Ln c s K)) (w 1) ?_ ?_
    · intro a4 I1 f1 hm
      refine w_X10_allInWith_4 (by omega) ?_
      rw [(hC.fr f1 (kA hk)).boys, nI_leI (by omega) (by omega)]
      have kx := kk I1 f1
      rw [if_neg (by omega)] at kx
      exact ⟨fun _ => dd_qi kx, fun q => absurd (Nat.le_refl _) q⟩
    · intro i hi ih a4 I1 f1 hm
      obtain ⟨_, b1, b2, b3, b4, b5⟩ := hO.2.2.2.1 i (by omega)
      have c1 := hC.fr f1 (kA hk)
      refine w_X10_allInWith_4 (by omega) ?_
      rw [c1.boys, nI_leI (by omega) (by omega)]
      refine ⟨fun q => absurd q (by omega), fun _ => ?_⟩
      refine C_follow (by omega) hk c1 hO (by omega) fun I2 v2 f2 => ?_
      have f12 := f1.trans f2
      obtain ⟨⟨q0, q1, q2, q6, q7, qr, ql⟩, q3, q4, q5, qc⟩ := v2
      have f3 : FV 133 I (dd_u I2 133 (upd (I2 133) 5 (nI l))) := f12.u (by decide) (by decide)
      have v3 : RV 133 i (w (187 + 5 * i + 1)) (w (187 + 5 * i + 2)) (w (187 + 5 * i + 4)) (w 7) l (prow w (w (187 + 5 * i + 1))) (w (187 + 5 * i)) (w 4) (dd_u I2 133 (upd (I2 133) 5 (nI l))) := by
        refine ⟨⟨?_, ?_, ?_, ?_, ?_, ?_, ?_⟩, ?_, ?_, ?_, ?_⟩
        · rw [dd_un (by decide)]; exact q0
        · rw [dd_un (by decide)]; exact q1
        · rw [dd_un (by decide)]; exact q2
        · rw [dd_un (by decide)]; exact q6
        · rw [dd_un (by decide)]; exact q7
        · rw [dd_un (by decide)]; exact qr
        · rw [dd_us, pk_us]
        · rw [dd_un (by decide)]; exact q3
        · rw [dd_un (by decide)]; exact q4
        · rw [dd_un (by decide)]; exact q5
        · rw [dd_us, pk_un (by decide)]; exact qc
      refine C_comesIn (by omega) hk (hC.fr f3 (kA hk)) hO (hL.fr f3 (kA26 hk)) v3 (by omega) b2 b3 b5 hO.1.2.2.2.2.2.2.1 hl b1 (fun j hj => hO.2.2.1 _ b2 j hj) fun I4 f4 => ?_
      have f34 := f3.trans f4
      have e : mxA (dul w l) (i + 1) = max (mxA (dul w l) i) (dul w l i) := rfl
      have di := dl i
      have kx := kk I4 f34
      rcases due_o (fun n => decide (wkl w l i n = w 4)) with ⟨z1, z2⟩ | ⟨z1, z2⟩
      · have z1' : dul w l i = 101 := z1
        rw [z2]
        have ge := mxA_ge (D := dul w l) hi
        have le := mxA_le (D := dul w l) dl (w 1)
        rw [if_pos (by omega)] at kx
        exact ⟨fun _ => dd_qi kx, fun y => absurd rfl y⟩
      · have z1' : dul w l i < 101 := z1
        have z2' : oI (frst (fun n => decide (wkl w l i n = w 4)) 101) = nI (dul w l i) := z2
        rw [z2']
        have ne : ¬ nI (dul w l i) = -1 := fun z => by
          have e : (nI (dul w l i) = -1) = False := nI_nm (by omega)
          exact (e ▸ z : False)
        refine ⟨fun y => absurd y ne, fun _ => ?_⟩
        simp (disch := omega) only [nI_1, nI_ltI, ite_n]
        rw [e] at ih
        rw [show (if mxA (dul w l) i < dul w l i then dul w l i else mxA (dul w l) i) = max (mxA (dul w l) i) (dul w l i) by split <;> omega]
        exact ih _ I4 f34 (by omega)
  exact key .null I (FR.refl I) (by show 0 < 101; omega)
theorem allM {u : Nat → Nat} (hO : OKW u) (hi : inbs u) (n : Nat) : allIn (goA true u n).1 ((1 : Int32) <<< (nI (u 1) &&& 31) - 1) = allN (fun b => decide (wkB u b n = u 4)) (u 1) := by
  have h1 := hO.1.2.1
  obtain ⟨c1, _, c3, c4⟩ := calm hO hi n
  have s1 : (goA true u n).1 1 = u 1 := c1.1 1 (by omega)
  have s4 : (goA true u n).1 4 = u 4 := c1.1 4 (by omega)
  have bits : ∀ b, b < u 1 → bX ((1 : Int32) <<< (nI (u 1) &&& 31) - 1) b = true := by
    intro b hb
    have e1 : (1 : Int32) <<< (nI (u 1) &&& 31) = nI (2 ^ u 1) := by
      have := pk_shlN (n := 1) (nI (u 1) &&& 31) (u 1) (sh_x ⟨u 1, by omega⟩) (by
        have : u 1 = 0 ∨ u 1 = 1 ∨ u 1 = 2 ∨ u 1 = 3 ∨ u 1 = 4 ∨ u 1 = 5 ∨ u 1 = 6 := by omega
        rcases this with q | q | q | q | q | q | q <;> rw [q] <;> decide)
      rw [Nat.one_mul] at this
      exact this
    rw [e1, show nI (2 ^ u 1) - 1 = nI (2 ^ u 1 - 1) from pk_sub (a := 2 ^ u 1) (b := 1) (Nat.one_le_two_pow), bX_n (by omega), Nat.testBit_two_pow_sub_one]
    exact decide_eq_true hb
  have e : allIn (goA true u n).1 ((1 : Int32) <<< (nI (u 1) &&& 31) - 1) = true ↔ allN (fun b => decide (wkB u b n = u 4)) (u 1) = true := by
    rw [allIn_iff, allN_iff, s1]
    constructor
    · intro z b hb
      have q := c4 b hb
      unfold inb at q
      rw [s4, c3 b hb] at q
      exact decide_eq_true (q.mp (z b hb (bits b hb)))
    · intro z b hb _
      have q := c4 b hb
      unfold inb at q
      rw [s4, c3 b hb] at q
      exact q.mpr (of_decide_eq_true (z b hb))
  cases hh : allN (fun b => decide (wkB u b n = u 4)) (u 1) with
  | true => exact e.mpr hh
  | false =>
    cases h2 : allIn (goA true u n).1 ((1 : Int32) <<< (nI (u 1) &&& 31) - 1) with
    | false => rfl
    | true => rw [e.mp h2] at hh; cases hh
/-- of a world that is so loud -/
theorem allL {w : Nat → Nat} (hO : OKW w) (hi : inbs w) {l : Nat} (hl : l ≤ 15) : due (fun n => allIn (goA true (upw w 5 l) n).1 ((1 : Int32) <<< (nI (w 1) &&& 31) - 1)) = mxA (dul w l) (w 1) := by
  have h1 := hO.1.2.1
  have oU : OKW (upw w 5 l) := okW_s hO (by omega) (by omega) (by omega)
  have iU : inbs (upw w 5 l) := inbs_up hi (by omega) (by omega) (fun b' => by omega)
  have eU : env w (upw w 5 l) := env_up (by omega) (by omega) (by omega) (by omega)
  have u1 : upw w 5 l 1 = w 1 := upw_ne (by omega)
  have := due_all (p := fun b n => decide (wkl w l b n = w 4)) (fun b => mono_wk) (w 1)
  have e : ∀ n, allIn (goA true (upw w 5 l) n).1 ((1 : Int32) <<< (nI (w 1) &&& 31) - 1) = allN (fun b => decide (wkl w l b n = w 4)) (w 1) := by
    intro n
    have z := allM oU iU n
    rw [u1] at z
    rw [z]
    have cg : ∀ k, k ≤ w 1 → allN (fun b => decide (wkB (upw w 5 l) b n = upw w 5 l 4)) k = allN (fun b => decide (wkl w l b n = w 4)) k := by
      intro k
      induction k with
      | zero => intro _; rfl
      | succ k ih =>
        intro hk
        have bc := (hO.2.2.2.1 k (by omega)).2.1
        have b2 := (hO.2.2.2.1 k (by omega)).2.2.1
        rw [allN, allN, ih (by omega)]
        congr 1
        have er : prow (upw w 5 l) (w (187 + 5 * k + 1)) = prow w (w (187 + 5 * k + 1)) := by
          funext j
          unfold prow
          rw [upw_ne (by omega)]
        unfold wkB
        rw [upw_eq, upw_ne (by omega), upw_ne (by omega), upw_ne (by omega), upw_ne (by omega), upw_ne (by omega), upw_ne (by omega), er, wk_env eU bc]
    exact cg (w 1) (Nat.le_refl _)
  rw [due_cong e]
  exact this
theorem A_all {d Ln c s : Nat} {I0 I : Nat → Nat → Int32} {L : Nat → Nat → Int64} {w : Nat → Nat} {im : Option (Nat → Nat)} {na od : Nat} {A : Nat → Nat → Nat} {tp : Nat → Nat} {tl : Nat} {fa : Option Nat} (hd : 60 ≤ d) (h : INV I0 w im na od A tp tl fa I L) : PIw d m_X10_all [.ref 0] m_X11_all [.ref 148] I0 Ln c s I L := by
  have hO := h.1.1
  have hi := h.1.2.1
  have w1 := hO.1.2.1
  have w5 := hO.1.2.2.2.2.1
  have hC := h.2.2.1
  have hk : (133 : Nat) = 133 ∨ (133 : Nat) = 136 := Or.inl rfl
  refine PIw.q h (if mxA (dul w (w 5)) (w 1) = 101 then -1 else nI (mxA (dul w (w 5)) (w 1))) ?_ ?_
  · intro K g
    refine w_X10_all_0 (by omega) ?_
    rw [hC.loud]
    refine C_allInWith (by omega) hC hO h.2.2.2.1 w5 fun I1 f1 => ?_
    exact dd_qi (g I1 L (FC.v hk f1))
  · intro I1 L1 h1 K g
    have hR := h1.2.1
    refine w_X11_all_0 (by omega) ?_
    have fj := FM.th I1 0
    have t0 := thr0 (I := I1) (v := 0)
    have hR1 : RM w (dd_u I1 148 (upd (I1 148) 0 0)) := hR.of (dd_un (by decide))
    generalize dd_u I1 148 (upd (I1 148) 0 0) = J at *
    refine M_keepsAll (w := w) (by omega) hR1 fun f hf => ?_
    have hR2 : RM w (dd_u J 152 f) := hR1.of (dd_un (by decide))
    rw [hR2.g (by omega)]
    refine M_soonFor (w := w) (w0 := w) (by omega) hR2 hO (fun j hj => by rw [dd_us]; exact hf j hj) (fun _ _ => rfl) fun I2 r2 f2 => ?_
    have ew := allL hO hi w5
    rw [upw_id] at ew
    rw [ew]
    have ml := mxA_le (D := dul w (w 5)) (fun b => due_le _) (w 1)
    have F : FM I1 I2 := (fj.trans (FM.fr (A := [152]) (B := []) ((FR.refl J).u (by decide) (by decide)) (by decide) (by decide))).trans (FM.fr f2 (by decide) (by decide))
    have t2 : I2 148 0 = 0 := by rw [f2.2 0 (by decide), dd_un (by decide)]; exact t0
    rw [li_101, nI_eq (by omega) (by omega)]
    refine ⟨fun q => ?_, fun q => ?_⟩
    · rw [if_pos q] at g
      exact mqJ r2 F t2 rfl g
    · rw [if_neg q] at g
      exact mqJ r2 F t2 rfl g
theorem A_loudest {d Ln c s : Nat} {I0 I : Nat → Nat → Int32} {L : Nat → Nat → Int64} {w : Nat → Nat} {im : Option (Nat → Nat)} {na od : Nat} {A : Nat → Nat → Nat} {tp : Nat → Nat} {tl : Nat} {fa : Option Nat} (hd : 60 ≤ d) (h : INV I0 w im na od A tp tl fa I L) : PIw d m_X10_loudest [.ref 0] m_X11_loudest [.ref 148] I0 Ln c s I L := by
  have hO := h.1.1
  have hi := h.1.2.1
  have w1 := hO.1.2.1
  have hC := h.2.2.1
  have hk : (133 : Nat) = 133 ∨ (133 : Nat) = 136 := Or.inl rfl
  have ml : ∀ l, mxA (dul w l) (w 1) ≤ 101 := fun l => mxA_le (D := dul w l) (fun b => due_le _) (w 1)
  refine PIw.q h (oI (frst (fun l => decide (mxA (dul w l) (w 1) < 101)) 16)) ?_ ?_
  · intro K g
    refine w_X10_loudest_0 (by omega) ?_
    have key : ∀ I', FV 133 I I' → (∀ m, m < 0 → ¬ mxA (dul w m) (w 1) < 101) → dd_Rn d m_X10_loudest (2, [.ref 0, .int (nI 0)], [], sM Ln I' L c s) (dd_RI Ln c s K) := by
      refine dd_lp (fun i => ∀ I', FV 133 I I' → (∀ m, m < i → ¬ mxA (dul w m) (w 1) < 101) → dd_Rn d m_X10_loudest (2, [.ref 0, .int (nI i)], [], sM Ln I' L c s) (dd_RI Ln c s K)) 16 ?_ ?_
      · intro I1 f1 nf
        refine w_X10_loudest_2 (by omega) ?_
        rw [li_15, nI_ltI (by omega) (by omega)]
        have gx := g I1 L (FC.v hk f1)
        rw [frst_none (fun i hi => decide_eq_false (nf i hi))] at gx
        exact ⟨fun _ => dd_qi gx, fun q => absurd (by omega) q⟩
      · intro i hi' ih I1 f1 nf
        refine w_X10_loudest_2 (by omega) ?_
        rw [li_15, nI_ltI (by omega) (by omega)]
        refine ⟨fun q => absurd q (by omega), fun _ => ?_⟩
        refine C_allInWith (by omega) (hC.fr f1 (kA hk)) hO (h.2.2.2.1.fr f1 (kA26 hk)) (by omega) fun I2 f2 => ?_
        have f12 := f1.trans f2
        have mi := ml i
        by_cases q : mxA (dul w i) (w 1) = 101
        · rw [if_pos q, nI_1]
          exact ⟨fun _ => ih I2 f12 (lt_s nf (by omega)), fun z => absurd rfl z⟩
        · rw [if_neg q]
          have ne : ¬ nI (mxA (dul w i) (w 1)) = -1 := fun z => by
            have e : (nI (mxA (dul w i) (w 1)) = -1) = False := nI_nm (by omega)
            exact (e ▸ z : False)
          have gx := g I2 L (FC.v hk f12)
          rw [frst_some (p := fun l => decide (mxA (dul w l) (w 1) < 101)) (n := i) (decide_eq_true (by omega)) (fun m hm => decide_eq_false (nf m hm)) hi'] at gx
          exact ⟨fun z => absurd z ne, fun _ => dd_qi gx⟩
    exact key I (FR.refl I) (fun m hm => absurd hm (Nat.not_lt_zero m))
  · intro I1 L1 h1 K g
    have hR := h1.2.1
    refine w_X11_loudest_0 (by omega) ?_
    have fj := FM.th I1 0
    have t0 := thr0 (I := I1) (v := 0)
    have hR1 : RM w (dd_u I1 148 (upd (I1 148) 0 0)) := hR.of (dd_un (by decide))
    generalize dd_u I1 148 (upd (I1 148) 0 0) = J at *
    have key : ∀ I', RM w I' → FB J I' → (∀ m, m < 0 → ¬ mxA (dul w m) (w 1) < 101) → dd_Rn d m_X11_loudest (7, [.ref 148, .int (nI 0)], [], sM Ln I' L1 c s) (dd_RI Ln c s K) := by
      refine dd_lp (fun i => ∀ I', RM w I' → FB J I' → (∀ m, m < i → ¬ mxA (dul w m) (w 1) < 101) → dd_Rn d m_X11_loudest (7, [.ref 148, .int (nI i)], [], sM Ln I' L1 c s) (dd_RI Ln c s K)) 16 ?_ ?_
      · intro I2 r2 f2 nf
        refine w_X11_loudest_7 (by omega) ?_
        rw [li_15, nI_ltI (by omega) (by omega)]
        rw [frst_none (fun i hi => decide_eq_false (nf i hi))] at g
        exact ⟨fun _ => mqJ r2 (fj.trans (FM.b f2)) (by rw [f2.2 0 (by decide)]; exact t0) rfl g, fun q => absurd (by omega) q⟩
      · intro i hi' ih I2 r2 f2 nf
        refine w_X11_loudest_7 (by omega) ?_
        rw [li_15, nI_ltI (by omega) (by omega)]
        refine ⟨fun q => absurd q (by omega), fun _ => ?_⟩
        refine M_keepsAll (w := w) (by omega) r2 fun f hf => ?_
        have hR2 : RM w (dd_u I2 152 f) := r2.of (dd_un (by decide))
        rw [hR2.g (by omega)]
        have oU : OKW (upw w 5 i) := okW_s hO (by omega) (by omega) (by omega)
        have rU : RM (upw w 5 i) (dd_u (dd_u I2 152 f) 149 (upd (dd_u I2 152 f 149) 5 (nI i))) := RM.set (nu hR2 5 i)
        refine M_soonFor (w := upw w 5 i) (w0 := w) (by omega) rU oU (fun j hj => by rw [dd_un (by decide), dd_us]; exact hf j hj) (fun j hj => upw_ne (by omega)) fun I3 r3 f3 => ?_
        rw [allL hO hi (by omega)]
        have mi := ml i
        have f23 : FB J I3 := (((f2.u (by decide) (by decide)).u (by decide) (by decide)).trans (f3.mono (by decide) (by decide)))
        rw [li_101, nI_eq (by omega) (by omega), nI_1]
        refine ⟨fun q => ih I3 r3 f23 (lt_s nf (by omega)), fun q => ?_⟩
        rw [frst_some (p := fun l => decide (mxA (dul w l) (w 1) < 101)) (n := i) (decide_eq_true (by omega)) (fun m hm => decide_eq_false (nf m hm)) hi'] at g
        exact mqJ r3 (fj.trans (FM.b f23)) (by rw [f23.2 0 (by decide)]; exact t0) rfl g
    exact key J hR1 (FR.refl J) (fun m hm => absurd hm (Nat.not_lt_zero m))
