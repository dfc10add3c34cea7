/-! sounds -/
abbrev FT2 (I I' : Nat → Nat → Int32) : Prop := FR 25 [133, 134, 135, 146] [3, 4] I I'
theorem C_fits {d Ln c s : Nat} {I : Nat → Nat → Int32} {L : Nat → Nat → Int64} {K : Int32 → (Nat → Nat → Int32) → (Nat → Nat → Int64) → Prop} {w tp : Nat → Nat} {tl x : Nat} (hd : 33 ≤ d) (hC : RC w I L) (hO : OKW w) (hL : RLw w I) (hx : x < 64) (ha : allN (sdP tp) (tl / 2) = true) (hH : ∀ n, n < 31 → I 145 n = oI (hdA tp (tl / 2) n)) (kk : ∀ I', FT2 I I' → (ftB w tp tl x = true → ∀ n, n < 31 → I' 146 n = nI (nuN w x n)) → K (bI (ftB w tp tl x)) I' L) : dd_Ev d m_X5_fits [.ref 144, .int (nI x)] (sM Ln I L c s) (dd_RI Ln c s K) := by
  have hk : (133 : Nat) = 133 ∨ (133 : Nat) = 136 := Or.inl rfl
  have w4 := hO.1.2.2.2.1
  have w5 := hO.1.2.2.2.2.1
  have w7 := hO.1.2.2.2.2.2.2.1
  refine w_X5_fits_0 (by omega) ?_
  refine C_isOpen (w := w) (by omega) hC (by omega) ?_
  rw [bI_z]
  refine ⟨fun z => ?_, fun z => ?_⟩
  · have e : ftB w tp tl x = false := by unfold ftB; rw [z]; rfl
    rw [e] at kk
    exact dd_qi (kk I (FR.refl I) (fun q => by cases q))
  · have zo : opn w x = true := by
      cases hz : opn w x with
      | true => rfl
      | false => exact absurd hz z
    rw [li_0, li_15]
    refine C_become (w := w) (by omega) hk hC (by omega) fun I2 v2 f2 => ?_
    have c2 := hC.fr f2 (kA hk)
    refine C_standAt (w := w) (by omega) hk c2 w4 v2 hx fun I3 v3 f3 => ?_
    have F3 : FT2 I I3 := (f2.trans f3).mono (by decide) (by decide)
    have key : ∀ I', RV 133 0 0 15 0 ((w 7 + 0) % 8) (w 5) (prow w 0) (tkC w 0 x 0 15 0) (w 4) I' → FT2 I I' → (∀ n, n < 0 → I' 146 n = nI (nuN w x n)) → (∀ n, n < 0 → hdA tp (tl / 2) n = none ∨ hdA tp (tl / 2) n = some (nuN w x n)) → dd_Rn d m_X5_fits (35, [.ref 144, .int (nI x), .int (nI 0)], [], sM Ln I' L c s) (dd_RI Ln c s K) := by
      refine dd_lp (fun i => ∀ I', RV 133 0 0 15 0 ((w 7 + i) % 8) (w 5) (prow w 0) (tkC w 0 x 0 15 i) (w 4) I' → FT2 I I' → (∀ n, n < i → I' 146 n = nI (nuN w x n)) → (∀ n, n < i → hdA tp (tl / 2) n = none ∨ hdA tp (tl / 2) n = some (nuN w x n)) → dd_Rn d m_X5_fits (35, [.ref 144, .int (nI x), .int (nI i)], [], sM Ln I' L c s) (dd_RI Ln c s K)) 31 ?_ ?_
      · intro I' v' F' m' n'
        refine w_X5_fits_35 (by omega) ?_
        rw [li_31, nI_leI (by omega) (by omega)]
        have e : ftB w tp tl x = true := by
          rw [ftB_eq w4 hx ha, zo, Bool.true_and, allN_iff]
          exact fun n hn => decide_eq_true (n' n hn)
        rw [e] at kk
        exact ⟨fun _ => dd_qi (kk I' F' (fun _ => m')), fun z => absurd (Nat.le_refl _) z⟩
      · intro i hi ih I' v' F' m' n'
        have ti : tn (nI i) = i := nI_clamp (by omega)
        have wl := wk_lt (w := w) (num := 0) (part := 0) (ear := 15) (bad := 0) (loud := w 5) (row := prow w 0) (t0 := w 7) hx i
        have e5 : I' 134 5 = nI (nuN w x i) := v'.2.2.2.1
        have e45 : I' 145 i = oI (hdA tp (tl / 2) i) := by rw [F'.1 145 (by decide) (by decide)]; exact hH i hi
        have n14 := nu14 (w := w) w4 (x := x) (n := i) hx
        have hl := hdA_lt (tl / 2) ha i
        refine w_X5_fits_35 (by omega) ?_
        rw [li_31, nI_leI (by omega) (by omega), ti, pk_us, e5, e45]
        simp only [nI_1]
        have F2 : FT2 I (dd_u I' 146 (upd (I' 146) i (nI (nuN w x i)))) := F'.u (by decide) (by decide)
        have go : (hdA tp (tl / 2) i = none ∨ hdA tp (tl / 2) i = some (nuN w x i)) → dd_Ev (d - 1) m_X6_beatAhead [.ref 133] (sM Ln (dd_u I' 146 (upd (I' 146) i (nI (nuN w x i)))) L c s) (dd_RV Ln c s (fun I1 L1 => dd_Rn d m_X5_fits (35, [.ref 144, .int (nI x), .int (nI (i + 1))], [], sM Ln I1 L1 c s) (dd_RI Ln c s K))) := by
          intro ok
          have v2 : RV 133 0 0 15 0 ((w 7 + i) % 8) (w 5) (prow w 0) (tkC w 0 x 0 15 i) (w 4) (dd_u I' 146 (upd (I' 146) i (nI (nuN w x i)))) := ⟨v'.1.fr (fun j h1 h2 => dd_un (by omega)), by rw [dd_un (by decide)]; exact v'.2.1, by rw [dd_un (by decide)]; exact v'.2.2.1, by rw [dd_un (by decide)]; exact v'.2.2.2.1, by rw [dd_un (by decide)]; exact v'.2.2.2.2⟩
          have FR2 : FR 25 [133, 134, 135, 146] [3, 4] I (dd_u I' 146 (upd (I' 146) i (nI (nuN w x i)))) := F2
          refine C_beatAhead (w := w) (by omega) hk (hC.fr FR2 (fun j h1 h2 => by simp only [List.mem_cons, List.not_mem_nil, or_false]; omega)) hO (hL.fr FR2 (by decide)) v2 (by omega) (by omega) (by omega) (by omega) (by omega) w5 wl (fun j hj => hO.2.2.1 0 (by omega) j hj) fun I4 v4 f4 => ?_
          have e1 : ((w 7 + i) % 8 + 1) % 8 = (w 7 + (i + 1)) % 8 := by omega
          rw [e1] at v4
          refine ih I4 v4 (F2.trans (f4.mono (by decide) (by decide))) (fun n hn => ?_) (fun n hn => ?_)
          · rw [f4.1 146 (by decide) (by decide), dd_us]
            by_cases e : n = i
            · subst e; rw [pk_us]
            · rw [pk_un e]; exact m' n (by omega)
          · by_cases e : n = i
            · subst e; exact ok
            · exact n' n (by omega)
        have on : oI (hdA tp (tl / 2) i) = -1 ↔ hdA tp (tl / 2) i = none := oI_nm (fun n q => by have := hl n q; omega)
        have ck : (0 ≤ nI i ∧ i < 31) := ⟨nI_pos' (by omega), hi⟩
        rw [on]
        refine ⟨fun z => absurd z (by omega), fun _ => ⟨ck, ck, fun z2 => go (Or.inl z2), fun z2 => ⟨ck, ck, fun z3 => ?_, fun z3 => ?_⟩⟩⟩
        · cases hh : hdA tp (tl / 2) i with
          | none => exact absurd hh z2
          | some u =>
            have := hl u hh
            rw [hh] at z3
            have z3 : nI u = nI (nuN w x i) := z3
            rw [nI_eq (by omega) (by omega)] at z3
            exact go (Or.inr (by rw [hh, z3]))
        · have e : ftB w tp tl x = false := by
            rw [ftB_eq w4 hx ha, zo, Bool.true_and]
            refine allN_f hi (decide_eq_false (fun q => ?_))
            rcases q with q | q
            · exact z2 q
            · rw [q] at z3; exact z3 rfl
          rw [e] at kk
          exact dd_qi (kk _ F2 (fun q => by cases q))
    refine key I3 ?_ F3 (fun n hn => absurd hn (Nat.not_lt_zero n)) (fun n hn => absurd hn (Nat.not_lt_zero n))
    rw [Nat.add_zero, Nat.mod_eq_of_lt w7]
    exact v3
/-- what the class keeps while it asks cell by cell -/
def FitS (w tp : Nat → Nat) (tl : Nat) (I J : Nat → Nat → Int32) (L : Nat → Nat → Int64) : Prop := RC w J L ∧ RLw w J ∧ (∀ n, n < 31 → J 145 n = oI (hdA tp (tl / 2) n)) ∧ FR 25 [133, 134, 135, 145, 146, 147] [3, 4] I J
theorem FitS.next {w tp : Nat → Nat} {tl : Nat} {I J J' : Nat → Nat → Int32} {L : Nat → Nat → Int64} (h : FitS w tp tl I J L) (f : FT2 J J') : FitS w tp tl I J' L := ⟨h.1.fr f (fun j h1 h2 => by simp only [List.mem_cons, List.not_mem_nil, or_false]; omega), h.2.1.fr f (by decide), fun n hn => by rw [f.1 145 (by decide) (by decide)]; exact h.2.2.1 n hn, h.2.2.2.trans (f.mono (by decide) (by decide))⟩
def cntB (p : Nat → Bool) : Nat → Nat := lpf (fun x m => if p x = true then m + 1 else m) 0
theorem cntB_le {p : Nat → Bool} : ∀ i, cntB p i ≤ i := by
  intro i
  induction i with
  | zero => exact Nat.le_refl _
  | succ i ih =>
    have e : cntB p (i + 1) = if p i = true then cntB p i + 1 else cntB p i := rfl
    rw [e]
    split <;> omega
theorem C_cellCount {d Ln c s : Nat} {I : Nat → Nat → Int32} {L : Nat → Nat → Int64} {K : Int32 → (Nat → Nat → Int32) → (Nat → Nat → Int64) → Prop} {w tp : Nat → Nat} {tl : Nat} {I1 : Nat → Nat → Int32} (hd : 34 ≤ d) (hO : OKW w) (ha : allN (sdP tp) (tl / 2) = true) (hS : FitS w tp tl I I1 L) (kk : ∀ I', FitS w tp tl I I' L → K (nI (cntB (ftB w tp tl) 64)) I' L) : dd_Ev d m_X5_cellCount [.ref 144] (sM Ln I1 L c s) (dd_RI Ln c s K) := by
  refine w_X5_cellCount_0 (by omega) ?_
  have key : ∀ I', FitS w tp tl I I' L → dd_Rn d m_X5_cellCount (4, [.ref 144, .int (nI (cntB (ftB w tp tl) 0)), .int (nI 0)], [], sM Ln I' L c s) (dd_RI Ln c s K) := by
    refine dd_lp (fun i => ∀ I', FitS w tp tl I I' L → dd_Rn d m_X5_cellCount (4, [.ref 144, .int (nI (cntB (ftB w tp tl) i)), .int (nI i)], [], sM Ln I' L c s) (dd_RI Ln c s K)) 64 ?_ ?_
    · intro I' S
      refine w_X5_cellCount_4 (by omega) ?_
      rw [li_64, nI_leI (by omega) (by omega)]
      exact ⟨fun _ => dd_qi (kk I' S), fun z => absurd (Nat.le_refl _) z⟩
    · intro i hi ih I' S
      have es : cntB (ftB w tp tl) (i + 1) = if ftB w tp tl i = true then cntB (ftB w tp tl) i + 1 else cntB (ftB w tp tl) i := rfl
      rw [es] at ih
      refine w_X5_cellCount_4 (by omega) ?_
      rw [li_64, nI_leI (by omega) (by omega)]
      simp only [nI_1]
      refine ⟨fun z => absurd z (by omega), fun _ => ?_⟩
      refine C_fits (w := w) (tp := tp) (tl := tl) (by omega) S.1 hO S.2.1 hi ha S.2.2.1 fun I2 f2 _ => ?_
      rw [bI_z]
      refine ⟨fun z => ?_, fun z => ?_⟩
      · rw [if_neg (by rw [z]; decide)] at ih
        exact ih I2 (S.next f2)
      · rw [if_pos (by cases hz : ftB w tp tl i with
          | true => rfl
          | false => exact absurd hz z)] at ih
        exact ih I2 (S.next f2)
  exact key I1 hS
theorem C_leastCell {d Ln c s : Nat} {I : Nat → Nat → Int32} {L : Nat → Nat → Int64} {K : Int32 → (Nat → Nat → Int32) → (Nat → Nat → Int64) → Prop} {w tp : Nat → Nat} {tl : Nat} {I1 : Nat → Nat → Int32} (hd : 34 ≤ d) (hO : OKW w) (ha : allN (sdP tp) (tl / 2) = true) (hS : FitS w tp tl I I1 L) (kk : ∀ I', FitS w tp tl I I' L → K (oI (frst (ftB w tp tl) 64)) I' L) : dd_Ev d m_X5_leastCell [.ref 144] (sM Ln I1 L c s) (dd_RI Ln c s K) := by
  refine w_X5_leastCell_0 (by omega) ?_
  have key : ∀ I', FitS w tp tl I I' L → (∀ n, n < 0 → ftB w tp tl n = false) → dd_Rn d m_X5_leastCell (2, [.ref 144, .int (nI 0)], [], sM Ln I' L c s) (dd_RI Ln c s K) := by
    refine dd_lp (fun i => ∀ I', FitS w tp tl I I' L → (∀ n, n < i → ftB w tp tl n = false) → dd_Rn d m_X5_leastCell (2, [.ref 144, .int (nI i)], [], sM Ln I' L c s) (dd_RI Ln c s K)) 64 ?_ ?_
    · intro I' S nf
      refine w_X5_leastCell_2 (by omega) ?_
      rw [li_64, nI_leI (by omega) (by omega)]
      rw [frst_none nf] at kk
      exact ⟨fun _ => dd_qi (kk I' S), fun z => absurd (Nat.le_refl _) z⟩
    · intro i hi ih I' S nf
      refine w_X5_leastCell_2 (by omega) ?_
      rw [li_64, nI_leI (by omega) (by omega)]
      simp only [nI_1]
      refine ⟨fun z => absurd z (by omega), fun _ => ?_⟩
      refine C_fits (w := w) (tp := tp) (tl := tl) (by omega) S.1 hO S.2.1 hi ha S.2.2.1 fun I2 f2 _ => ?_
      rw [bI_z]
      refine ⟨fun z => ih I2 (S.next f2) (fun n hn => ?_), fun z => ?_⟩
      · by_cases e : n = i
        · subst e; exact z
        · exact nf n (by omega)
      · have zt : ftB w tp tl i = true := by
          cases hz : ftB w tp tl i with
          | true => rfl
          | false => exact absurd hz z
        rw [frst_some zt nf hi] at kk
        exact dd_qi (kk I2 (S.next f2))
  exact key I1 hS (fun n hn => absurd hn (Nat.not_lt_zero n))
