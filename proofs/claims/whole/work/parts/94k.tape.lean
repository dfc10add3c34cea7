/-! The tape used up -/
theorem dd_qVn {Ln c s : Nat} {I : Nat → Nat → Int32} {L : Nat → Nat → Int64} {K : (Nat → Nat → Int32) → (Nat → Nat → Int64) → Prop} {T : Nat → (Nat → Nat → Int32) → (Nat → Nat → Int64) → Prop} (k : K I L) : dd_TV Ln c s K T (none, .null, sM Ln I L c s) := Or.inl ⟨I, L, rfl, k⟩
theorem dd_qVx {Ln c s : Nat} {I : Nat → Nat → Int32} {L : Nat → Nat → Int64} {E : Nat} {K : (Nat → Nat → Int32) → (Nat → Nat → Int64) → Prop} {T : Nat → (Nat → Nat → Int32) → (Nat → Nat → Int64) → Prop} (k : T E I L) : dd_TV Ln c s K T (some E, .null, sM Ln I L (c + 1) (s + 6)) := Or.inr ⟨E, I, L, rfl, k⟩
theorem byt_b : ∀ n, n < 256 → (n < 128 → byt n = nI n) ∧ (128 ≤ n → byt n < 0 ∧ ¬ byt n = 1) := by decide +kernel
/-- the class's memory with its tape used up; the model's -/
def TC (I : Nat → Nat → Int32) : Nat → Nat → Int32 := dd_u I 0 (upd (I 0) 9 0)
def TJ (I : Nat → Nat → Int32) : Nat → Nat → Int32 := dd_u I 148 (upd (upd (upd (upd (I 148) 0 0) 11 (I 148 9)) 9 0) 10 0)
theorem PW.tp {d mC : Nat} {aC : List Value} {mM : Nat} {aM : List Value} {I0 : Nat → Nat → Int32} {Ln c s : Nat} {I : Nat → Nat → Int32} {L : Nat → Nat → Int64} {w : Nat → Nat} {im : Option (Nat → Nat)} {na od : Nat} {A : Nat → Nat → Nat} {tp : Nat → Nat} {tl : Nat} {fa : Option Nat} (h : INV I0 w im na od A tp tl fa I L) (k v : Int32) (hC : ∀ K : Int32 → (Nat → Nat → Int32) → (Nat → Nat → Int64) → Nat → Nat → Prop, (∀ I1 L1 c1 s1, cs1 c s c1 s1 → FC (TC I) I1 L L1 → (k = 0 → L1 163 0 = v.toInt64) → K k I1 L1 c1 s1) → dd_Ev d mC aC (sM Ln I L c s) (dd_RJ Ln c s K)) (hM : ∀ I1 L1 c1 s1, RM w I1 → I1 148 9 = nI tl → (∀ j, j < 400 → I1 154 j = byt (tp j)) → ∀ K : Int32 → (Nat → Nat → Int32) → (Nat → Nat → Int64) → Prop, (∀ I2 x2, RM w I2 → FM (TJ I1) I2 → I2 148 0 = k → (k = 0 → x2 = v) → K x2 I2 L1) → dd_Ev d mM aM (sM Ln I1 L1 c1 s1) (dd_RI Ln c1 s1 K)) : PW d mC aC mM aM I0 Ln c s I L := by
  intro G g
  obtain ⟨t1, t2, t3, t4, t5⟩ := h.2.2.2.2.2.2.1
  refine hC _ fun I1 L1 c1 s1 e1 f1 o1 => ?_
  have tc : ∀ k, k ≠ 0 → TC I k = I k := fun k hk => dd_un hk
  have e148 : I1 148 = I 148 := by rw [f1.1 148 (by omega), tc 148 (by omega)]
  refine ⟨fun k hk => by rw [f1.1 k (by omega), tc k (by omega)]; exact h.2.2.2.2.2.2.2.2 k hk, ?_⟩
  refine hM I1 L1 c1 s1 (h.2.1.of (by rw [f1.1 149 (by omega), tc 149 (by omega)])) (by rw [e148]; exact t3) (fun j hj => by rw [f1.1 154 (by omega), tc 154 (by omega)]; exact (t5 j hj).2) _ fun I2 x2 r2 f2 u2 v2 => ?_
  refine g k x2 I2 L1 c1 s1 e1 u2 (fun q => by rw [v2 q]; exact o1 q) ⟨w, im, na, od, A, tp, 0, fa, ?_⟩
  -- first both ends, then what was asked
  have h1 : INV I0 w im na od A tp 0 fa (dd_u (TC I) 148 (upd (I 148) 9 0)) L := by
    refine h.tape (by omega) t2 ?_ ?_ ?_ ?_ ?_ ?_ ?_ ?_ ?_
    · intro k k0 k8 _ _ _
      rw [dd_un k8]; exact tc k k0
    · rw [dd_un (by decide)]; unfold TC; rw [dd_us, pk_un (by decide)]
    · rw [dd_un (by decide)]; unfold TC; rw [dd_us, pk_us]; rfl
    · rw [dd_un (by decide)]; unfold TC; rw [dd_us, pk_un (by decide)]
    · rw [dd_us, pk_un (by decide)]
    · rw [dd_us, pk_un (by decide)]
    · rw [dd_us, pk_us]; rfl
    · rw [dd_us, pk_un (by decide)]
    · intro j hj
      rw [dd_un (by decide), dd_un (by decide), tc 129 (by omega), tc 154 (by omega)]
      exact t5 j hj
  have h2 : INV I0 w im na od A tp 0 fa (dd_u I1 148 (upd (I 148) 9 0)) L1 := by
    refine h1.qC ⟨fun k hk => ?_, ?_, ?_, f1.2.2.2⟩
    · by_cases e : k = 148
      · subst e; rw [dd_us, dd_us]
      · rw [dd_un e, dd_un e]; exact f1.1 k hk
    · rw [dd_un (by decide), dd_un (by decide)]; exact f1.2.1
    · rw [dd_un (by decide), dd_un (by decide)]; exact f1.2.2.1
  refine h2.qM ?_ r2
  refine FM.trans ?_ f2
  have ev : TJ I1 = dd_u I1 148 (upd (upd (upd (upd (I 148) 0 0) 11 (I 148 9)) 9 0) 10 0) := by unfold TJ; rw [e148]
  rw [ev]
  refine ⟨fun k hk => ?_, ?_, ?_, ?_, ?_⟩
  · rw [dd_un (by omega), dd_un (by omega)]
  · rw [dd_us, dd_us, pk_un (by decide), pk_un (by decide), pk_un (by decide), pk_un (by decide), pk_un (by decide)]
  · rw [dd_us, dd_us, pk_un (by decide), pk_un (by decide), pk_un (by decide), pk_un (by decide), pk_un (by decide)]
  · rw [dd_us, dd_us, pk_un (by decide), pk_us, pk_us]
  · rw [dd_us, dd_us, pk_un (by decide), pk_un (by decide), pk_un (by decide), pk_un (by decide), pk_un (by decide)]
/-! sounds, listen: what is told, and which cells fit -/
def nuN (w : Nat → Nat) (x n : Nat) : Nat := gap (tkC w 0 x 0 15 n) (w 4)
theorem nu14 {w : Nat → Nat} (h4 : w 4 < 64) {x n : Nat} (hx : x < 64) : nuN w x n ≤ 14 := gap_lt (wk_lt hx n) h4
def sdP (tp : Nat → Nat) : Nat → Bool := fun j => decide (tp (2 * j) < 31) && decide (tp (2 * j + 1) < 15)
def sdB (w tp : Nat → Nat) (tl : Nat) : Bool := ((decide (tl % 2 = 0) && decide (tl ≤ 40)) && decide (0 < w 0)) && allN (sdP tp) (tl / 2)
def ftB (w tp : Nat → Nat) (tl x : Nat) : Bool := opn w x && allN (fun j => decide (nuN w x (tp (2 * j)) = tp (2 * j + 1))) (tl / 2)
def hdA (tp : Nat → Nat) : Nat → Nat → Option Nat
  | 0 => fun _ => none
  | j + 1 => fun n => if n = tp (2 * j) then (if hdA tp j n = none ∨ hdA tp j n = some (tp (2 * j + 1)) then some (tp (2 * j + 1)) else some 15) else hdA tp j n
theorem hdA_lt {tp : Nat → Nat} : ∀ j, allN (sdP tp) j = true → ∀ n v, hdA tp j n = some v → v ≤ 15 := by
  intro j
  induction j with
  | zero => intro _ n v h; cases h
  | succ j ih =>
    intro ha n v h
    rw [allN, Bool.and_eq_true] at ha
    have h : (if n = tp (2 * j) then (if hdA tp j n = none ∨ hdA tp j n = some (tp (2 * j + 1)) then some (tp (2 * j + 1)) else some 15) else hdA tp j n) = some v := h
    split at h
    · have p := ha.2
      unfold sdP at p
      rw [Bool.and_eq_true, decide_eq_true_eq, decide_eq_true_eq] at p
      split at h
      · cases h; omega
      · cases h; exact Nat.le_refl _
    · exact ih ha.1 n v h
/-- what was told, put together, says the same -/
theorem hd_fit {tp ν : Nat → Nat} (hν : ∀ n, ν n ≤ 14) : ∀ j, allN (sdP tp) j = true → ((∀ n, n < 31 → hdA tp j n = none ∨ hdA tp j n = some (ν n)) ↔ ∀ i, i < j → ν (tp (2 * i)) = tp (2 * i + 1)) := by
  intro j
  induction j with
  | zero => intro _; exact ⟨fun _ i hi => absurd hi (Nat.not_lt_zero i), fun _ n _ => Or.inl rfl⟩
  | succ j ih =>
    intro ha
    rw [allN, Bool.and_eq_true] at ha
    have ih := ih ha.1
    have p := ha.2
    unfold sdP at p
    rw [Bool.and_eq_true, decide_eq_true_eq, decide_eq_true_eq] at p
    have es : ∀ n, hdA tp (j + 1) n = if n = tp (2 * j) then (if hdA tp j n = none ∨ hdA tp j n = some (tp (2 * j + 1)) then some (tp (2 * j + 1)) else some 15) else hdA tp j n := fun _ => rfl
    constructor
    · intro q
      have qt := q (tp (2 * j)) p.1
      rw [es, if_pos rfl] at qt
      have al : (hdA tp j (tp (2 * j)) = none ∨ hdA tp j (tp (2 * j)) = some (tp (2 * j + 1))) ∧ tp (2 * j + 1) = ν (tp (2 * j)) := by
        by_cases z : hdA tp j (tp (2 * j)) = none ∨ hdA tp j (tp (2 * j)) = some (tp (2 * j + 1))
        · rw [if_pos z] at qt
          rcases qt with y | y
          · cases y
          · injection y with y
            exact ⟨z, y⟩
        · rw [if_neg z] at qt
          have := hν (tp (2 * j))
          rcases qt with y | y
          · cases y
          · injection y with y
            omega
      have prev : ∀ n, n < 31 → hdA tp j n = none ∨ hdA tp j n = some (ν n) := by
        intro n hn
        by_cases e : n = tp (2 * j)
        · subst e
          rcases al.1 with y | y
          · exact Or.inl y
          · rw [al.2] at y; exact Or.inr y
        · have := q n hn
          rw [es, if_neg e] at this
          exact this
      intro i hi
      by_cases e : i = j
      · subst e; exact al.2.symm
      · exact ih.mp prev i (by omega)
    · intro q n hn
      have prev := ih.mpr (fun i hi => q i (by omega))
      rw [es]
      by_cases e : n = tp (2 * j)
      · subst e
        rw [if_pos rfl]
        have qj := q j (by omega)
        have : hdA tp j (tp (2 * j)) = none ∨ hdA tp j (tp (2 * j)) = some (tp (2 * j + 1)) := by rw [← qj]; exact prev _ hn
        rw [if_pos this, qj]
        exact Or.inr rfl
      · rw [if_neg e]
        exact prev n hn
theorem ftB_eq {w tp : Nat → Nat} {tl x : Nat} (h4 : w 4 < 64) (hx : x < 64) (ha : allN (sdP tp) (tl / 2) = true) : ftB w tp tl x = (opn w x && allN (fun n => decide (hdA tp (tl / 2) n = none ∨ hdA tp (tl / 2) n = some (nuN w x n))) 31) := by
  unfold ftB
  congr 1
  have e : allN (fun j => decide (nuN w x (tp (2 * j)) = tp (2 * j + 1))) (tl / 2) = true ↔ allN (fun n => decide (hdA tp (tl / 2) n = none ∨ hdA tp (tl / 2) n = some (nuN w x n))) 31 = true := by
    rw [allN_iff, allN_iff]
    have := hd_fit (tp := tp) (ν := nuN w x) (fun n => nu14 h4 hx) (tl / 2) ha
    constructor
    · intro q n hn
      exact decide_eq_true (this.mpr (fun i hi => of_decide_eq_true (q i hi)) n hn)
    · intro q i hi
      exact decide_eq_true (this.mp (fun n hn => of_decide_eq_true (q n hn)) i hi)
  cases h1 : allN (fun j => decide (nuN w x (tp (2 * j)) = tp (2 * j + 1))) (tl / 2) with
  | true => exact (e.mp h1).symm
  | false => cases h2 : allN (fun n => decide (hdA tp (tl / 2) n = none ∨ hdA tp (tl / 2) n = some (nuN w x n))) 31 with
    | true => rw [e.mpr h2] at h1; cases h1
    | false => rfl
theorem C_fill145 {d Ln c s : Nat} {I : Nat → Nat → Int32} {L : Nat → Nat → Int64} {K : (Nat → Nat → Int32) → (Nat → Nat → Int64) → Prop} (hd : 28 ≤ d) (kk : ∀ f, (∀ y, y < 31 → f y = -1) → K (dd_u I 145 f) L) : dd_Ev d m_J7_fill_53178 [.ref 145, .int (-1)] (sM Ln I L c s) (dd_RV Ln c s K) := by
  refine w_J7_fill_53178_145_0 hd ?_
  have key : ∀ f, (∀ y, y < 0 → f y = -1) → dd_Rn d m_J7_fill_53178 (5, [.ref 145, .int (-1), .int (nI 0), .int 31], [], sM Ln (dd_u I 145 f) L c s) (dd_RV Ln c s K) := by
    refine dd_lp (fun i => ∀ f, (∀ y, y < i → f y = -1) → dd_Rn d m_J7_fill_53178 (5, [.ref 145, .int (-1), .int (nI i), .int 31], [], sM Ln (dd_u I 145 f) L c s) (dd_RV Ln c s K)) 31 ?_ ?_
    · intro f hf
      refine w_J7_fill_53178_145_5 hd ?_
      rw [li_31, nI_leI (by omega) (by omega)]
      exact ⟨fun _ => dd_qV (kk f hf), fun z => absurd (Nat.le_refl _) z⟩
    · intro i hi ih f hf
      have ti : tn (nI i) = i := nI_clamp (by omega)
      refine w_J7_fill_53178_145_5 hd ?_
      rw [li_31, nI_leI (by omega) (by omega), ti, dd_us, dd_u_u, nI_1]
      refine ⟨fun z => absurd z (by omega), fun _ => ⟨⟨nI_pos' (by omega), by omega⟩, ih _ (fun y hy => ?_)⟩⟩
      by_cases q : y = i
      · subst q; rw [pk_us]
      · rw [pk_un q]; exact hf y (by omega)
  have := key (I 145) (fun y hy => absurd hy (Nat.not_lt_zero y))
  rw [dd_u_id] at this
  exact this
theorem C_hearAll {d Ln c s : Nat} {I : Nat → Nat → Int32} {L : Nat → Nat → Int64} {K : Int32 → (Nat → Nat → Int32) → (Nat → Nat → Int64) → Prop} {tp : Nat → Nat} {tl : Nat} (hd : 29 ≤ d) (hl : tl ≤ 400) (h256 : ∀ j, tp j < 256) (ht : ∀ j, j < 400 → I 129 j = nI (tp j)) (kf : ∀ I', FR 25 [145] [] I I' → ((decide (tl % 2 = 0) && decide (tl ≤ 40)) && allN (sdP tp) (tl / 2)) = false → K 0 I' L) (kt : ∀ I', FR 25 [145] [] I I' → tl % 2 = 0 → tl ≤ 40 → allN (sdP tp) (tl / 2) = true → (∀ n, n < 31 → I' 145 n = oI (hdA tp (tl / 2) n)) → K 1 I' L) : dd_Ev d m_X5_hearAll [.ref 144, .ref 129, .int (nI tl)] (sM Ln I L c s) (dd_RI Ln c s K) := by
  refine w_X5_hearAll_0 (by omega) ?_
  have e2 : nI tl - nI tl / 2 * 2 = nI (tl % 2) := by rw [li_2, pk_rem (by omega) (by omega) (by omega)]
  rw [li_40, nI_ltI (by omega) (by omega), e2, li_0, nI_eq (by omega) (by omega)]
  refine ⟨fun z => dd_qi (kf I (FR.refl I) (by rw [decide_eq_false (show ¬ tl ≤ 40 by omega), Bool.and_false, Bool.false_and])), fun z => ⟨fun z2 => ?_, fun z2 => dd_qi (kf I (FR.refl I) (by rw [decide_eq_false z2]; rfl))⟩⟩
  refine C_fill145 (by omega) fun f hf => ?_
  have key : ∀ f a4 a5 a6, allN (sdP tp) 0 = true → (∀ n, n < 31 → f n = oI (hdA tp 0 n)) → dd_Rn d m_X5_hearAll (24, [.ref 144, .ref 129, .int (nI tl), .int (nI (2 * 0)), a4, a5, a6], [], sM Ln (dd_u I 145 f) L c s) (dd_RI Ln c s K) := by
    refine dd_lp (fun j => ∀ f a4 a5 a6, allN (sdP tp) j = true → (∀ n, n < 31 → f n = oI (hdA tp j n)) → dd_Rn d m_X5_hearAll (24, [.ref 144, .ref 129, .int (nI tl), .int (nI (2 * j)), a4, a5, a6], [], sM Ln (dd_u I 145 f) L c s) (dd_RI Ln c s K)) (tl / 2) ?_ ?_
    · intro f a4 a5 a6 ha hf
      refine w_X5_hearAll_24 (by omega) ?_
      rw [nI_1, nI_leI (by omega) (by omega)]
      exact ⟨fun _ => dd_qi (kt _ ((FR.refl I).u (by decide) (by decide)) z2 (by omega) ha (fun n hn => by rw [dd_us]; exact hf n hn)), fun z => absurd (by omega) z⟩
    · intro j hj ih f a4 a5 a6 ha hf
      have t1 : tn (nI (2 * j)) = 2 * j := nI_clamp (by omega)
      have t2 : tn (nI (2 * j + 1)) = 2 * j + 1 := nI_clamp (by omega)
      have b1 := h256 (2 * j)
      have b2 := h256 (2 * j + 1)
      have es : ∀ n, hdA tp (j + 1) n = if n = tp (2 * j) then (if hdA tp j n = none ∨ hdA tp j n = some (tp (2 * j + 1)) then some (tp (2 * j + 1)) else some 15) else hdA tp j n := fun _ => rfl
      have e22 : nI (2 * j) + 2 = nI (2 * (j + 1)) := by rw [li_2, nI_add]; congr 1
      have bad : sdP tp j = false → ((decide (tl % 2 = 0) && decide (tl ≤ 40)) && allN (sdP tp) (tl / 2)) = false := fun q => by rw [allN_f hj q, Bool.and_false]
      refine w_X5_hearAll_24 (by omega) ?_
      rw [nI_1, nI_leI (by omega) (by omega), t1, t2, dd_un (show (129 : Nat) ≠ 145 by decide), ht _ (by omega), ht _ (by omega), li_31, nI_leI (by omega) (by omega), li_15, nI_ltI (by omega) (by omega), e22]
      simp only [dd_us, dd_u_u]
      refine ⟨fun z => absurd z (by omega), fun _ => ⟨⟨nI_pos' (by omega), by omega⟩, ⟨nI_pos' (by omega), by omega⟩, fun z3 => ?_, fun z3 => ⟨fun z4 => ?_, fun z4 => ?_⟩⟩⟩
      · exact dd_qi (kf _ ((FR.refl I).u (by decide) (by decide)) (bad (by unfold sdP; rw [decide_eq_false (by omega)]; rfl)))
      · have tt : tn (nI (tp (2 * j))) = tp (2 * j) := nI_clamp (by omega)
        have ha' : allN (sdP tp) (j + 1) = true := by
          rw [allN, ha]
          unfold sdP
          rw [decide_eq_true (show tp (2 * j) < 31 by omega), decide_eq_true z4]; rfl
        have ck : (0 ≤ nI (tp (2 * j)) ∧ tp (2 * j) < 31) := ⟨nI_pos' (by omega), by omega⟩
        rw [tt, hf _ (by omega)]
        have bl := hdA_lt j ha (tp (2 * j))
        have step : ∀ v : Nat, (if hdA tp j (tp (2 * j)) = none ∨ hdA tp j (tp (2 * j)) = some (tp (2 * j + 1)) then some (tp (2 * j + 1)) else some 15) = some v → ∀ a4 a5 a6, dd_Rn d m_X5_hearAll (24, [.ref 144, .ref 129, .int (nI tl), .int (nI (2 * (j + 1))), a4, a5, a6], [], sM Ln (dd_u I 145 (upd f (tp (2 * j)) (nI v))) L c s) (dd_RI Ln c s K) := by
          intro v hv a4 a5 a6
          refine ih _ a4 a5 a6 ha' (fun n hn => ?_)
          rw [es]
          by_cases e : n = tp (2 * j)
          · rw [e, pk_us, if_pos rfl, hv]; rfl
          · rw [pk_un e, if_neg e]; exact hf n hn
        have on : oI (hdA tp j (tp (2 * j))) = -1 ↔ hdA tp j (tp (2 * j)) = none := oI_nm (fun n q => by have := bl n q; omega)
        rw [on]
        refine ⟨ck, fun z5 => ⟨ck, step _ (if_pos (Or.inl z5)) _ _ _⟩, fun z5 => ⟨ck, ?_⟩⟩
        cases hh : hdA tp j (tp (2 * j)) with
        | none => exact absurd hh z5
        | some u =>
          have := bl u hh
          have eu : (oI (some u) = nI (tp (2 * j + 1))) ↔ u = tp (2 * j + 1) := by
            show nI u = nI (tp (2 * j + 1)) ↔ _
            rw [nI_eq (by omega) (by omega)]
          rw [eu]
          refine ⟨fun z6 => ⟨ck, step _ (if_pos (Or.inr (by rw [hh, z6]))) _ _ _⟩, fun z6 => ⟨ck, step 15 (if_neg (fun q => ?_)) _ _ _⟩⟩
          rcases q with q | q
          · exact z5 q
          · rw [hh] at q; cases q; exact z6 rfl
      · exact dd_qi (kf _ ((FR.refl I).u (by decide) (by decide)) (bad (by unfold sdP; rw [decide_eq_false z4, Bool.and_false])))
  exact key f _ _ _ rfl (fun n hn => by rw [hf n hn]; rfl)
