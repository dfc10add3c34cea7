/-! calls, first, can -/
abbrev FN2 (I I' : Nat → Nat → Int32) : Prop := FR 148 [149, 152, 156, 159, 160] [18] I I'
theorem M_startsAt {d Ln c s : Nat} {I : Nat → Nat → Int32} {L : Nat → Nat → Int64} {K : (Nat → Nat → Int32) → (Nat → Nat → Int64) → Prop} {w : Nat → Nat} {b : Nat} (hd : 30 ≤ d) (hR : RM w I) (hO : OKW w) (hb : b ≤ 6) (kk : ∀ I', RM w I' → (∀ j, j < 522 → I' 152 j = nI (w j)) → (∀ y, y < 64 → I' 159 y = if y = w (187 + 5 * b) then 1 else 0) → FN2 I I' → K I' L) : dd_Ev d m_X11_startsAt [.ref 148, .int (nI b)] (sM Ln I L c s) (dd_RV Ln c s K) := by
  have hx := (hO.2.2.2.1 b hb).2.1
  have e0 : (187 : Int32) + (5 : Int32) * nI b + 0 = nI (187 + 5 * b) := by rw [li_187, li_5, li_0, pk_mul, nI_add, nI_add, Nat.add_zero]
  have t0 : tn (nI (187 + 5 * b)) = 187 + 5 * b := nI_clamp (by omega)
  have tx : tn (nI (w (187 + 5 * b))) = w (187 + 5 * b) := nI_clamp (by omega)
  refine w_X11_startsAt_0 (by omega) ?_
  refine M_keepsAll (w := w) (by omega) hR fun f0 hf0 => ?_
  have key : ∀ f, (∀ z, z < 0 → f z = 0) → dd_Rn d m_X11_startsAt (6, [.ref 148, .int (nI b), .int (nI 0)], [], sM Ln (dd_u (dd_u I 152 f0) 159 f) L c s) (dd_RV Ln c s K) := by
    refine dd_lp (fun m => ∀ f, (∀ z, z < m → f z = 0) → dd_Rn d m_X11_startsAt (6, [.ref 148, .int (nI b), .int (nI m)], [], sM Ln (dd_u (dd_u I 152 f0) 159 f) L c s) (dd_RV Ln c s K)) 64 ?_ ?_
    · intro f hf
      have r1 : RM w (dd_u (dd_u I 152 f0) 159 f) := hR.of (by rw [dd_un (by decide), dd_un (by decide)])
      refine w_X11_startsAt_6 (by omega) ?_
      rw [li_64, nI_leI (by omega) (by omega), e0, t0, r1.g (by omega), tx, dd_us, dd_u_u]
      refine ⟨fun _ => ⟨⟨nI_pos' (by omega), by omega⟩, ⟨nI_pos' (by omega), by omega⟩, dd_qV (kk _ ?_ (fun j hj => ?_) (fun y hy => ?_) ?_)⟩, fun z => absurd (Nat.le_refl _) z⟩
      · exact hR.of (by rw [dd_un (by decide), dd_un (by decide)])
      · rw [dd_un (by decide), dd_us]; exact hf0 j hj
      · rw [dd_us]
        by_cases e : y = w (187 + 5 * b)
        · rw [if_pos e, e, pk_us]
        · rw [if_neg e, pk_un e]; exact hf y hy
      · exact ((FR.refl I).u (by decide) (by decide)).u (by decide) (by decide)
    · intro m hm ih f hf
      have tm : tn (nI m) = m := nI_clamp (by omega)
      refine w_X11_startsAt_6 (by omega) ?_
      rw [li_64, nI_leI (by omega) (by omega), tm, dd_us, nI_1]
      simp only [dd_u_u]
      refine ⟨fun z => absurd z (by omega), fun _ => ⟨⟨nI_pos' (by omega), by omega⟩, ih _ (fun z hz => ?_)⟩⟩
      by_cases e : z = m
      · subst e; rw [pk_us]
      · rw [pk_un e]; exact hf z (by omega)
  have := key (I 159) (fun z hz => absurd hz (Nat.not_lt_zero z))
  have e : dd_u (dd_u I 152 f0) 159 (I 159) = dd_u I 152 f0 := by
    have e2 : I 159 = dd_u I 152 f0 159 := (dd_un (by decide)).symm
    rw [e2, dd_u_id]
  rw [e] at this
  exact this
/-- the sets of first notes after n beats -/
def spV (w : Nat → Nat) (b x n : Nat) (V : Nat → Int32) : Prop := (n = 0 ∧ ∀ y, y < 64 → V y = if y = x then 1 else 0) ∨ (1 ≤ n ∧ ∀ y, y < 64 → ∀ i, i < 32 → (bX (V y) i = true ↔ i < 8 ∧ rs w b (w 7 + 1) (nx w b (w 7) i x) (n - 1) y = true))
theorem sp_nz {w : Nat → Nat} {b x n : Nat} {V : Nat → Int32} (h7 : w 7 < 8) (hx : x < 64) (h : spV w b x n V) {y : Nat} (hy : y < 64) : ¬ V y = 0 ↔ rs w b (w 7) x n y = true := by
  rcases h with ⟨n0, hv⟩ | ⟨n1, hv⟩
  · subst n0
    rw [hv y hy, rs, decide_eq_true_eq]
    by_cases e : y = x
    · rw [if_pos e]; exact ⟨fun _ => e, fun _ => by decide⟩
    · rw [if_neg e]; exact ⟨fun z => absurd rfl z, fun z => absurd z e⟩
  · obtain ⟨m, rfl⟩ : ∃ m, n = m + 1 := ⟨n - 1, by omega⟩
    rw [rs_front hx]
    constructor
    · intro z
      refine Classical.byContradiction (fun ne => z (bX_ext fun i hi => ?_))
      rw [bX_0]
      cases hq : bX (V y) i with
      | false => rfl
      | true =>
        obtain ⟨i8, r⟩ := (hv y hy i hi).mp hq
        exact absurd ⟨i, i8, by rw [Nat.mod_eq_of_lt h7]; exact r⟩ ne
    · rintro ⟨nt, n8, r⟩ z
      have := (hv y hy nt (by omega)).mpr ⟨n8, by rw [Nat.mod_eq_of_lt h7] at r; exact r⟩
      rw [z, bX_0] at this
      cases this
theorem sp_step {w : Nat → Nat} {b x n : Nat} {V V' : Nat → Int32} {fst : Bool} (h7 : w 7 < 8) (hx : x < 64) (hf : fst = decide (n = 0)) (h : spV w b x n V) (h' : ∀ z, z < 64 → ∀ i, i < 32 → (bX (V' z) i = true ↔ ∃ y nt, y < 64 ∧ nt < 8 ∧ ¬ V y = 0 ∧ nx w b ((w 7 + n) % 8) nt y = z ∧ bX (if fst = true then (1 : Int32) <<< (nI nt &&& 31) else V y) i = true)) : spV w b x (n + 1) V' := by
  right
  refine ⟨by omega, fun z hz i hi => ?_⟩
  rw [h' z hz i hi, Nat.add_sub_cancel]
  rcases h with ⟨n0, hv⟩ | ⟨n1, hv⟩
  · subst n0
    rw [hf, decide_eq_true rfl]
    simp only [if_true]
    rw [Nat.add_zero, Nat.mod_eq_of_lt h7]
    constructor
    · rintro ⟨y, nt, q1, q2, q3, q4, q5⟩
      rw [hv y q1] at q3
      have ey : y = x := Classical.byContradiction (fun e => q3 (by rw [if_neg e]))
      rw [bX_one (by omega) hi, decide_eq_true_eq] at q5
      subst q5
      subst ey
      exact ⟨q2, by rw [rs, decide_eq_true_eq]; exact q4.symm⟩
    · rintro ⟨i8, r⟩
      rw [rs, decide_eq_true_eq] at r
      exact ⟨x, i, hx, i8, by rw [hv x hx, if_pos rfl]; decide, r.symm, by rw [bX_one (by omega) hi, decide_eq_true_eq]⟩
  · rw [hf, decide_eq_false (show ¬ n = 0 by omega)]
    simp only [Bool.false_eq_true, if_false]
    obtain ⟨m, rfl⟩ : ∃ m, n = m + 1 := ⟨n - 1, by omega⟩
    constructor
    · rintro ⟨y, nt, q1, q2, q3, q4, q5⟩
      obtain ⟨i8, r⟩ := (hv y q1 i hi).mp q5
      refine ⟨i8, rs_s.mpr ⟨y, q1, r, ?_⟩⟩
      unfold nxS
      rw [anyN_iff]
      refine ⟨nt, q2, ?_⟩
      rw [decide_eq_true_eq, show w 7 + 1 + m = w 7 + (m + 1) by omega]
      exact q4
    · rintro ⟨i8, r⟩
      obtain ⟨y, y1, y2, y3⟩ := rs_s.mp r
      obtain ⟨nt, n8, e⟩ := nxS_st y3
      rw [show w 7 + 1 + m = w 7 + (m + 1) by omega] at e
      have bt := (hv y y1 i hi).mpr ⟨i8, y2⟩
      exact ⟨y, nt, y1, n8, (fun z => by rw [z, bX_0] at bt; cases bt), e, bt⟩
theorem WU_0 {w : Nat → Nat} (hO : OKW w) : WU w 0 w := ⟨hO, cst.refl w, by rw [Nat.add_zero, Nat.mod_eq_of_lt hO.1.2.2.2.2.2.2.1]⟩
/-- what called answers -/
def clV (w : Nat → Nat) (b x : Nat) (fst : Bool) : Option Nat := if fst = true then (if x = w 4 then none else fsN w b x) else frst (fun n => rs w b (w 7) x n (w 4)) 65
theorem M_called {d Ln c s : Nat} {I : Nat → Nat → Int32} {L : Nat → Nat → Int64} {K : Int32 → (Nat → Nat → Int32) → (Nat → Nat → Int64) → Prop} {w : Nat → Nat} {b : Nat} {fst : Bool} (hd : 40 ≤ d) (hR : RM w I) (hO : OKW w) (hb : b ≤ 6) (kk : ∀ I', RM w I' → FN2 I I' → K (oI (clV w b (w (187 + 5 * b)) fst)) I' L) : dd_Ev d m_X11_called [.ref 148, .int (nI b), .int (bI fst)] (sM Ln I L c s) (dd_RI Ln c s K) := by
  have hx := (hO.2.2.2.1 b hb).2.1
  have w4 := hO.1.2.2.2.1
  have h7 := hO.1.2.2.2.2.2.2.1
  have t4 : tn (nI (w 4)) = w 4 := nI_clamp (by omega)
  have ck : (0 ≤ nI (w 4) ∧ w 4 < 64) := ⟨nI_pos' (by omega), w4⟩
  generalize ex : w (187 + 5 * b) = x at *
  refine w_X11_called_0 (by omega) ?_
  refine M_startsAt (w := w) (by omega) hR hO hb fun I1 r1 k1 v1 f1 => ?_
  rw [r1.g (by omega)]
  rw [ex] at v1
  have back : ∀ n u I' (r : Int32), oI (clV w b x fst) = r → WU w n u → RM u I' → FN2 I I' → (∀ j, j < 522 → I' 152 j = nI (w j)) → dd_Ev (d - 1) m_X11_bringsBack [.ref 148] (sM Ln I' L c s) (dd_RV Ln c s (fun I1 L1 => dd_RI Ln c s K (none, .int r, sM Ln I1 L1 c s))) := by
    intro n u I' r er U R F k
    refine M_bringsBack (w := u) (w0 := w) (by omega) R k (fun j hj => U.2.1.1 j (by omega)) fun f4 r4 => ?_
    rw [← er]
    exact dd_qi (kk _ r4 (F.u (by decide) (by decide)))
  have key : ∀ I' u, WU w 0 u → RM u I' → FN2 I I' → (∀ j, j < 522 → I' 152 j = nI (w j)) → spV w b x 0 (I' 159) → (∀ m, m < 0 → rs w b (w 7) x m (w 4) = false) → dd_Rn d m_X11_called (18, [.ref 148, .int (nI b), .int (bI fst), .int (-1), .int (nI (w 4)), .int (nI 0)], [], sM Ln I' L c s) (dd_RI Ln c s K) := by
    refine dd_lp (fun n => ∀ I' u, WU w n u → RM u I' → FN2 I I' → (∀ j, j < 522 → I' 152 j = nI (w j)) → spV w b x n (I' 159) → (∀ m, m < n → rs w b (w 7) x m (w 4) = false) → dd_Rn d m_X11_called (18, [.ref 148, .int (nI b), .int (bI fst), .int (-1), .int (nI (w 4)), .int (nI n)], [], sM Ln I' L c s) (dd_RI Ln c s K)) 65 ?_ ?_
    · intro I' u U R F k S nf
      refine w_X11_called_18 (by omega) ?_
      rw [li_64, nI_ltI (by omega) (by omega)]
      refine ⟨fun _ => back 65 u I' (-1) ?_ U R F k, fun z => absurd (by omega) z⟩
      have e0 := frst_none (p := fun n => rs w b (w 7) x n (w 4)) nf
      unfold clV fsN
      rw [e0]
      split
      · split <;> rfl
      · rfl
    · intro n hn ih I' u U R F k S nf
      have nz := sp_nz h7 hx S w4
      refine w_X11_called_18 (by omega) ?_
      rw [li_64, nI_ltI (by omega) (by omega), t4]
      refine ⟨fun z => absurd z (by omega), fun _ => ⟨fun _ => ⟨ck, fun z => ⟨ck, fun _ => ?_, fun z2 => absurd z z2⟩, fun z => ?_⟩, fun z => absurd rfl z⟩⟩
      · -- not yet there
        have nr : rs w b (w 7) x n (w 4) = false := by
          cases hq : rs w b (w 7) x n (w 4) with
          | false => rfl
          | true => exact absurd z (nz.mpr hq)
        have nf' : ∀ m, m < n + 1 → rs w b (w 7) x m (w 4) = false := fun m hm => by
          by_cases e : m = n
          · subst e; exact nr
          · exact nf m (by omega)
        have more : ∀ ft : Bool, ft = decide (n = 0) → dd_Ev (d - 1) m_X11_anyNote [.ref 148, .int (nI b), .int (bI ft)] (sM Ln I' L c s) (dd_RV Ln c s (fun I2 L2 => dd_Rn d m_X11_called (18, [.ref 148, .int (nI b), .int (bI fst), .int (-1), .int (nI (w 4)), .int (nI (n + 1))], [], sM Ln I2 L2 c s) (dd_RI Ln c s K))) := by
          intro ft hft
          refine M_anyNote (w := w) (n := n) (V := I' 159) (by omega) hb (fun _ _ => rfl) U R fun I2 u2 U2 R2 S2 F2 => ?_
          refine ih I2 u2 U2 R2 (F.trans (F2.mono (by decide) (by decide))) (fun j hj => by rw [F2.1 152 (by decide) (by decide)]; exact k j hj) (sp_step h7 hx hft S S2) nf'
        rw [li_0, nI_eq (by omega) (by omega)]
        simp only [nI_1]
        exact ⟨fun e => more true (decide_eq_true e).symm, fun e => more false (decide_eq_false e).symm⟩
      · -- there
        have yr : rs w b (w 7) x n (w 4) = true := nz.mp z
        have ef : frst (fun n => rs w b (w 7) x n (w 4)) 65 = some n := frst_some (p := fun n => rs w b (w 7) x n (w 4)) yr nf hn
        rw [bI_z, li_0, nI_eq (by omega) (by omega)]
        refine ⟨fun q => ⟨ck, fun z2 => absurd z2 z, fun _ => back n u I' _ ?_ U R F k⟩, fun q => ?_⟩
        · unfold clV
          rw [q, if_neg (by decide), ef]; rfl
        · have qt : fst = true := by
            cases hq : fst with
            | true => rfl
            | false => exact absurd hq q
          refine ⟨fun e => ⟨ck, fun z2 => absurd z2 z, fun _ => back n u I' (-1) ?_ U R F k⟩, fun e => ⟨ck, ?_⟩⟩
          · subst e
            rw [rs, decide_eq_true_eq] at yr
            unfold clV
            rw [qt, if_pos rfl, if_pos yr.symm]; rfl
          · rcases S with ⟨n0, _⟩ | ⟨n1, hv⟩
            · exact absurd n0 e
            · obtain ⟨m, hm, em⟩ := small_of (x := I' 159 (w 4)) (k := 8) (by omega) (fun i hi h32 => by
                cases hq : bX (I' 159 (w 4)) i with
                | false => rfl
                | true => have := ((hv _ w4 i h32).mp hq).1; omega)
              have m0 : 0 < m := Nat.pos_of_ne_zero (fun e => z (by rw [em, e]; rfl))
              rw [em]
              refine J_tz (by omega) hm m0 ?_
              rw [em]
              have z' : ¬ nI m = 0 := by rw [← em]; exact z
              refine ⟨ck, fun z2 => absurd z2 z', fun _ => back n u I' _ ?_ U R F k⟩
              have xf : ¬ x = w 4 := fun e2 => by
                have := nf 0 (by omega)
                rw [rs, decide_eq_true e2.symm] at this
                cases this
              unfold clV fsN
              rw [qt, if_pos rfl, if_neg xf, ef]
              show oI (frst (fun nt => rs w b (w 7 + 1) (nx w b (w 7) nt x) (n - 1) (w 4)) 8) = nI (tz8 m)
              have tb : ∀ i, i < 8 → m.testBit i = rs w b (w 7 + 1) (nx w b (w 7) i x) (n - 1) (w 4) := by
                intro i hi
                have := hv _ w4 i (by omega)
                rw [em, bX_n (by omega)] at this
                cases h1 : m.testBit i with
                | true => exact (this.mp h1).2.symm
                | false => cases h2 : rs w b (w 7 + 1) (nx w b (w 7) i x) (n - 1) (w 4) with
                  | false => rfl
                  | true => rw [this.mpr ⟨hi, h2⟩] at h1; cases h1
              rw [← frst_cong (p := fun i => m.testBit i) tb]
              unfold tz8
              rcases frst_cases (fun i => m.testBit i) 8 with ⟨h1, h2⟩ | ⟨k, h1, h2, _⟩
              · exfalso
                have : m = 0 := Nat.eq_of_testBit_eq (fun i => by
                  rw [Nat.zero_testBit]
                  by_cases i8 : i < 8
                  · exact h2 i i8
                  · exact Nat.testBit_lt_two_pow (Nat.lt_of_lt_of_le hm (Nat.pow_le_pow_right (by decide) (by omega))))
                omega
              · rw [h2]; rfl
  exact key I1 w (WU_0 hO) r1 f1 k1 (Or.inl ⟨rfl, v1⟩) (fun m hm => absurd hm (Nat.not_lt_zero m))
theorem FC.t {I I' : Nat → Nat → Int32} {L L' : Nat → Nat → Int64} (h : FV 133 I I') (l : ∀ k, k ≠ 142 → k ≠ 143 → L' k = L k) : FC I I' L L' := by
  have := FC.v (L := L) (Or.inl rfl) h
  exact ⟨this.1, this.2.1, this.2.2.1, fun k _ a b _ => l k a b⟩
theorem A_calls {d Ln c s : Nat} {I0 I : Nat → Nat → Int32} {L : Nat → Nat → Int64} {w : Nat → Nat} {im : Option (Nat → Nat)} {na od : Nat} {A : Nat → Nat → Nat} {tp : Nat → Nat} {tl : Nat} {fa : Option Nat} (hd : 60 ≤ d) (h : INV I0 w im na od A tp tl fa I L) (a : Int32) : PW d m_L_calls [.ref 0, .int a, .ref 163] m_X11_calls [.ref 148, .int a] I0 Ln c s I L := by
  have hO := h.1.1
  have hC := h.2.2.1
  have w1 := hO.1.2.1
  have hk : (133 : Nat) = 133 ∨ (133 : Nat) = 136 := Or.inl rfl
  by_cases hv : vld a (w 1)
  · obtain ⟨b, hb, rfl⟩ := vld_i (by omega) hv
    have hx := (hO.2.2.2.1 b (by omega)).2.1
    have tb : tn (nI b) = b := nI_clamp (by omega)
    have ho := h.1.2.2.1.2 b hb
    refine PW.q h _ (oI (clV w b (w (187 + 5 * b)) false)) (WR1 (e1 := 2) (o := none) (w_L_calls_0 (by omega)) (Or.inl rfl) ?_) ?_
    · intro K T g1 g2
      refine w_X10_calls_0 (by omega) (rqC hC.boys (fun z => absurd hv z) fun _ => ?_)
      refine C_thinkFor (w := w) (by omega) hC hO h.2.2.2.1 (by omega) fun I1 L1 hT f1 l1 => ?_
      have c1 : RC w I1 L1 := (hC.fr f1 (kA hk)).of (fun _ _ _ => rfl) (l1 1 (by omega) (by omega))
      rw [tb, c1.cell (by omega), li_0, li_64]
      refine ⟨⟨nI_pos' (by omega), by omega⟩, ?_⟩
      refine C_fewest (w := w) (b := b) (by omega) c1 hO hT hx ho (by omega) (by omega) ?_
      exact dd_qT (g1 rfl I1 L1 (FC.t f1 l1))
    · intro I1 L1 c1 s1 h1 K g
      have hR := h1.2.1
      refine w_X11_calls_0 (by omega) (rqM (hR.g (by omega)) (by omega) (fun z => absurd hv z) fun _ => ?_)
      refine M_called (w := w) (fst := false) (by omega) (hR.of (dd_un (by decide))) hO (by omega) fun I2 r2 f2 => ?_
      exact mqJ r2 ((FM.th I1 0).trans (FM.fr f2 (by decide) (by decide))) (by rw [f2.2 0 (by decide)]; exact thr0) rfl g
  · refine PW.q h _ 0 (WR1 (e1 := 2) (o := some 2) (w_L_calls_0 (by omega)) (Or.inr rfl) ?_) ?_
    · intro K T g1 g2
      exact w_X10_calls_0 (by omega) (rqC hC.boys (fun _ => dd_qX (g2 2 rfl)) fun z => absurd z hv)
    · intro I1 L1 c1 s1 h1 K g
      have hR := h1.2.1
      refine w_X11_calls_0 (by omega) ?_
      simp only [dd_u_u, upd_uu]
      exact rqM (hR.g (by omega)) (by omega) (fun _ => mqT hR (by decide) g) fun z => absurd z hv
theorem A_first {d Ln c s : Nat} {I0 I : Nat → Nat → Int32} {L : Nat → Nat → Int64} {w : Nat → Nat} {im : Option (Nat → Nat)} {na od : Nat} {A : Nat → Nat → Nat} {tp : Nat → Nat} {tl : Nat} {fa : Option Nat} (hd : 60 ≤ d) (h : INV I0 w im na od A tp tl fa I L) (a : Int32) : PW d m_L_first [.ref 0, .int a, .ref 163] m_X11_first [.ref 148, .int a] I0 Ln c s I L := by
  have hO := h.1.1
  have hC := h.2.2.1
  have w1 := hO.1.2.1
  have hk : (133 : Nat) = 133 ∨ (133 : Nat) = 136 := Or.inl rfl
  by_cases hv : vld a (w 1)
  · obtain ⟨b, hb, rfl⟩ := vld_i (by omega) hv
    have hx := (hO.2.2.2.1 b (by omega)).2.1
    have ho := h.1.2.2.1.2 b hb
    have ib := h.1.2.1 b hb
    refine PW.q h _ (oI (clV w b (w (187 + 5 * b)) true)) (WR1 (e1 := 2) (o := none) (w_L_first_0 (by omega)) (Or.inl rfl) ?_) ?_
    · intro K T g1 g2
      refine w_X10_first_0 (by omega) (rqC hC.boys (fun z => absurd hv z) fun _ => ?_)
      refine C_isIn (w := w) (by omega) hC (by omega) ?_
      rw [bI_z]
      refine ⟨fun z => ?_, fun z => ?_⟩
      · have nf : ¬ w (187 + 5 * b) = w 4 := fun q => of_decide_eq_false z (ib.mpr q)
        refine C_leastFirst (w := w) (by omega) hC hO h.2.2.2.1 (by omega) ho nf fun I1 L1 f1 l1 => ?_
        unfold clV at g1
        rw [if_pos rfl, if_neg nf] at g1
        exact dd_qT (g1 rfl I1 L1 (FC.t f1 l1))
      · have yf : w (187 + 5 * b) = w 4 := ib.mp (Decidable.of_not_not (fun z2 => z (decide_eq_false z2)))
        unfold clV at g1
        rw [if_pos rfl, if_pos yf] at g1
        exact dd_qT (g1 rfl I L (FC.refl I L))
    · intro I1 L1 c1 s1 h1 K g
      have hR := h1.2.1
      refine w_X11_first_0 (by omega) (rqM (hR.g (by omega)) (by omega) (fun z => absurd hv z) fun _ => ?_)
      refine M_called (w := w) (fst := true) (by omega) (hR.of (dd_un (by decide))) hO (by omega) fun I2 r2 f2 => ?_
      exact mqJ r2 ((FM.th I1 0).trans (FM.fr f2 (by decide) (by decide))) (by rw [f2.2 0 (by decide)]; exact thr0) rfl g
  · refine PW.q h _ 0 (WR1 (e1 := 2) (o := some 2) (w_L_first_0 (by omega)) (Or.inr rfl) ?_) ?_
    · intro K T g1 g2
      exact w_X10_first_0 (by omega) (rqC hC.boys (fun _ => dd_qX (g2 2 rfl)) fun z => absurd z hv)
    · intro I1 L1 c1 s1 h1 K g
      have hR := h1.2.1
      refine w_X11_first_0 (by omega) ?_
      simp only [dd_u_u, upd_uu]
      exact rqM (hR.g (by omega)) (by omega) (fun _ => mqT hR (by decide) g) fun z => absurd z hv
theorem A_can {d Ln c s : Nat} {I0 I : Nat → Nat → Int32} {L : Nat → Nat → Int64} {w : Nat → Nat} {im : Option (Nat → Nat)} {na od : Nat} {A : Nat → Nat → Nat} {tp : Nat → Nat} {tl : Nat} {fa : Option Nat} (hd : 60 ≤ d) (h : INV I0 w im na od A tp tl fa I L) (a a2 : Int32) : PW d m_L_can [.ref 0, .int a, .int a2, .ref 163] m_X11_can [.ref 148, .int a, .int a2] I0 Ln c s I L := by
  have hO := h.1.1
  have hC := h.2.2.1
  have w1 := hO.1.2.1
  have h7 := hO.1.2.2.2.2.2.2.1
  have hk : (133 : Nat) = 133 ∨ (133 : Nat) = 136 := Or.inl rfl
  by_cases hv : vld a (w 1)
  · by_cases hv2 : vld a2 17
    · obtain ⟨b, hb, rfl⟩ := vld_i (by omega) hv
      obtain ⟨n, hn, rfl⟩ := vld_i (by omega) hv2
      have hx := (hO.2.2.2.1 b (by omega)).2.1
      have tb : tn (nI b) = b := nI_clamp (by omega)
      have ho := h.1.2.2.1.2 b hb
      refine PW.q h _ (nI (smF (fun y => (rs w b (w 7) (w (187 + 5 * b)) n y).toNat) 64)) (WR2 (e1 := 2) (e2 := 0) (o := none) (w_L_can_0 (by omega)) (by decide) (Or.inl rfl) ?_) ?_
      · intro K T g1 g2
        refine w_X10_can_0 (by omega) (rqC hC.boys (fun z => absurd hv z) fun _ => rqL (m := 16) rfl (by omega) (fun z => absurd hv2 z) fun _ => ?_)
        refine C_thinkFor (w := w) (by omega) hC hO h.2.2.2.1 (by omega) fun I1 L1 hT f1 l1 => ?_
        have c1 : RC w I1 L1 := (hC.fr f1 (kA hk)).of (fun _ _ _ => rfl) (l1 1 (by omega) (by omega))
        rw [tb, c1.cell (by omega)]
        refine ⟨⟨nI_pos' (by omega), by omega⟩, ?_⟩
        refine C_reachedIn (w := w) (b := b) (by omega) c1 hO hT hx ho (by omega) ?_
        exact dd_qT (g1 rfl I1 L1 (FC.t f1 l1))
      · intro I1 L1 c1 s1 h1 K g
        have hR := h1.2.1
        refine w_X11_can_0 (by omega) (rqM (hR.g (by omega)) (by omega) (fun z => absurd hv z) fun _ => rqN (m := 16) rfl (by omega) (fun z => absurd hv2 z) fun _ => ?_)
        have hR1 : RM w (dd_u I1 148 (upd (I1 148) 0 0)) := hR.of (dd_un (by decide))
        have fj := FM.th I1 0
        have t0 : dd_u I1 148 (upd (I1 148) 0 0) 148 0 = 0 := thr0
        generalize dd_u I1 148 (upd (I1 148) 0 0) = J at *
        generalize ex : w (187 + 5 * b) = x at *
        refine M_startsAt (w := w) (by omega) hR1 hO (by omega) fun I2 r2 k2 v2 f2 => ?_
        rw [ex] at v2
        have key : ∀ I' u, WU w 0 u → RM u I' → FN2 J I' → (∀ j, j < 522 → I' 152 j = nI (w j)) → spV w b x 0 (I' 159) → dd_Rn d m_X11_can (50, [.ref 148, .int (nI b), .int (nI n), .int (nI 0), .null], [], sM Ln I' L1 c1 s1) (dd_RI Ln c1 s1 K) := by
          refine dd_lp (fun i => ∀ I' u, WU w i u → RM u I' → FN2 J I' → (∀ j, j < 522 → I' 152 j = nI (w j)) → spV w b x i (I' 159) → dd_Rn d m_X11_can (50, [.ref 148, .int (nI b), .int (nI n), .int (nI i), .null], [], sM Ln I' L1 c1 s1) (dd_RI Ln c1 s1 K)) n ?_ ?_
          · intro I' u U R F k S
            refine w_X11_can_50 (by omega) ?_
            rw [nI_leI (by omega) (by omega)]
            refine ⟨fun _ => ?_, fun z => absurd (Nat.le_refl _) z⟩
            refine M_bringsBack (w := u) (w0 := w) (by omega) R k (fun j hj => U.2.1.1 j (by omega)) fun f4 r4 => ?_
            have F4 : FN2 J (dd_u I' 149 f4) := F.u (by decide) (by decide)
            have cnt : dd_Rn d m_X11_can (84, [.ref 148, .int (nI b), .int (nI n), .int (nI (smF (fun y => (rs w b (w 7) x n y).toNat) 0)), .int (nI 0)], [], sM Ln (dd_u I' 149 f4) L1 c1 s1) (dd_RI Ln c1 s1 K) := by
              refine dd_lp (fun i => dd_Rn d m_X11_can (84, [.ref 148, .int (nI b), .int (nI n), .int (nI (smF (fun y => (rs w b (w 7) x n y).toNat) i)), .int (nI i)], [], sM Ln (dd_u I' 149 f4) L1 c1 s1) (dd_RI Ln c1 s1 K)) 64 ?_ ?_
              · refine w_X11_can_84 (by omega) ?_
                rw [li_64, nI_leI (by omega) (by omega)]
                exact ⟨fun _ => mqJ r4 (fj.trans (FM.fr F4 (by decide) (by decide))) (by rw [F4.2 0 (by decide)]; exact t0) rfl g, fun z => absurd (Nat.le_refl _) z⟩
              · intro i hi ih
                have ti : tn (nI i) = i := nI_clamp (by omega)
                have nz := sp_nz h7 hx S hi
                rw [smF_s] at ih
                refine w_X11_can_84 (by omega) ?_
                rw [li_64, nI_leI (by omega) (by omega), ti, dd_un (show (159 : Nat) ≠ 149 by decide)]
                simp only [nI_1]
                have z0 : nI (smF (fun y => (rs w b (w 7) x n y).toNat) i) + 0 = nI (smF (fun y => (rs w b (w 7) x n y).toNat) i) := Int32.add_zero _
                rw [z0]
                refine ⟨fun z => absurd z (by omega), fun _ => ⟨⟨nI_pos' (by omega), by omega⟩, fun z => ?_, fun z => ?_⟩⟩
                · have nr : rs w b (w 7) x n i = false := by
                    cases hq : rs w b (w 7) x n i with
                    | false => rfl
                    | true => exact absurd z (nz.mpr hq)
                  have ih : dd_Rn d m_X11_can (84, [.ref 148, .int (nI b), .int (nI n), .int (nI (smF (fun y => (rs w b (w 7) x n y).toNat) i + (rs w b (w 7) x n i).toNat)), .int (nI (i + 1))], [], sM Ln (dd_u I' 149 f4) L1 c1 s1) (dd_RI Ln c1 s1 K) := ih
                  rw [nr] at ih
                  exact ih
                · have ih : dd_Rn d m_X11_can (84, [.ref 148, .int (nI b), .int (nI n), .int (nI (smF (fun y => (rs w b (w 7) x n y).toNat) i + (rs w b (w 7) x n i).toNat)), .int (nI (i + 1))], [], sM Ln (dd_u I' 149 f4) L1 c1 s1) (dd_RI Ln c1 s1 K) := ih
                  rw [nz.mp z] at ih
                  exact ih
            exact cnt
          · intro i hi ih I' u U R F k S
            have more : ∀ ft : Bool, ft = decide (i = 0) → dd_Ev (d - 1) m_X11_anyNote [.ref 148, .int (nI b), .int (bI ft)] (sM Ln I' L1 c1 s1) (dd_RV Ln c1 s1 (fun I2 L2 => dd_Rn d m_X11_can (50, [.ref 148, .int (nI b), .int (nI n), .int (nI (i + 1)), .null], [], sM Ln I2 L2 c1 s1) (dd_RI Ln c1 s1 K))) := by
              intro ft hft
              refine M_anyNote (w := w) (n := i) (V := I' 159) (by omega) (by omega) (fun _ _ => rfl) U R fun I2 u2 U2 R2 S2 F2 => ?_
              exact ih I2 u2 U2 R2 (F.trans (F2.mono (by decide) (by decide))) (fun j hj => by rw [F2.1 152 (by decide) (by decide)]; exact k j hj) (sp_step h7 hx hft S S2)
            refine w_X11_can_50 (by omega) ?_
            rw [nI_leI (by omega) (by omega), li_0, nI_eq (by omega) (by omega)]
            simp only [nI_1]
            exact ⟨fun z => absurd z (by omega), fun _ => ⟨fun e => more true (decide_eq_true e).symm, fun e => more false (decide_eq_false e).symm⟩⟩
        exact key I2 w (WU_0 hO) r2 f2 k2 (Or.inl ⟨rfl, v2⟩)
    · refine PW.q h _ 0 (WR2 (e1 := 2) (e2 := 0) (o := some 0) (w_L_can_0 (by omega)) (by decide) (Or.inr (Or.inr rfl)) ?_) ?_
      · intro K T g1 g2
        exact w_X10_can_0 (by omega) (rqC hC.boys (fun z => absurd hv z) fun _ => rqL (m := 16) rfl (by omega) (fun _ => dd_qX (g2 0 rfl)) fun z => absurd z hv2)
      · intro I1 L1 c1 s1 h1 K g
        have hR := h1.2.1
        refine w_X11_can_0 (by omega) ?_
        simp only [dd_u_u, upd_uu]
        exact rqM (hR.g (by omega)) (by omega) (fun z => absurd hv z) fun _ => rqN (m := 16) rfl (by omega) (fun _ => mqT hR (by decide) g) fun z => absurd z hv2
  · refine PW.q h _ 0 (WR2 (e1 := 2) (e2 := 0) (o := some 2) (w_L_can_0 (by omega)) (by decide) (Or.inr (Or.inl rfl)) ?_) ?_
    · intro K T g1 g2
      exact w_X10_can_0 (by omega) (rqC hC.boys (fun _ => dd_qX (g2 2 rfl)) fun z => absurd z hv)
    · intro I1 L1 c1 s1 h1 K g
      have hR := h1.2.1
      refine w_X11_can_0 (by omega) ?_
      simp only [dd_u_u, upd_uu]
      exact rqM (hR.g (by omega)) (by omega) (fun _ => mqT hR (by decide) g) fun z => absurd z hv
