/-! sounds: the model -/
theorem bytQ {tp : Nat → Nat} (h256 : ∀ j, tp j < 256) (j : Nat) {m : Nat} (hm : m < 127) : (byt (tp j) < 0 ∧ ¬ tp j < m + 1) ∨ (¬ byt (tp j) < 0 ∧ nI m < byt (tp j) ∧ ¬ tp j < m + 1) ∨ (¬ byt (tp j) < 0 ∧ ¬ nI m < byt (tp j) ∧ tp j < m + 1 ∧ byt (tp j) = nI (tp j)) := by
  have hb := h256 j
  obtain ⟨b1, b2⟩ := byt_b (tp j) hb
  by_cases q : tp j < 128
  · have e := b1 q
    rw [e]
    have p : ¬ nI (tp j) < 0 := nI_pos (by omega)
    by_cases z : tp j < m + 1
    · refine Or.inr (Or.inr ⟨p, ?_, z, rfl⟩)
      rw [nI_ltI (by omega) (by omega)]; omega
    · refine Or.inr (Or.inl ⟨p, ?_, z⟩)
      rw [nI_ltI (by omega) (by omega)]; omega
  · exact Or.inl ⟨(b2 (by omega)).1, by omega⟩
theorem M_isSounding {d Ln c s : Nat} {I : Nat → Nat → Int32} {L : Nat → Nat → Int64} {K : Int32 → (Nat → Nat → Int32) → (Nat → Nat → Int64) → Prop} {w tp : Nat → Nat} {tl : Nat} (hd : 28 ≤ d) (hR : RM w I) (hO : OKW w) (hl : tl ≤ 400) (h256 : ∀ j, tp j < 256) (h11 : I 148 11 = nI tl) (ht : ∀ j, j < 400 → I 154 j = byt (tp j)) (k : K (bI (sdB w tp tl)) I L) : dd_Ev d m_X11_isSounding [.ref 148] (sM Ln I L c s) (dd_RI Ln c s K) := by
  have w0 := hO.1.1
  refine w_X11_isSounding_0 (by omega) ?_
  have e2 : nI tl - nI tl / 2 * 2 = nI (tl % 2) := by rw [li_2, pk_rem (by omega) (by omega) (by omega)]
  have run : ∀ f0 : Bool, f0 = ((decide (tl % 2 = 0) && decide (tl ≤ 40)) && decide (0 < w 0)) → dd_Rn d m_X11_isSounding (33, [.ref 148, .int (bI f0), .int (nI (2 * 0))], [], sM Ln I L c s) (dd_RI Ln c s K) := by
    intro f0 hf0
    have k : K (bI (f0 && allN (sdP tp) (tl / 2))) I L := by rw [hf0]; exact k
    have bz : ∀ t : Bool, bI t = 0 ∨ bI t = 1 := by decide
    cases f0 with
    | false =>
      refine w_X11_isSounding_33 (by omega) ?_
      exact ⟨fun _ => ⟨bz false, dd_qi k⟩, fun _ => ⟨fun _ => ⟨bz false, dd_qi k⟩, fun z => absurd rfl z⟩⟩
    | true =>
      have ev : tl % 2 = 0 := by
        have := hf0.symm
        rw [Bool.and_eq_true, Bool.and_eq_true] at this
        exact of_decide_eq_true this.1.1
      rw [Bool.true_and] at k
      have key : dd_Rn d m_X11_isSounding (33, [.ref 148, .int (bI (allN (sdP tp) 0)), .int (nI (2 * 0))], [], sM Ln I L c s) (dd_RI Ln c s K) := by
        refine dd_lp (fun j => dd_Rn d m_X11_isSounding (33, [.ref 148, .int (bI (allN (sdP tp) j)), .int (nI (2 * j))], [], sM Ln I L c s) (dd_RI Ln c s K)) (tl / 2) ?_ ?_
        · refine w_X11_isSounding_33 (by omega) ?_
          rw [h11, nI_leI (by omega) (by omega)]
          exact ⟨fun _ => ⟨bz _, dd_qi k⟩, fun z => absurd (by omega) z⟩
        · intro j hj ih
          have t1 : tn (nI (2 * j)) = 2 * j := nI_clamp (by omega)
          have t2 : tn (nI (2 * j + 1)) = 2 * j + 1 := nI_clamp (by omega)
          have e22 : nI (2 * j) + 2 = nI (2 * (j + 1)) := by rw [li_2, nI_add]; congr 1
          refine w_X11_isSounding_33 (by omega) ?_
          rw [h11, nI_leI (by omega) (by omega), nI_1, t1, t2, ht _ (by omega), ht _ (by omega), e22, bI_z]
          have ck1 : (0 ≤ nI (2 * j) ∧ 2 * j < 400) := ⟨nI_pos' (by omega), by omega⟩
          have ck2 : (0 ≤ nI (2 * j + 1) ∧ 2 * j + 1 < 400) := ⟨nI_pos' (by omega), by omega⟩
          rw [allN] at ih
          refine ⟨fun z => absurd z (by omega), fun _ => ⟨fun z => ⟨Or.inl z, ?_⟩, fun z => ⟨ck1, ?_⟩⟩⟩
          · have e : allN (sdP tp) (tl / 2) = false := by
              cases hq : allN (sdP tp) (tl / 2) with
              | false => rfl
              | true =>
                have : allN (sdP tp) j = true := (allN_iff _ _).mpr (fun i hi => (allN_iff _ _).mp hq i (by omega))
                rw [z] at this
                cases this
            rw [e] at k
            rw [z]
            exact dd_qi k
          · have zt : allN (sdP tp) j = true := by
              cases hz : allN (sdP tp) j with
              | true => rfl
              | false => exact absurd hz z
            rw [zt, Bool.true_and] at ih
            have no : sdP tp j = false → dd_Rn d m_X11_isSounding (33, [.ref 148, .int 0, .int (nI (2 * (j + 1)))], [], sM Ln I L c s) (dd_RI Ln c s K) := fun q => by rw [q] at ih; exact ih
            have yes : sdP tp j = true → dd_Rn d m_X11_isSounding (33, [.ref 148, .int 1, .int (nI (2 * (j + 1)))], [], sM Ln I L c s) (dd_RI Ln c s K) := fun q => by rw [q] at ih; exact ih
            have n1 : ¬ tp (2 * j) < 31 → sdP tp j = false := fun q => by unfold sdP; rw [decide_eq_false q]; rfl
            have n2 : ¬ tp (2 * j + 1) < 15 → sdP tp j = false := fun q => by unfold sdP; rw [decide_eq_false q, Bool.and_false]
            rcases bytQ h256 (2 * j) (m := 30) (by omega) with ⟨a, b⟩ | ⟨a, b, b2⟩ | ⟨a, b, b2, _⟩
            · exact ⟨fun _ => no (n1 b), fun y => absurd a y⟩
            · exact ⟨fun y => absurd y a, fun _ => ⟨fun _ => no (n1 b2), fun y => absurd b y⟩⟩
            · refine ⟨fun y => absurd y a, fun _ => ⟨fun y => absurd y b, fun _ => ⟨ck2, ?_⟩⟩⟩
              rcases bytQ h256 (2 * j + 1) (m := 14) (by omega) with ⟨a', c1⟩ | ⟨a', c1, c2⟩ | ⟨a', c1, c2, _⟩
              · exact ⟨fun _ => no (n2 c1), fun y => absurd a' y⟩
              · exact ⟨fun y => absurd y a', fun _ => ⟨fun _ => no (n2 c2), fun y => absurd c1 y⟩⟩
              · exact ⟨fun y => absurd y a', fun _ => ⟨fun y => absurd y c1, fun _ => yes (by unfold sdP; rw [decide_eq_true b2, decide_eq_true c2]; rfl)⟩⟩
      exact key
  rw [h11, e2, li_0, nI_eq (by omega) (by omega), li_40, nI_ltI (by omega) (by omega), hR.g (by omega), nI_leI (by omega) (by omega)]
  refine ⟨fun z => ⟨fun z2 => run false ?_, fun z2 => ⟨fun z3 => run false ?_, fun z3 => run true ?_⟩⟩, fun z => run false ?_⟩
  · rw [decide_eq_false (show ¬ tl ≤ 40 by omega), Bool.and_false, Bool.false_and]
  · rw [decide_eq_false (show ¬ 0 < w 0 by omega), Bool.and_false]
  · rw [decide_eq_true z, decide_eq_true (show tl ≤ 40 by omega), decide_eq_true (show 0 < w 0 by omega)]; rfl
  · rw [decide_eq_false z]; rfl
abbrev FY (I I' : Nat → Nat → Int32) : Prop := FR 148 [149, 152, 156, 161] [18] I I'
theorem M_laysNears {d Ln c s : Nat} {I : Nat → Nat → Int32} {L : Nat → Nat → Int64} {K : (Nat → Nat → Int32) → (Nat → Nat → Int64) → Prop} {w : Nat → Nat} (hd : 38 ≤ d) (hR : RM w I) (hO : OKW w) (kk : ∀ I', RM w I' → FY I I' → (∀ x n, x < 64 → n < 31 → I' 161 (31 * x + n) = nI (nuN w x n)) → K I' L) : dd_Ev d m_X11_laysNears [.ref 148] (sM Ln I L c s) (dd_RV Ln c s K) := by
  have w4 := hO.1.2.2.2.1
  refine w_X11_laysNears_0 (by omega) ?_
  have key : ∀ I' a2, RM w I' → FY I I' → (∀ x n, x < 0 → n < 31 → I' 161 (31 * x + n) = nI (nuN w x n)) → dd_Rn d m_X11_laysNears (2, [.ref 148, .int (nI 0), a2], [], sM Ln I' L c s) (dd_RV Ln c s K) := by
    refine dd_lp (fun i => ∀ I' a2, RM w I' → FY I I' → (∀ x n, x < i → n < 31 → I' 161 (31 * x + n) = nI (nuN w x n)) → dd_Rn d m_X11_laysNears (2, [.ref 148, .int (nI i), a2], [], sM Ln I' L c s) (dd_RV Ln c s K)) 64 ?_ ?_
    · intro I' a2 r f m
      refine w_X11_laysNears_2 (by omega) ?_
      rw [li_64, nI_leI (by omega) (by omega)]
      exact ⟨fun _ => dd_qV (kk I' r f m), fun z => absurd (Nat.le_refl _) z⟩
    · intro i hi ih I' a2 r f m
      refine w_X11_laysNears_2 (by omega) ?_
      rw [li_64, nI_leI (by omega) (by omega)]
      refine ⟨fun z => absurd z (by omega), fun _ => ?_⟩
      refine M_keepsAll (w := w) (by omega) r fun f0 hf0 => ?_
      rw [li_0, li_15]
      refine M_thinksOf (w := w) (by omega) (r.of (dd_un (by decide))) (by omega) hi w4 fun f2 r2 => ?_
      have oT := tkW_ok (w := w) (b := 0) (x := i) (p := 0) (e := 15) hO (by omega) hi (by omega) (by omega)
      have iT := tkW_in (w := w) (b := 0) (x := i) (p := 0) (e := 15)
      have inner : ∀ I', RM (bfA (tkW w 0 i 0 15) 0 0) I' → FY I I' → (∀ j, j < 522 → I' 152 j = nI (w j)) → (∀ x n, x < i → n < 31 → I' 161 (31 * x + n) = nI (nuN w x n)) → (∀ n, n < 0 → I' 161 (31 * i + n) = nI (nuN w i n)) → dd_Rn d m_X11_laysNears (23, [.ref 148, .int (nI i), .int (nI 0)], [], sM Ln I' L c s) (dd_RV Ln c s K) := by
        refine dd_lp (fun t => ∀ I', RM (bfA (tkW w 0 i 0 15) 0 t) I' → FY I I' → (∀ j, j < 522 → I' 152 j = nI (w j)) → (∀ x n, x < i → n < 31 → I' 161 (31 * x + n) = nI (nuN w x n)) → (∀ n, n < t → I' 161 (31 * i + n) = nI (nuN w i n)) → dd_Rn d m_X11_laysNears (23, [.ref 148, .int (nI i), .int (nI t)], [], sM Ln I' L c s) (dd_RV Ln c s K)) 31 ?_ ?_
        · intro I' r' f' k' m' q'
          obtain ⟨c0, c1, c2, c3, c4⟩ := bfA_c oT iT (by omega) 31
          refine w_X11_laysNears_23 (by omega) ?_
          rw [li_30, nI_ltI (by omega) (by omega)]
          refine ⟨fun _ => ?_, fun z => absurd (by omega) z⟩
          refine M_bringsBack (w0 := w) (by omega) r' k' (fun j hj => by rw [c1.1 j (by omega), tkW_o (by omega)]) fun f4 r4 => ?_
          simp only [nI_1]
          refine ih _ _ r4 (f'.u (by decide) (by decide)) (fun x n hx hn => ?_)
          rw [dd_un (by decide)]
          by_cases e : x = i
          · subst e; exact q' n hn
          · exact m' x n (by omega) hn
        · intro t ht iht I' r' f' k' m' q'
          obtain ⟨c0, c1, c2, c3, c4⟩ := bfA_c oT iT (by omega) t
          have cl := (c0.2.2.2.1 0 (by omega)).2.1
          have e4 : bfA (tkW w 0 i 0 15) 0 t 4 = w 4 := by rw [c1.1 4 (by omega), tkW_o (by omega)]
          have ec : bfA (tkW w 0 i 0 15) 0 t (187 + 5 * 0) = tkC w 0 i 0 15 t := by rw [c3, wkB_tk (by omega) hi (by omega)]
          have e0 : (187 : Int32) + (5 : Int32) * nI 0 + nI 0 = nI (187 + 5 * 0) := by rw [li_187, li_5, pk_mul, nI_add, nI_add]
          have t0 : tn (nI (187 + 5 * 0)) = 187 + 5 * 0 := nI_clamp (by omega)
          have ei : (31 : Int32) * nI i + nI t = nI (31 * i + t) := by rw [li_31, pk_mul, nI_add]
          have et : tn (nI (31 * i + t)) = 31 * i + t := nI_clamp (by omega)
          refine w_X11_laysNears_23 (by omega) ?_
          rw [li_30, nI_ltI (by omega) (by omega), li_0, e0, t0, r'.g (by omega)]
          simp only [nI_1]
          refine ⟨fun z => absurd z (by omega), fun _ => ⟨⟨nI_pos' (by omega), by omega⟩, ?_⟩⟩
          refine M_nearOf (w := bfA (tkW w 0 i 0 15) 0 t) (by omega) r' cl (by rw [e4]; exact w4) ?_
          rw [ei, et]
          refine ⟨⟨nI_pos' (by omega), by omega⟩, ?_⟩
          refine M_beatFor (b := 0) (by omega) (r'.of (dd_un (by decide))) c0 (by omega) fun I3 r3 f3 => ?_
          refine iht I3 r3 ((f'.u (by decide) (by decide)).trans (f3.mono (by decide) (by decide))) (fun j hj => by rw [f3.1 152 (by decide) (by decide), dd_un (by decide)]; exact k' j hj) (fun x n hx hn => ?_) (fun n hn => ?_)
          · rw [f3.1 161 (by decide) (by decide), dd_us, pk_un (by omega)]
            exact m' x n hx hn
          · rw [f3.1 161 (by decide) (by decide), dd_us]
            by_cases e : n = t
            · subst e
              rw [pk_us, e4]
              have : bfA (tkW w 0 i 0 15) 0 n (187 + 5 * 0) = tkC w 0 i 0 15 n := ec
              rw [this]
              rfl
            · rw [pk_un (by omega)]; exact q' n (by omega)
      refine inner _ r2 ((f.u (by decide) (by decide)).u (by decide) (by decide)) (fun j hj => by rw [dd_un (by decide), dd_us]; exact hf0 j hj) (fun x n hx hn => by rw [dd_un (by decide), dd_un (by decide)]; exact m x n hx hn) (fun n hn => absurd hn (Nat.not_lt_zero n))
  exact key I _ hR (FR.refl I) (fun x n hx => absurd hx (Nat.not_lt_zero x))
theorem M_fits {d Ln c s : Nat} {I : Nat → Nat → Int32} {L : Nat → Nat → Int64} {K : Int32 → (Nat → Nat → Int32) → (Nat → Nat → Int64) → Prop} {w tp : Nat → Nat} {tl x : Nat} (hd : 28 ≤ d) (hR : RM w I) (hO : OKW w) (hs : sdB w tp tl = true) (h256 : ∀ j, tp j < 256) (hx : x < 64) (h11 : I 148 11 = nI tl) (ht : ∀ j, j < 400 → I 154 j = byt (tp j)) (hn : ∀ x n, x < 64 → n < 31 → I 161 (31 * x + n) = nI (nuN w x n)) (k : K (bI (ftB w tp tl x)) I L) : dd_Ev d m_X11_fits [.ref 148, .int (nI x)] (sM Ln I L c s) (dd_RI Ln c s K) := by
  have tx := (hO.2.1 x hx).1
  have w4 := hO.1.2.2.2.1
  unfold sdB at hs
  rw [Bool.and_eq_true, Bool.and_eq_true, Bool.and_eq_true, decide_eq_true_eq, decide_eq_true_eq] at hs
  obtain ⟨⟨⟨ev, l40⟩, _⟩, ha⟩ := hs
  have e11 : (11 : Int32) + nI x = nI (11 + x) := by rw [li_11, nI_add]
  have t11 : tn (nI (11 + x)) = 11 + x := nI_clamp (by omega)
  have bz : ∀ t : Bool, bI t = 0 ∨ bI t = 1 := by decide
  refine w_X11_fits_0 hd ?_
  have key : dd_Rn d m_X11_fits (16, [.ref 148, .int (nI x), .int (bI (opn w x && allN (fun j => decide (nuN w x (tp (2 * j)) = tp (2 * j + 1))) 0)), .int (nI (2 * 0))], [], sM Ln I L c s) (dd_RI Ln c s K) := by
    refine dd_lp (fun j => dd_Rn d m_X11_fits (16, [.ref 148, .int (nI x), .int (bI (opn w x && allN (fun j => decide (nuN w x (tp (2 * j)) = tp (2 * j + 1))) j)), .int (nI (2 * j))], [], sM Ln I L c s) (dd_RI Ln c s K)) (tl / 2) ?_ ?_
    · refine w_X11_fits_16 hd ?_
      rw [h11, nI_leI (by omega) (by omega)]
      exact ⟨fun _ => ⟨bz _, dd_qi k⟩, fun z => absurd (by omega) z⟩
    · intro j hj ih
      have t1 : tn (nI (2 * j)) = 2 * j := nI_clamp (by omega)
      have t2 : tn (nI (2 * j + 1)) = 2 * j + 1 := nI_clamp (by omega)
      have e22 : nI (2 * j) + 2 = nI (2 * (j + 1)) := by rw [li_2, nI_add]; congr 1
      have p := (allN_iff _ _).mp ha j hj
      unfold sdP at p
      rw [Bool.and_eq_true, decide_eq_true_eq, decide_eq_true_eq] at p
      have b1 := (byt_b _ (h256 (2 * j))).1 (by omega)
      have b2 := (byt_b _ (h256 (2 * j + 1))).1 (by omega)
      have ei : (31 : Int32) * nI x + nI (tp (2 * j)) = nI (31 * x + tp (2 * j)) := by rw [li_31, pk_mul, nI_add]
      have et : tn (nI (31 * x + tp (2 * j))) = 31 * x + tp (2 * j) := nI_clamp (by omega)
      have n14 := nu14 (w := w) w4 (x := x) (n := tp (2 * j)) hx
      refine w_X11_fits_16 hd ?_
      rw [h11, nI_leI (by omega) (by omega), nI_1, t1, t2, ht _ (by omega), ht _ (by omega), b1, b2, ei, et, hn x _ hx p.1, nI_eq (by omega) (by omega), e22, bI_z]
      rw [allN, ← Bool.and_assoc] at ih
      refine ⟨fun z => absurd z (by omega), fun _ => ⟨fun z => ?_, fun z => ⟨⟨nI_pos' (by omega), by omega⟩, ⟨nI_pos' (by omega), by omega⟩, ⟨nI_pos' (by omega), by omega⟩, fun z2 => ?_, fun z2 => ?_⟩⟩⟩
      · rw [z, Bool.false_and] at ih
        exact ih
      · rw [decide_eq_true z2, Bool.and_true] at ih
        have zt : (opn w x && allN (fun j => decide (nuN w x (tp (2 * j)) = tp (2 * j + 1))) j) = true := by
          cases hz : (opn w x && allN (fun j => decide (nuN w x (tp (2 * j)) = tp (2 * j + 1))) j) with
          | true => rfl
          | false => exact absurd hz z
        rw [zt] at ih
        exact ih
      · rw [decide_eq_false z2, Bool.and_false] at ih
        exact ih
  rw [e11, t11, hR.g (by omega), nI1i tx]
  refine ⟨⟨nI_pos' (by omega), by omega⟩, fun z => ?_, fun z => ?_⟩
  · rw [(opn_f hx).mpr z] at key
    exact key
  · rw [opn_t.mpr ⟨hx, z⟩] at key
    exact key
