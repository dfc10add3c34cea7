/-! calls, first, can: the model -/
def tz8 (m : Nat) : Nat := (frst (fun i => m.testBit i) 8).getD 0
theorem tz_e : ∀ m, m < 256 → 0 < m → ((nI m ^^^ (-1)) &&& (nI m - 1)) = nI (2 ^ tz8 m - 1) ∧ tz8 m < 8 := by decide +kernel
theorem J_tz {d Ln c s : Nat} {I : Nat → Nat → Int32} {L : Nat → Nat → Int64} {K : Int32 → (Nat → Nat → Int32) → (Nat → Nat → Int64) → Prop} {m : Nat} (hd : 28 ≤ d) (hm : m < 256) (h0 : 0 < m) (k : K (nI (tz8 m)) I L) : dd_Ev d m_J6_numberOfTrailingZeros_0f7a4 [.int (nI m)] (sM Ln I L c s) (dd_RI Ln c s K) := by
  obtain ⟨e, h8⟩ := tz_e m hm h0
  refine w_J6_numberOfTrailingZeros_0f7a4_0 hd ?_
  rw [e]
  generalize tz8 m = t at *
  clear e
  have ht : t = 0 ∨ t = 1 ∨ t = 2 ∨ t = 3 ∨ t = 4 ∨ t = 5 ∨ t = 6 ∨ t = 7 := by omega
  have r62 : ∀ a0 a1 : Int32, ((a0 ≤ 4 → dd_RI Ln c s K (none, .int (a1 + ((a0.toUInt32 >>> ((1 : Int32).toUInt32 &&& Int32.toUInt32 31)).toInt32)), sM Ln I L c s)) ∧ (¬ a0 ≤ 4 → dd_RI Ln c s K (none, .int ((a1 + 2) + ((((a0.toUInt32 >>> ((2 : Int32).toUInt32 &&& Int32.toUInt32 31)).toInt32).toUInt32 >>> ((1 : Int32).toUInt32 &&& Int32.toUInt32 31)).toInt32)), sM Ln I L c s))) → dd_Rn d m_J6_numberOfTrailingZeros_0f7a4 (62, [.int a0, .int a1], [], sM Ln I L c s) (dd_RI Ln c s K) := by
    intro a0 a1 hh
    refine w_J6_numberOfTrailingZeros_0f7a4_62 hd ⟨fun z => ?_, fun z => ?_⟩
    · exact w_J6_numberOfTrailingZeros_0f7a4_74 hd (hh.1 z)
    · exact w_J6_numberOfTrailingZeros_0f7a4_74 hd (hh.2 z)
  rcases ht with q | q | q | q | q | q | q | q <;> subst q <;> simp +decide only [Bool.true_eq_false, Bool.false_eq_true, true_and, and_true, true_implies, false_implies, implies_true, not_true_eq_false, not_false_eq_true, ne_eq, forall_const] <;> first | exact dd_qi k | exact r62 _ _ ⟨fun _ => dd_qi k, fun z => absurd (by decide) z⟩ | exact r62 _ _ ⟨fun z => absurd z (by decide), fun _ => dd_qi k⟩
def WU (w : Nat → Nat) (n : Nat) (u : Nat → Nat) : Prop := OKW u ∧ cst w u ∧ u 7 = (w 7 + n) % 8
theorem cst_pb {w : Nat → Nat} {b y : Nat} (hb : b ≤ 6) : cst w (pbw w b y) := ⟨fun j hj => pbw_o (by omega) (by omega), fun b' hb' => ⟨pbw_o (by omega) (by omega), pbw_o (by omega) (by omega), pbw_o (by omega) (by omega)⟩⟩
theorem cst_gb {w : Nat → Nat} {b nt : Nat} (hb : b ≤ 6) : cst w (gbW w b nt) := ⟨stat_gbW hb, fun b' hb' => ⟨gbW_o (by omega) (by omega), gbW_o (by omega) (by omega), gbW_o (by omega) (by omega)⟩⟩
theorem WU_go {w u : Nat → Nat} {n b y nt : Nat} (h : WU w n u) (hb : b ≤ 6) (hy : y < 64) : WU w n (gbW (pbw u b y) b nt) ∧ gbW (pbw u b y) b nt (187 + 5 * b) = nx w b ((w 7 + n) % 8) nt y := by
  obtain ⟨h1, h2, h3⟩ := h
  have o1 := okW_pb (x := y) h1 hb hy
  have c1 : cst w (pbw u b y) := h2.trans (cst_pb hb)
  refine ⟨⟨okW_gbW o1 hb, c1.trans (cst_gb hb), ?_⟩, ?_⟩
  · rw [gbW_o (by omega) (by omega), pbw_o (by omega) (by omega)]; exact h3
  · rw [gbW_c inb_pb, pbw_c, ← vF_fct, pbw_c, gcl_cong c1.1 hy]
    obtain ⟨p1, p2, p3⟩ := c1.2 b hb
    rw [p1, p2, p3, c1.1 4 (by omega), c1.1 5 (by omega), c1.1 (75 + y) (by omega), pbw_o (j := 7) (by omega) (by omega), h3]
    rfl
abbrev FN (I I' : Nat → Nat → Int32) : Prop := FR 148 [149, 156, 159, 160] [18] I I'
theorem upd_or {f : Nat → Int32} {z : Nat} {v : Int32} {P : Nat → Nat → Prop} {R : Nat → Prop} {zz : Nat} (hz : ∀ i, i < 32 → (bX (f zz) i = true ↔ P zz i)) (hv : ∀ i, i < 32 → (bX v i = true ↔ R i)) : ∀ i, i < 32 → (bX (upd f z (f z ||| v) zz) i = true ↔ P zz i ∨ (zz = z ∧ R i)) := by
  intro i hi
  by_cases e : zz = z
  · subst e
    rw [pk_us, bX_or, Bool.or_eq_true, hz i hi, hv i hi]
    exact ⟨fun q => q.elim Or.inl (fun q => Or.inr ⟨rfl, q⟩), fun q => q.elim Or.inl (fun q => Or.inr q.2)⟩
  · rw [pk_un e, hz i hi]
    exact ⟨Or.inl, fun q => q.elim id (fun q => absurd q.1 e)⟩
theorem M_anyNote {d Ln c s : Nat} {I : Nat → Nat → Int32} {L : Nat → Nat → Int64} {K : (Nat → Nat → Int32) → (Nat → Nat → Int64) → Prop} {w : Nat → Nat} {n b : Nat} {fst : Bool} {V : Nat → Int32} (hd : 36 ≤ d) (hb : b ≤ 6) (hV : ∀ y, y < 64 → I 159 y = V y) {u : Nat → Nat} (hU : WU w n u) (hR : RM u I) (kk : ∀ I' u', WU w (n + 1) u' → RM u' I' → (∀ z, z < 64 → ∀ i, i < 32 → (bX (I' 159 z) i = true ↔ ∃ y nt, y < 64 ∧ nt < 8 ∧ ¬ V y = 0 ∧ nx w b ((w 7 + n) % 8) nt y = z ∧ bX (if fst = true then (1 : Int32) <<< (nI nt &&& 31) else V y) i = true)) → FN I I' → K I' L) : dd_Ev d m_X11_anyNote [.ref 148, .int (nI b), .int (bI fst)] (sM Ln I L c s) (dd_RV Ln c s K) := by
  have e0 : (187 : Int32) + (5 : Int32) * nI b + 0 = nI (187 + 5 * b) := by rw [li_187, li_5, li_0, pk_mul, nI_add, nI_add, Nat.add_zero]
  have e3 : (187 : Int32) + (5 : Int32) * nI b + 3 = nI (187 + 5 * b + 3) := by rw [li_187, li_5, li_3, pk_mul, nI_add, nI_add]
  have t0 : tn (nI (187 + 5 * b)) = 187 + 5 * b := nI_clamp (by omega)
  have t3 : tn (nI (187 + 5 * b + 3)) = 187 + 5 * b + 3 := nI_clamp (by omega)
  -- the copy at the end
  have last : ∀ I2 u2 a4, WU w n u2 → RM u2 I2 → FN I I2 → (∀ z, z < 64 → ∀ i, i < 32 → (bX (I2 160 z) i = true ↔ ∃ y nt, y < 64 ∧ nt < 8 ∧ ¬ V y = 0 ∧ nx w b ((w 7 + n) % 8) nt y = z ∧ bX (if fst = true then (1 : Int32) <<< (nI nt &&& 31) else V y) i = true)) → dd_Rn d m_X11_anyNote (140, [.ref 148, .int (nI b), .int (bI fst), .int 0, a4], [], sM Ln I2 L c s) (dd_RV Ln c s K) := by
    intro I2 u2 a4 U2 R2 F2 S2
    have key : ∀ f, (∀ z, z < 0 → f z = I2 160 z) → dd_Rn d m_X11_anyNote (140, [.ref 148, .int (nI b), .int (bI fst), .int (nI 0), a4], [], sM Ln (dd_u I2 159 f) L c s) (dd_RV Ln c s K) := by
      refine dd_lp (fun m => ∀ f, (∀ z, z < m → f z = I2 160 z) → dd_Rn d m_X11_anyNote (140, [.ref 148, .int (nI b), .int (bI fst), .int (nI m), a4], [], sM Ln (dd_u I2 159 f) L c s) (dd_RV Ln c s K)) 64 ?_ ?_
      · intro f hf
        refine w_X11_anyNote_140 (by omega) ?_
        rw [li_64, nI_leI (by omega) (by omega)]
        refine ⟨fun _ => ?_, fun z => absurd (Nat.le_refl _) z⟩
        refine M_beatEnds (w := u2) (by omega) (R2.of (dd_un (by decide))) U2.1.1.2.2.2.2.2.2.1 U2.1.1.2.2.2.2.2.2.2.1 fun I3 r3 f3 => ?_
        refine dd_qV (kk I3 (bend u2) ⟨okW_bend U2.1, U2.2.1.trans cst_bend, ?_⟩ r3 (fun z hz i hi => ?_) ((F2.u (by decide) (by decide)).trans (f3.mono (by decide) (by decide))))
        · rw [bend_7 U2.1.1.2.2.2.2.2.2.1, U2.2.2]; omega
        · rw [f3.1 159 (by decide) (by decide), dd_us, hf z hz]
          exact S2 z hz i hi
      · intro m hm ih f hf
        have tm : tn (nI m) = m := nI_clamp (by omega)
        refine w_X11_anyNote_140 (by omega) ?_
        rw [li_64, nI_leI (by omega) (by omega), tm, dd_us, dd_u_u, dd_un (show (160 : Nat) ≠ 159 by decide), nI_1]
        refine ⟨fun z => absurd z (by omega), fun _ => ⟨⟨nI_pos' (by omega), by omega⟩, ⟨nI_pos' (by omega), by omega⟩, ih _ (fun z hz => ?_)⟩⟩
        by_cases e : z = m
        · subst e; rw [pk_us]
        · rw [pk_un e]; exact hf z (by omega)
    have := key (I2 159) (fun z hz => absurd hz (Nat.not_lt_zero z))
    rw [dd_u_id] at this
    exact this
  -- the cells, one by one
  have outer : ∀ I2 u2 a4, WU w n u2 → RM u2 I2 → FN I I2 → (∀ y, y < 64 → I2 159 y = V y) → (∀ z, z < 64 → ∀ i, i < 32 → (bX (I2 160 z) i = true ↔ ∃ y nt, y < 0 ∧ y < 64 ∧ nt < 8 ∧ ¬ V y = 0 ∧ nx w b ((w 7 + n) % 8) nt y = z ∧ bX (if fst = true then (1 : Int32) <<< (nI nt &&& 31) else V y) i = true)) → dd_Rn d m_X11_anyNote (23, [.ref 148, .int (nI b), .int (bI fst), .int (nI 0), a4], [], sM Ln I2 L c s) (dd_RV Ln c s K) := by
    refine dd_lp (fun m => ∀ I2 u2 a4, WU w n u2 → RM u2 I2 → FN I I2 → (∀ y, y < 64 → I2 159 y = V y) → (∀ z, z < 64 → ∀ i, i < 32 → (bX (I2 160 z) i = true ↔ ∃ y nt, y < m ∧ y < 64 ∧ nt < 8 ∧ ¬ V y = 0 ∧ nx w b ((w 7 + n) % 8) nt y = z ∧ bX (if fst = true then (1 : Int32) <<< (nI nt &&& 31) else V y) i = true)) → dd_Rn d m_X11_anyNote (23, [.ref 148, .int (nI b), .int (bI fst), .int (nI m), a4], [], sM Ln I2 L c s) (dd_RV Ln c s K)) 64 ?_ ?_
    · intro I2 u2 a4 U2 R2 F2 V2 S2
      refine w_X11_anyNote_23 (by omega) ?_
      rw [li_64, nI_leI (by omega) (by omega)]
      refine ⟨fun _ => last I2 u2 a4 U2 R2 F2 (fun z hz i hi => (S2 z hz i hi).trans ?_), fun z => absurd (Nat.le_refl _) z⟩
      constructor
      · rintro ⟨y, nt, _, q⟩
        exact ⟨y, nt, q⟩
      · rintro ⟨y, nt, q1, q⟩
        exact ⟨y, nt, q1, q1, q⟩
    · intro m hm ih I2 u2 a4 U2 R2 F2 V2 S2
      have tm : tn (nI m) = m := nI_clamp (by omega)
      refine w_X11_anyNote_23 (by omega) ?_
      rw [li_64, nI_leI (by omega) (by omega), tm, V2 m hm]
      simp only [nI_1]
      refine ⟨fun z => absurd z (by omega), fun _ => ⟨⟨nI_pos' (by omega), by omega⟩, fun z => ?_, fun z => ?_⟩⟩
      · refine ih I2 u2 a4 U2 R2 F2 V2 (fun zz hz i hi => (S2 zz hz i hi).trans ?_)
        constructor
        · rintro ⟨y, nt, q1, q⟩
          exact ⟨y, nt, by omega, q⟩
        · rintro ⟨y, nt, q1, q2, q3, q4, q⟩
          refine ⟨y, nt, ?_, q2, q3, q4, q⟩
          by_cases e : y = m
          · subst e; exact absurd z q4
          · omega
      · have inner : ∀ I2 u2, WU w n u2 → RM u2 I2 → FN I I2 → (∀ y, y < 64 → I2 159 y = V y) → (∀ z, z < 64 → ∀ i, i < 32 → (bX (I2 160 z) i = true ↔ ∃ y nt, (y < m ∨ (y = m ∧ nt < 0)) ∧ y < 64 ∧ nt < 8 ∧ ¬ V y = 0 ∧ nx w b ((w 7 + n) % 8) nt y = z ∧ bX (if fst = true then (1 : Int32) <<< (nI nt &&& 31) else V y) i = true)) → dd_Rn d m_X11_anyNote (44, [.ref 148, .int (nI b), .int (bI fst), .int (nI m), .int (nI 0)], [], sM Ln I2 L c s) (dd_RV Ln c s K) := by
          refine dd_lp (fun r => ∀ I2 u2, WU w n u2 → RM u2 I2 → FN I I2 → (∀ y, y < 64 → I2 159 y = V y) → (∀ z, z < 64 → ∀ i, i < 32 → (bX (I2 160 z) i = true ↔ ∃ y nt, (y < m ∨ (y = m ∧ nt < r)) ∧ y < 64 ∧ nt < 8 ∧ ¬ V y = 0 ∧ nx w b ((w 7 + n) % 8) nt y = z ∧ bX (if fst = true then (1 : Int32) <<< (nI nt &&& 31) else V y) i = true)) → dd_Rn d m_X11_anyNote (44, [.ref 148, .int (nI b), .int (bI fst), .int (nI m), .int (nI r)], [], sM Ln I2 L c s) (dd_RV Ln c s K)) 8 ?_ ?_
          · intro I2 u2 U2 R2 F2 V2 S2
            refine w_X11_anyNote_44 (by omega) ?_
            rw [li_8, nI_leI (by omega) (by omega)]
            refine ⟨fun _ => ?_, fun z => absurd (Nat.le_refl _) z⟩
            rw [nI_1]
            refine ih I2 u2 _ U2 R2 F2 V2 (fun zz hz i hi => (S2 zz hz i hi).trans ?_)
            constructor
            · rintro ⟨y, nt, q1, q⟩
              exact ⟨y, nt, by omega, q⟩
            · rintro ⟨y, nt, q1, q2, q3, q⟩
              exact ⟨y, nt, by omega, q2, q3, q⟩
          · intro r hr ihr I2 u2 U2 R2 F2 V2 S2
            obtain ⟨G, eG⟩ := WU_go (nt := r) U2 hb hm
            have zl : nx w b ((w 7 + n) % 8) r m < 64 := nx_lt hm
            have u4 : u2 4 = w 4 := U2.2.1.1 4 (by omega)
            have w4 := U2.1.1.2.2.2.1
            have tz : tn (nI (nx w b ((w 7 + n) % 8) r m)) = nx w b ((w 7 + n) % 8) r m := nI_clamp (by omega)
            -- what is left behind the step
            have tail : ∀ I3, RM (gbW (pbw u2 b m) b r) I3 → FW I2 I3 → ((0 ≤ nI (187 + 5 * b) ∧ 187 + 5 * b < 2220) ∧ ((0 ≤ I3 149 (187 + 5 * b) ∧ tn (I3 149 (187 + 5 * b)) < 64) ∧ ((bI fst = 0 → ((0 ≤ nI m ∧ m < 64) ∧ ((0 ≤ I3 149 (187 + 5 * b) ∧ tn (I3 149 (187 + 5 * b)) < 64) ∧ dd_Rn d m_X11_anyNote (44, [.ref 148, .int (nI b), .int (bI fst), .int (nI m), .int (nI (r + 1))], [], sM Ln (dd_u I3 160 (upd (I3 160) (tn (I3 149 (187 + 5 * b))) ((I3 160 (tn (I3 149 (187 + 5 * b)))) ||| (I3 159 m)))) L c s) (dd_RV Ln c s K)))) ∧ (¬ (bI fst = 0) → ((0 ≤ I3 149 (187 + 5 * b) ∧ tn (I3 149 (187 + 5 * b)) < 64) ∧ dd_Rn d m_X11_anyNote (44, [.ref 148, .int (nI b), .int (bI fst), .int (nI m), .int (nI (r + 1))], [], sM Ln (dd_u I3 160 (upd (I3 160) (tn (I3 149 (187 + 5 * b))) ((I3 160 (tn (I3 149 (187 + 5 * b)))) ||| ((1) <<< ((nI r) &&& 31))))) L c s) (dd_RV Ln c s K)))))) := by
              intro I3 r3 f3
              have e59 : ∀ y, I3 159 y = I2 159 y := fun y => by rw [f3.1 159 (by decide) (by decide)]
              have e60 : I3 160 = I2 160 := f3.1 160 (by decide) (by decide)
              rw [r3.g (show 187 + 5 * b < 1371 by omega), eG, tz, e59 m, V2 m hm, bI_z]
              have ck : (0 ≤ nI (nx w b ((w 7 + n) % 8) r m) ∧ nx w b ((w 7 + n) % 8) r m < 64) := ⟨nI_pos' (by omega), zl⟩
              have go : ∀ v, (if fst = true then (1 : Int32) <<< (nI r &&& 31) else V m) = v → dd_Rn d m_X11_anyNote (44, [.ref 148, .int (nI b), .int (bI fst), .int (nI m), .int (nI (r + 1))], [], sM Ln (dd_u I3 160 (upd (I3 160) (nx w b ((w 7 + n) % 8) r m) ((I3 160 (nx w b ((w 7 + n) % 8) r m)) ||| v))) L c s) (dd_RV Ln c s K) := by
                intro v ev
                refine ihr _ _ G (r3.of (dd_un (by decide))) ((F2.trans (f3.mono (by decide) (by decide))).u (by decide) (by decide)) (fun y hy => by rw [dd_un (by decide), e59 y]; exact V2 y hy) (fun zz hz i hi => ?_)
                rw [dd_us, e60]
                have := upd_or (f := I2 160) (z := nx w b ((w 7 + n) % 8) r m) (v := v) (zz := zz) (P := fun zz i => ∃ y nt, (y < m ∨ (y = m ∧ nt < r)) ∧ y < 64 ∧ nt < 8 ∧ ¬ V y = 0 ∧ nx w b ((w 7 + n) % 8) nt y = zz ∧ bX (if fst = true then (1 : Int32) <<< (nI nt &&& 31) else V y) i = true) (R := fun i => bX v i = true) (fun i hi => S2 zz hz i hi) (fun i hi => Iff.rfl) i hi
                rw [this]
                constructor
                · rintro (⟨y, nt, q1, q⟩ | ⟨q1, q2⟩)
                  · exact ⟨y, nt, by omega, q⟩
                  · exact ⟨m, r, by omega, hm, hr, z, q1.symm, by rw [ev]; exact q2⟩
                · rintro ⟨y, nt, q1, q2, q3, q4, q5, q6⟩
                  by_cases e : y = m ∧ nt = r
                  · obtain ⟨e1, e2⟩ := e
                    subst e1
                    subst e2
                    refine Or.inr ⟨q5.symm, ?_⟩
                    rw [ev] at q6
                    exact q6
                  · exact Or.inl ⟨y, nt, by omega, q2, q3, q4, q5, q6⟩
              refine ⟨⟨nI_pos' (by omega), by omega⟩, ck, fun q => ⟨⟨nI_pos' (by omega), hm⟩, ck, go _ (by rw [q]; rfl)⟩, fun q => ⟨ck, go _ ?_⟩⟩
              cases hq : fst with
              | true => rfl
              | false => exact absurd hq q
            refine w_X11_anyNote_44 (by omega) ?_
            rw [li_8, nI_leI (by omega) (by omega)]
            have tm : tn (nI m) = m := nI_clamp (by omega)
            rw [e0, e3, t0, t3, tm, pk_un (show (4 : Nat) ≠ 187 + 5 * b by omega), R2.g (show 4 < 1371 by omega), nI_eq (by omega) (by omega), dd_u_u, dd_u_u]
            simp only [nI_1]
            have rp : ∀ f, (∀ j, j < 1371 → f j = nI (pbw u2 b m j)) → RM (pbw u2 b m) (dd_u I2 149 f) := fun f hf => RM.set hf
            refine ⟨fun z => absurd z (by omega), fun _ => ⟨⟨nI_pos' (by omega), by omega⟩, fun q => ⟨⟨nI_pos' (by omega), by omega⟩, ?_⟩, fun q => ⟨⟨nI_pos' (by omega), by omega⟩, ?_⟩⟩⟩
            · have rr : RM (pbw u2 b m) (dd_u I2 149 (upd (upd (I2 149) (187 + 5 * b) (nI m)) (187 + 5 * b + 3) 1)) := by
                unfold pbw
                rw [if_pos q]
                exact RM.set (nu (nu R2 _ m) _ 1)
              refine M_goesBy (w := pbw u2 b m) (by omega) rr (okW_pb U2.1 hb hm) hb (by omega) fun I3 r3 f3 => ?_
              exact tail I3 r3 (FR.trans ((FR.refl I2).u (by decide) (by decide)) f3)
            · have rr : RM (pbw u2 b m) (dd_u I2 149 (upd (upd (I2 149) (187 + 5 * b) (nI m)) (187 + 5 * b + 3) 0)) := by
                unfold pbw
                rw [if_neg q]
                exact RM.set (nu (nu R2 _ m) _ 0)
              refine M_goesBy (w := pbw u2 b m) (by omega) rr (okW_pb U2.1 hb hm) hb (by omega) fun I3 r3 f3 => ?_
              exact tail I3 r3 (FR.trans ((FR.refl I2).u (by decide) (by decide)) f3)
        refine inner I2 u2 U2 R2 F2 V2 (fun zz hz i hi => (S2 zz hz i hi).trans ?_)
        constructor
        · rintro ⟨y, nt, q1, q⟩
          exact ⟨y, nt, by omega, q⟩
        · rintro ⟨y, nt, q1, q⟩
          exact ⟨y, nt, by omega, q⟩
  -- the emptying
  refine w_X11_anyNote_0 (by omega) ?_
  have key : ∀ f, (∀ z, z < 0 → f z = 0) → dd_Rn d m_X11_anyNote (2, [.ref 148, .int (nI b), .int (bI fst), .int (nI 0), .null], [], sM Ln (dd_u I 160 f) L c s) (dd_RV Ln c s K) := by
    refine dd_lp (fun m => ∀ f, (∀ z, z < m → f z = 0) → dd_Rn d m_X11_anyNote (2, [.ref 148, .int (nI b), .int (bI fst), .int (nI m), .null], [], sM Ln (dd_u I 160 f) L c s) (dd_RV Ln c s K)) 64 ?_ ?_
    · intro f hf
      refine w_X11_anyNote_2 (by omega) ?_
      rw [li_64, nI_leI (by omega) (by omega)]
      refine ⟨fun _ => outer _ u _ hU (hR.of (dd_un (by decide))) ((FR.refl I).u (by decide) (by decide)) (fun y hy => by rw [dd_un (by decide)]; exact hV y hy) (fun z hz i hi => ?_), fun z => absurd (Nat.le_refl _) z⟩
      rw [dd_us, hf z hz, bX_0]
      constructor
      · intro q; cases q
      · rintro ⟨y, nt, q, _⟩
        exact absurd q (Nat.not_lt_zero y)
    · intro m hm ih f hf
      have tm : tn (nI m) = m := nI_clamp (by omega)
      refine w_X11_anyNote_2 (by omega) ?_
      rw [li_64, nI_leI (by omega) (by omega), tm, dd_us, dd_u_u, nI_1]
      refine ⟨fun z => absurd z (by omega), fun _ => ⟨⟨nI_pos' (by omega), by omega⟩, ih _ (fun z hz => ?_)⟩⟩
      by_cases e : z = m
      · subst e; rw [pk_us]
      · rw [pk_un e]; exact hf z (by omega)
  have := key (I 160) (fun z hz => absurd hz (Nat.not_lt_zero z))
  rw [dd_u_id] at this
  exact this
