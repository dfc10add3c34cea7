/-! sounds, listen -/
theorem TJ_o {I : Nat → Nat → Int32} {k : Nat} (h : k ≠ 148) : TJ I k = I k := dd_un h
theorem TJ_0 {I : Nat → Nat → Int32} : TJ I 148 0 = 0 := by unfold TJ; rw [dd_us, pk_un (by decide), pk_un (by decide), pk_un (by decide), pk_us]
theorem TJ_11 {I : Nat → Nat → Int32} : TJ I 148 11 = I 148 9 := by unfold TJ; rw [dd_us, pk_un (by decide), pk_un (by decide), pk_us]
theorem TJ_e {I : Nat → Nat → Int32} : dd_u (dd_u (dd_u (dd_u I 148 (upd (I 148) 0 0)) 148 (upd (upd (I 148) 0 0) 11 (I 148 9))) 148 (upd (upd (upd (I 148) 0 0) 11 (I 148 9)) 9 0)) 148 (upd (upd (upd (upd (I 148) 0 0) 11 (I 148 9)) 9 0) 10 0) = TJ I := by
  unfold TJ
  simp only [dd_u_u]
theorem TC_o {I : Nat → Nat → Int32} {k : Nat} (h : k ≠ 0) : TC I k = I k := dd_un h
/-- hearTold -/
theorem C_hearTold {d Ln c s : Nat} {I : Nat → Nat → Int32} {L : Nat → Nat → Int64} {K : (Nat → Nat → Int32) → (Nat → Nat → Int64) → Prop} {T : Nat → (Nat → Nat → Int32) → (Nat → Nat → Int64) → Prop} {I0 : Nat → Nat → Int32} {w : Nat → Nat} {im : Option (Nat → Nat)} {na od : Nat} {A : Nat → Nat → Nat} {tp : Nat → Nat} {tl : Nat} {fa : Option Nat} (hd : 30 ≤ d) (h : INV I0 w im na od A tp tl fa I L) (kt : sdB w tp tl = true → ∀ I', FitS w tp tl (TC I) I' L → K I' L) (kf : sdB w tp tl = false → ∀ I', FR 25 [145] [] (TC I) I' → T 0 I' L) : dd_Ev d m_X10_hearTold [.ref 0] (sM Ln I L c s) (dd_TV Ln c s K T) := by
  obtain ⟨t1, t2, t3, t4, t5⟩ := h.2.2.2.2.2.2.1
  have hC := h.2.2.1
  have w0 := h.1.1.1.1
  refine w_X10_hearTold_0 (by omega) ?_
  rw [t4]
  show dd_Ev (d - 1) m_X5_hearAll [.ref 144, .ref 129, .int (nI tl)] (sM Ln (TC I) L c s) _
  have cT : RC w (TC I) L := hC.of (fun j _ _ => TC_o (by omega)) rfl
  refine C_hearAll (tp := tp) (tl := tl) (by omega) t1 t2 (fun j hj => by rw [TC_o (by omega)]; exact (t5 j hj).1) (fun I1 f1 q => ?_) (fun I1 f1 q1 q2 q3 q4 => ?_)
  · refine ⟨fun _ => dd_qVx (kf ?_ I1 f1), fun z => absurd rfl z⟩
    unfold sdB
    cases h1 : (decide (tl % 2 = 0) && decide (tl ≤ 40)) with
    | false => rfl
    | true => rw [h1, Bool.true_and] at q; rw [q, Bool.and_false]
  · have c1 : RC w I1 L := cT.fr f1 (fun j h1 h2 => by simp only [List.mem_cons, List.not_mem_nil, or_false]; omega)
    rw [c1.parts, li_0, nI_eq (by omega) (by omega)]
    refine ⟨fun z => absurd z (by decide), fun _ => ⟨fun z => dd_qVx (kf ?_ I1 f1), fun z => dd_qVn (kt ?_ I1 ⟨c1, ?_, q4, f1.mono (by decide) (by decide)⟩)⟩⟩
    · unfold sdB
      rw [decide_eq_false (show ¬ 0 < w 0 by omega), Bool.and_false, Bool.false_and]
    · unfold sdB
      rw [decide_eq_true q1, decide_eq_true q2, decide_eq_true (show 0 < w 0 by omega), q3]; rfl
    · refine (h.2.2.2.1.of ?_ ?_ ?_)
      · rw [f1.2 1 (by decide), TC_o (by omega)]
      · rw [f1.2 2 (by decide), TC_o (by omega)]
      · rw [f1.1 26 (by decide) (by decide), TC_o (by omega)]
theorem sdB_a {w tp : Nat → Nat} {tl : Nat} (h : sdB w tp tl = true) : allN (sdP tp) (tl / 2) = true := by
  unfold sdB at h
  rw [Bool.and_eq_true] at h
  exact h.2
/-- the least of those that fit, from above -/
def lsC (p : Nat → Bool) : Nat → Nat × Option Nat := lpf (fun i o => if p (63 - i) = true then (o.1 + 1, some (63 - i)) else o) (0, none)
theorem lsC_spec {p : Nat → Bool} : ∀ i, i ≤ 64 → (lsC p i).1 = cntB (fun j => p (64 - i + j)) i ∧ (∀ j, j < 64 → 64 - i ≤ j → p j = true → ∃ m, (lsC p i).2 = some m ∧ m ≤ j) ∧ (∀ m, (lsC p i).2 = some m → m < 64 ∧ 64 - i ≤ m ∧ p m = true) := by
  intro i
  induction i with
  | zero => intro _; exact ⟨rfl, fun j h1 h2 => by omega, fun m h => by cases h⟩
  | succ i ih =>
    intro hi
    obtain ⟨h1, h2, h3⟩ := ih (by omega)
    have e : lsC p (i + 1) = if p (63 - i) = true then ((lsC p i).1 + 1, some (63 - i)) else lsC p i := rfl
    have ec : cntB (fun j => p (64 - (i + 1) + j)) (i + 1) = (if p (63 - i) = true then 1 else 0) + cntB (fun j => p (64 - i + j)) i := by
      have gen : ∀ (q : Nat → Bool) n, cntB q (n + 1) = (if q 0 = true then 1 else 0) + cntB (fun j => q (j + 1)) n := by
        intro q n
        induction n with
        | zero =>
          show (if q 0 = true then 0 + 1 else 0) = (if q 0 = true then 1 else 0) + 0
          split <;> rfl
        | succ n ihn =>
          have a1 : cntB q (n + 1 + 1) = if q (n + 1) = true then cntB q (n + 1) + 1 else cntB q (n + 1) := rfl
          have a2 : cntB (fun j => q (j + 1)) (n + 1) = if q (n + 1) = true then cntB (fun j => q (j + 1)) n + 1 else cntB (fun j => q (j + 1)) n := rfl
          rw [a1, a2, ihn]
          split <;> omega
      rw [gen]
      have f1 : 64 - (i + 1) + 0 = 63 - i := by omega
      have f2 : (fun j => (fun j => p (64 - (i + 1) + j)) (j + 1)) = fun j => p (64 - i + j) := by
        funext j
        show p (64 - (i + 1) + (j + 1)) = p (64 - i + j)
        congr 1
        omega
      rw [f2, f1]
    rw [e, ec]
    by_cases q : p (63 - i) = true
    · rw [if_pos q, if_pos q]
      refine ⟨by show (lsC p i).1 + 1 = _; rw [h1]; omega, fun j j1 j2 j3 => ⟨63 - i, rfl, by omega⟩, fun m hm => ?_⟩
      cases hm
      exact ⟨by omega, by omega, q⟩
    · rw [if_neg q, if_neg q]
      refine ⟨by rw [h1]; omega, fun j j1 j2 j3 => ?_, fun m hm => ?_⟩
      · by_cases z : j = 63 - i
        · subst z; exact absurd j3 q
        · exact h2 j j1 (by omega) j3
      · obtain ⟨m1, m2, m3⟩ := h3 m hm
        exact ⟨m1, by omega, m3⟩
theorem lsC_64 {p : Nat → Bool} : (lsC p 64).1 = cntB p 64 ∧ (lsC p 64).2 = frst p 64 := by
  obtain ⟨h1, h2, h3⟩ := lsC_spec (p := p) 64 (Nat.le_refl _)
  refine ⟨?_, ?_⟩
  · rw [h1]
    have : (fun j => p (64 - 64 + j)) = p := by funext j; show p (0 + j) = p j; rw [Nat.zero_add]
    rw [this]
  · rcases frst_cases p 64 with ⟨q1, q2⟩ | ⟨n, q0, q1, q2, q3⟩
    · rw [q1]
      cases hh : (lsC p 64).2 with
      | none => rfl
      | some m =>
        obtain ⟨m1, _, m3⟩ := h3 m hh
        rw [q2 m m1] at m3
        cases m3
    · rw [q1]
      obtain ⟨m, e, le⟩ := h2 n q0 (by omega) q2
      obtain ⟨m1, _, m3⟩ := h3 m e
      rw [e]
      congr 1
      refine Nat.le_antisymm le (Nat.le_of_not_lt (fun lt => ?_))
      rw [q3 m lt] at m3
      cases m3
theorem lsC_le {p : Nat → Bool} {i : Nat} (hi : i ≤ 64) : (lsC p i).1 ≤ 64 := by
  have := cntB_le (p := fun j => p (64 - i + j)) i
  rw [(lsC_spec i hi).1]
  omega
abbrev FS2 (I I' : Nat → Nat → Int32) : Prop := FR 148 [149, 152, 156, 161, 162] [18] I I'
theorem A_sounds {d Ln c s : Nat} {I0 I : Nat → Nat → Int32} {L : Nat → Nat → Int64} {w : Nat → Nat} {im : Option (Nat → Nat)} {na od : Nat} {A : Nat → Nat → Nat} {tp : Nat → Nat} {tl : Nat} {fa : Option Nat} (hd : 60 ≤ d) (h : INV I0 w im na od A tp tl fa I L) (a : Int32) : PW d m_L_sounds [.ref 0, .int a, .ref 163] m_X11_sounds [.ref 148, .int a] I0 Ln c s I L := by
  have hO := h.1.1
  obtain ⟨t1, t2, t3, t4, t5⟩ := h.2.2.2.2.2.2.1
  cases hs : sdB w tp tl with
  | true =>
    have ha := sdB_a hs
    refine PW.tp h 0 (if a = 0 then nI (cntB (ftB w tp tl) 64) else oI (frst (ftB w tp tl) 64)) ?_ ?_
    · intro K g
      refine w_L_sounds_0 (by omega) ?_
      refine w_X10_sounds_0 (by omega) ?_
      refine C_hearTold (by omega) h (fun _ I1 S1 => ?_) (fun q => by rw [hs] at q; cases q)
      have fin : ∀ I2 v, FitS w tp tl (TC I) I2 L → v = (if a = 0 then nI (cntB (ftB w tp tl) 64) else oI (frst (ftB w tp tl) 64)) → dd_TI Ln c s (fun x1 I1 L1 => dd_RJ Ln c s K (none, .int 0, sM Ln I1 (dd_u L1 163 (vp_updL (L1 163) 0 x1.toInt64)) c s)) (fun E1 I1 L1 => (E1 = 0 ∧ dd_RJ Ln c s K (none, .int 1, sM Ln I1 L1 (c + 1) (s + 6)))) (none, .int v, sM Ln I2 L c s) := by
        intro I2 v S2 ev
        refine dd_qT (dd_qJ (g _ _ c s (cs1r c s) ?_ (fun _ => by rw [ev]; exact outL)))
        exact FC.trans (FC.fr S2.2.2.2 (by decide)) FC.out
      refine ⟨fun z => C_cellCount (w := w) (tp := tp) (tl := tl) (by omega) hO ha S1 fun I2 S2 => fin I2 _ S2 (by rw [if_pos z]), fun z => C_leastCell (w := w) (tp := tp) (tl := tl) (by omega) hO ha S1 fun I2 S2 => fin I2 _ S2 (by rw [if_neg z])⟩
    · intro I1 L1 c1 s1 hR t9 t54 K g
      refine w_X11_sounds_0 (by omega) ?_
      rw [TJ_e]
      have rJ : RM w (TJ I1) := hR.of (TJ_o (by decide))
      have k0 : TJ I1 148 0 = 0 := TJ_0
      have k11 : TJ I1 148 11 = nI tl := by rw [TJ_11]; exact t9
      have k54 : ∀ j, j < 400 → TJ I1 154 j = byt (tp j) := fun j hj => by rw [TJ_o (by decide)]; exact t54 j hj
      generalize TJ I1 = J at *
      refine M_isSounding (w := w) (tp := tp) (tl := tl) (by omega) rJ hO t1 t2 k11 k54 ?_
      rw [hs]
      refine ⟨fun z => absurd z (by decide), fun _ => ?_⟩
      refine M_laysNears (w := w) (by omega) rJ hO fun I2 r2 f2 n2 => ?_
      have m11 : I2 148 11 = nI tl := by rw [f2.2 11 (by decide)]; exact k11
      have m54 : ∀ j, j < 400 → I2 154 j = byt (tp j) := fun j hj => by rw [f2.1 154 (by decide) (by decide)]; exact k54 j hj
      have key : dd_Rn d m_X11_sounds (38, [.ref 148, .int a, .int (nI (lsC (ftB w tp tl) 0).1), .int (oI (lsC (ftB w tp tl) 0).2), .int (if 0 < 64 then nI (63 - 0) else -1)], [], sM Ln I2 L1 c1 s1) (dd_RI Ln c1 s1 K) := by
        refine dd_lp (fun i => dd_Rn d m_X11_sounds (38, [.ref 148, .int a, .int (nI (lsC (ftB w tp tl) i).1), .int (oI (lsC (ftB w tp tl) i).2), .int (if i < 64 then nI (63 - i) else -1)], [], sM Ln I2 L1 c1 s1) (dd_RI Ln c1 s1 K)) 64 ?_ ?_
        · refine w_X11_sounds_38 (by omega) ?_
          rw [if_neg (Nat.lt_irrefl _), lsC_64.1, lsC_64.2]
          refine ⟨fun _ => ⟨fun z => ?_, fun z => ?_⟩, fun z => absurd (by decide) z⟩
          · exact mqJ r2 (FM.fr f2 (by decide) (by decide)) (by rw [f2.2 0 (by decide)]; exact k0) (by rw [if_pos z]) g
          · exact mqJ r2 (FM.fr f2 (by decide) (by decide)) (by rw [f2.2 0 (by decide)]; exact k0) (by rw [if_neg z]) g
        · intro i hi ih
          have es : lsC (ftB w tp tl) (i + 1) = if ftB w tp tl (63 - i) = true then ((lsC (ftB w tp tl) i).1 + 1, some (63 - i)) else lsC (ftB w tp tl) i := rfl
          rw [es] at ih
          have en : nI (63 - i) + (-1) = if i + 1 < 64 then nI (63 - (i + 1)) else -1 := by
            by_cases q : i + 1 < 64
            · rw [if_pos q, show 63 - i = (63 - (i + 1)) + 1 by omega]
              exact nI_dec _
            · rw [if_neg q, show 63 - i = 0 by omega]
              decide
          refine w_X11_sounds_38 (by omega) ?_
          rw [if_pos hi, en]
          simp only [nI_1]
          refine ⟨fun z => absurd z (nI_pos (by omega)), fun _ => ?_⟩
          refine M_fits (w := w) (tp := tp) (tl := tl) (by omega) r2 hO hs t2 (by omega) m11 m54 n2 ?_
          rw [bI_z]
          refine ⟨fun z => ?_, fun z => ?_⟩
          · rw [if_neg (by rw [z]; decide)] at ih
            exact ih
          · rw [if_pos (by cases hz : ftB w tp tl (63 - i) with
              | true => rfl
              | false => exact absurd hz z)] at ih
            exact ih
      rw [if_pos (by decide)] at key
      exact key
  | false =>
    refine PW.tp h 1 0 ?_ ?_
    · intro K g
      refine w_L_sounds_0 (by omega) ?_
      refine w_X10_sounds_0 (by omega) ?_
      refine C_hearTold (by omega) h (fun q => by rw [hs] at q; cases q) (fun _ I1 f1 => ?_)
      exact dd_qX ⟨rfl, dd_qJt (g _ _ _ _ (cs1t c s) (FC.fr (FRm f1) (by decide)) (fun q => absurd q (by decide)))⟩
    · intro I1 L1 c1 s1 hR t9 t54 K g
      refine w_X11_sounds_0 (by omega) ?_
      rw [TJ_e]
      have rJ : RM w (TJ I1) := hR.of (TJ_o (by decide))
      have k11 : TJ I1 148 11 = nI tl := by rw [TJ_11]; exact t9
      have k54 : ∀ j, j < 400 → TJ I1 154 j = byt (tp j) := fun j hj => by rw [TJ_o (by decide)]; exact t54 j hj
      generalize TJ I1 = J at *
      refine M_isSounding (w := w) (tp := tp) (tl := tl) (by omega) rJ hO t1 t2 k11 k54 ?_
      rw [hs]
      exact ⟨fun _ => mqT rJ (by decide) g, fun z => absurd rfl z⟩
