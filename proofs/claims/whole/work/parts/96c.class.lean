/-! law: the class reads -/
theorem w_X3_addJoins_h {Ln d c s : Nat} {I : Nat → Nat → Int32} {L : Nat → Nat → Int64} {Q : dd_O → Prop} {a1 : Int32} (hd : 28 ≤ d) (h : ((I 131 8 ≤ 0 → Q (none, .null, sM Ln I L c s)) ∧ (¬ (I 131 8 ≤ 0) → dd_Ev (d - 1) m_X3_isTop [.ref 131, .int (-5)] (sM Ln I L c s) (dd_RI Ln c s (fun x1 I1 L1 => ((x1 = 0 → ((a1 = (-6) → dd_Ev (d - 1) m_X3_isTop [.ref 131, .int (-6)] (sM Ln I1 L1 c s) (dd_RI Ln c s (fun x2 I2 L2 => ((x2 = 0 → Q (none, .null, sM Ln I2 L2 c s)) ∧ (¬ (x2 = 0) → ((0 ≤ (I2 131 8) - 1 ∧ tn ((I2 131 8) - 1) < 21) ∧ dd_Ev (d - 1) m_X2_add [.ref 27, .int (I2 132 (tn ((I2 131 8) - 1)))] (sM Ln (dd_u I2 131 (upd (I2 131) 8 ((I2 131 8) - 1))) L2 c s) (dd_RV Ln c s (fun I3 L3 => dd_Rn d m_X3_addJoins (0, [.ref 131, .int a1], [], sM Ln I3 L3 c s) Q)))))))) ∧ (¬ (a1 = (-6)) → Q (none, .null, sM Ln I1 L1 c s)))) ∧ (¬ (x1 = 0) → ((0 ≤ (I1 131 8) - 1 ∧ tn ((I1 131 8) - 1) < 21) ∧ dd_Ev (d - 1) m_X2_add [.ref 27, .int (I1 132 (tn ((I1 131 8) - 1)))] (sM Ln (dd_u I1 131 (upd (I1 131) 8 ((I1 131 8) - 1))) L1 c s) (dd_RV Ln c s (fun I4 L4 => dd_Rn d m_X3_addJoins (0, [.ref 131, .int a1], [], sM Ln I4 L4 c s) Q)))))))))) : dd_Rn d m_X3_addJoins (0, [.ref 131, .int a1], [], sM Ln I L c s) Q := by
  obtain ⟨e, rfl⟩ : ∃ e, d = e + 16 := ⟨d - 16, by omega⟩
  refine dd_Rn.ite 2 (c := I 131 8 ≤ 0) (A := (60, [.ref 131, .int a1], [], sM Ln I L c s)) (B := (7, [.ref 131, .int a1], [], sM Ln I L c s)) rfl (fun hc => ?_) (fun hc => ?_) (by omega)
  · have h := h.1 hc
    exact dd_Rn.retK 0 (pc := 60) (ls := [.ref 131, .int a1]) (st := []) (M := sM Ln I L c s) (o := (none, .null, sM Ln I L c s)) rfl rfl h (by omega)
  · have h := h.2 hc
    refine dd_Rn.cI 2 (pc := 10) (ls := [.ref 131, .int a1]) (st := [.int (-5), .ref 131]) (x := m_X3_isTop) (as := [.ref 131, .int (-5)]) (rest := []) rfl rfl rfl rfl h ?_
    intro x1 I1 L1 h
    show dd_Rn (e + 16) m_X3_addJoins (13, [.ref 131, .int a1], [.int x1], sM Ln I1 L1 c s) _
    refine dd_Rn.ite 0 (c := x1 = 0) (A := (16, [.ref 131, .int a1], [], sM Ln I1 L1 c s)) (B := (31, [.ref 131, .int a1], [], sM Ln I1 L1 c s)) rfl (fun hc => ?_) (fun hc => ?_) (by omega)
    · have h := h.1 hc
      refine dd_Rn.ite 2 (c := a1 = (-6)) (A := (22, [.ref 131, .int a1], [], sM Ln I1 L1 c s)) (B := (60, [.ref 131, .int a1], [], sM Ln I1 L1 c s)) rfl (fun hc => ?_) (fun hc => ?_) (by omega)
      · have h := h.1 hc
        refine dd_Rn.cI 2 (pc := 25) (ls := [.ref 131, .int a1]) (st := [.int (-6), .ref 131]) (x := m_X3_isTop) (as := [.ref 131, .int (-6)]) (rest := []) rfl rfl rfl rfl h ?_
        intro x2 I2 L2 h
        show dd_Rn (e + 16) m_X3_addJoins (28, [.ref 131, .int a1], [.int x2], sM Ln I2 L2 c s) _
        refine dd_Rn.ite 0 (c := x2 = 0) (A := (60, [.ref 131, .int a1], [], sM Ln I2 L2 c s)) (B := (31, [.ref 131, .int a1], [], sM Ln I2 L2 c s)) rfl (fun hc => ?_) (fun hc => ?_) (by omega)
        · have h := h.1 hc
          exact dd_Rn.retK 0 (pc := 60) (ls := [.ref 131, .int a1]) (st := []) (M := sM Ln I2 L2 c s) (o := (none, .null, sM Ln I2 L2 c s)) rfl rfl h (by omega)
        · have h := h.2 hc
          obtain ⟨hc, h⟩ := h
          refine dd_Rn.go 12 (cf' := (53, [.ref 131, .int a1], [.int ((I2 131 8) - 1), .ref 132, .ref 27], sM Ln (dd_u I2 131 (upd (I2 131) 8 ((I2 131 8) - 1))) L2 c s)) rfl ?_ (by omega)
          refine dd_Rn.ci (fun j0 => (53, [.ref 131, .int a1], [.int j0, .ref 132, .ref 27], sM Ln (dd_u I2 131 (upd (I2 131) 8 ((I2 131 8) - 1))) L2 c s)) (fun j0 => (54, [.ref 131, .int a1], [.int (I2 132 (tn j0)), .ref 27], sM Ln (dd_u I2 131 (upd (I2 131) 8 ((I2 131 8) - 1))) L2 c s)) (fun j0 => 0 ≤ j0 ∧ tn j0 < 21) ((I2 131 8) - 1) (fun j0 hc h => dd_Rn.chk 0 (c := 0 ≤ j0 ∧ tn j0 < 21) (A := (54, [.ref 131, .int a1], [.int (I2 132 (tn j0)), .ref 27], sM Ln (dd_u I2 131 (upd (I2 131) 8 ((I2 131 8) - 1))) L2 c s)) rfl hc h (by omega)) hc ?_
          refine dd_Rn.se (cf := (54, [.ref 131, .int a1], [.int (I2 132 (tn ((I2 131 8) - 1))), .ref 27], sM Ln (dd_u I2 131 (upd (I2 131) 8 ((I2 131 8) - 1))) L2 c s)) ?_
          refine dd_Rn.cV 0 (pc := 54) (ls := [.ref 131, .int a1]) (st := [.int (I2 132 (tn ((I2 131 8) - 1))), .ref 27]) (x := m_X2_add) (as := [.ref 27, .int (I2 132 (tn ((I2 131 8) - 1)))]) (rest := []) rfl rfl rfl rfl h ?_
          intro I3 L3 h
          show dd_Rn (e + 16) m_X3_addJoins (57, [.ref 131, .int a1], [], sM Ln I3 L3 c s) _
          exact dd_Rn.go 1 (cf' := (0, [.ref 131, .int a1], [], sM Ln I3 L3 c s)) rfl h (by omega)
      · have h := h.2 hc
        exact dd_Rn.retK 0 (pc := 60) (ls := [.ref 131, .int a1]) (st := []) (M := sM Ln I1 L1 c s) (o := (none, .null, sM Ln I1 L1 c s)) rfl rfl h (by omega)
    · have h := h.2 hc
      obtain ⟨hc, h⟩ := h
      refine dd_Rn.go 12 (cf' := (53, [.ref 131, .int a1], [.int ((I1 131 8) - 1), .ref 132, .ref 27], sM Ln (dd_u I1 131 (upd (I1 131) 8 ((I1 131 8) - 1))) L1 c s)) rfl ?_ (by omega)
      refine dd_Rn.ci (fun j0 => (53, [.ref 131, .int a1], [.int j0, .ref 132, .ref 27], sM Ln (dd_u I1 131 (upd (I1 131) 8 ((I1 131 8) - 1))) L1 c s)) (fun j0 => (54, [.ref 131, .int a1], [.int (I1 132 (tn j0)), .ref 27], sM Ln (dd_u I1 131 (upd (I1 131) 8 ((I1 131 8) - 1))) L1 c s)) (fun j0 => 0 ≤ j0 ∧ tn j0 < 21) ((I1 131 8) - 1) (fun j0 hc h => dd_Rn.chk 0 (c := 0 ≤ j0 ∧ tn j0 < 21) (A := (54, [.ref 131, .int a1], [.int (I1 132 (tn j0)), .ref 27], sM Ln (dd_u I1 131 (upd (I1 131) 8 ((I1 131 8) - 1))) L1 c s)) rfl hc h (by omega)) hc ?_
      refine dd_Rn.se (cf := (54, [.ref 131, .int a1], [.int (I1 132 (tn ((I1 131 8) - 1))), .ref 27], sM Ln (dd_u I1 131 (upd (I1 131) 8 ((I1 131 8) - 1))) L1 c s)) ?_
      refine dd_Rn.cV 0 (pc := 54) (ls := [.ref 131, .int a1]) (st := [.int (I1 132 (tn ((I1 131 8) - 1))), .ref 27]) (x := m_X2_add) (as := [.ref 27, .int (I1 132 (tn ((I1 131 8) - 1)))]) (rest := []) rfl rfl rfl rfl h ?_
      intro I4 L4 h
      show dd_Rn (e + 16) m_X3_addJoins (57, [.ref 131, .int a1], [], sM Ln I4 L4 c s) _
      exact dd_Rn.go 1 (cf' := (0, [.ref 131, .int a1], [], sM Ln I4 L4 c s)) rfl h (by omega)

theorem w_X3_addNots_h {Ln d c s : Nat} {I : Nat → Nat → Int32} {L : Nat → Nat → Int64} {Q : dd_O → Prop} (hd : 28 ≤ d) (h : ((I 131 8 ≤ 0 → Q (none, .null, sM Ln I L c s)) ∧ (¬ (I 131 8 ≤ 0) → dd_Ev (d - 1) m_X3_isTop [.ref 131, .int (-4)] (sM Ln I L c s) (dd_RI Ln c s (fun x1 I1 L1 => ((x1 = 0 → Q (none, .null, sM Ln I1 L1 c s)) ∧ (¬ (x1 = 0) → dd_Ev (d - 1) m_X2_add [.ref 27, .int (-4)] (sM Ln (dd_u (dd_u I1 131 (upd (I1 131) 8 ((I1 131 8) - 1))) 131 (upd (upd (I1 131) 8 ((I1 131 8) - 1)) 9 ((I1 131 9) - 1))) L1 c s) (dd_RV Ln c s (fun I2 L2 => dd_Rn d m_X3_addNots (0, [.ref 131], [], sM Ln I2 L2 c s) Q))))))))) : dd_Rn d m_X3_addNots (0, [.ref 131], [], sM Ln I L c s) Q := by
  obtain ⟨e, rfl⟩ : ∃ e, d = e + 16 := ⟨d - 16, by omega⟩
  refine dd_Rn.ite 2 (c := I 131 8 ≤ 0) (A := (48, [.ref 131], [], sM Ln I L c s)) (B := (7, [.ref 131], [], sM Ln I L c s)) rfl (fun hc => ?_) (fun hc => ?_) (by omega)
  · have h := h.1 hc
    exact dd_Rn.retK 0 (pc := 48) (ls := [.ref 131]) (st := []) (M := sM Ln I L c s) (o := (none, .null, sM Ln I L c s)) rfl rfl h (by omega)
  · have h := h.2 hc
    refine dd_Rn.cI 2 (pc := 10) (ls := [.ref 131]) (st := [.int (-4), .ref 131]) (x := m_X3_isTop) (as := [.ref 131, .int (-4)]) (rest := []) rfl rfl rfl rfl h ?_
    intro x1 I1 L1 h
    show dd_Rn (e + 16) m_X3_addNots (13, [.ref 131], [.int x1], sM Ln I1 L1 c s) _
    refine dd_Rn.ite 0 (c := x1 = 0) (A := (48, [.ref 131], [], sM Ln I1 L1 c s)) (B := (16, [.ref 131], [], sM Ln I1 L1 c s)) rfl (fun hc => ?_) (fun hc => ?_) (by omega)
    · have h := h.1 hc
      exact dd_Rn.retK 0 (pc := 48) (ls := [.ref 131]) (st := []) (M := sM Ln I1 L1 c s) (o := (none, .null, sM Ln I1 L1 c s)) rfl rfl h (by omega)
    · have h := h.2 hc
      refine dd_Rn.cV 15 (pc := 42) (ls := [.ref 131]) (st := [.int (-4), .ref 27]) (x := m_X2_add) (as := [.ref 27, .int (-4)]) (rest := []) rfl rfl rfl rfl h ?_
      intro I2 L2 h
      show dd_Rn (e + 16) m_X3_addNots (45, [.ref 131], [], sM Ln I2 L2 c s) _
      exact dd_Rn.go 1 (cf' := (0, [.ref 131], [], sM Ln I2 L2 c s)) rfl h (by omega)

def CL (I : Nat → Nat → Int32) (l : List Int32) : Prop := I 27 1 = nI l.length ∧ ∀ i, i < l.length → I 28 i = l.getD i 0
def stk (I : Nat → Nat → Int32) : List Int32 → Prop
  | [] => True
  | x :: st => I 132 st.length = x ∧ stk I st
/-- what reading a law's line may change -/
def FYl (I I' : Nat → Nat → Int32) : Prop := FR 131 [27, 28, 132] [2, 3, 4, 5, 8, 9, 10] I I'
theorem FYl.refl (I : Nat → Nat → Int32) : FYl I I := FR.refl I
theorem FYl.trans {I J K : Nat → Nat → Int32} (h : FYl I J) (h2 : FYl J K) : FYl I K := FR.trans h h2
theorem FYl.b {I I' : Nat → Nat → Int32} (h : FR 131 [] [2, 3, 4, 5] I I') : FYl I I' := h.mono (by decide) (by decide)
theorem FYl.a {I I' : Nat → Nat → Int32} (h : FR 131 [] [2, 3, 4] I I') : FYl I I' := h.mono (by decide) (by decide)
theorem stk.of {I J : Nat → Nat → Int32} : ∀ {st : List Int32}, stk I st → (∀ i, i < st.length → J 132 i = I 132 i) → stk J st := by
  intro st
  induction st with
  | nil => intro _ _; trivial
  | cons x st ih =>
    intro h e
    exact ⟨by rw [e _ (by show st.length < st.length + 1; omega)]; exact h.1, ih h.2 (fun i hi => e i (by show i < st.length + 1; omega))⟩
/-- the class about to read at p: so deep, so many brackets, what waits, the codes out -/
def CX (tp : Nat → Nat) (tl : Nat) (I : Nat → Nat → Int32) (p e br : Nat) (st l : List Int32) : Prop := TK tp tl 131 I p ∧ TXc tp I ∧ STR I ∧ CL I l ∧ I 131 8 = nI st.length ∧ stk I st ∧ I 131 9 = nI e ∧ I 131 10 = nI br ∧ I 131 5 = -1
theorem FYl.s {I J : Nat → Nat → Int32} (f : FYl I J) (h : STR I) : STR J := h.of fun k hk => f.1 k (by simp only [List.mem_cons, List.not_mem_nil, or_false]; omega) (by omega)
theorem FYl.x {I J : Nat → Nat → Int32} {tp : Nat → Nat} (f : FYl I J) (h : TXc tp I) : TXc tp J := fun j hj => by rw [f.1 129 (by decide) (by decide)]; exact h j hj
theorem CX.a {tp : Nat → Nat} {tl : Nat} {I J : Nat → Nat → Int32} {p e br q : Nat} {st l : List Int32} (h : CX tp tl I p e br st l) (f : FR 131 [] [2, 3, 4] I J) (t : TK tp tl 131 J q) : CX tp tl J q e br st l := by
  obtain ⟨h1, h2, h3, h4, h5, h6, h7, h8, h9⟩ := h
  refine ⟨t, (FYl.a f).x h2, (FYl.a f).s h3, ⟨?_, fun i hi => ?_⟩, ?_, h6.of (fun i _ => by rw [f.1 132 List.not_mem_nil (by decide)]), ?_, ?_, ?_⟩
  · rw [f.1 27 List.not_mem_nil (by decide)]; exact h4.1
  · rw [f.1 28 List.not_mem_nil (by decide)]; exact h4.2 i hi
  · rw [f.2 8 (by decide)]; exact h5
  · rw [f.2 9 (by decide)]; exact h7
  · rw [f.2 10 (by decide)]; exact h8
  · rw [f.2 5 (by decide)]; exact h9
theorem C_add {d Ln c s : Nat} {I : Nat → Nat → Int32} {L : Nat → Nat → Int64} {K : (Nat → Nat → Int32) → (Nat → Nat → Int64) → Prop} {tp : Nat → Nat} {tl p e br : Nat} {st l : List Int32} {x : Int32} (hd : 28 ≤ d) (h : CX tp tl I p e br st l) (hl : l.length < 400) (kk : ∀ I', CX tp tl I' p e br st (l ++ [x]) → FYl I I' → K I' L) : dd_Ev d m_X2_add [.ref 27, .int x] (sM Ln I L c s) (dd_RV Ln c s K) := by
  obtain ⟨h1, h2, h3, h4, h5, h6, h7, h8, h9⟩ := h
  refine w_X2_add_0 hd ?_
  have t : tn (nI l.length) = l.length := nI_clamp (by omega)
  rw [h4.1, li_400, nI_leI (by omega) (by omega), t, nI_1]
  refine ⟨fun z => absurd z (by omega), fun _ => ⟨⟨nI_pos' (by omega), hl⟩, dd_qV ?_⟩⟩
  have fy : FYl I (dd_u (dd_u I 28 (upd (I 28) l.length x)) 27 (upd (I 27) 1 (nI (l.length + 1)))) := ((FR.refl I).u (by decide) (by decide)).u (by decide) (by decide)
  have f131 : dd_u (dd_u I 28 (upd (I 28) l.length x)) 27 (upd (I 27) 1 (nI (l.length + 1))) 131 = I 131 := by rw [dd_un (by decide), dd_un (by decide)]
  refine kk _ ⟨h1.of f131, fy.x h2, fy.s h3, ⟨?_, fun i hi => ?_⟩, by rw [f131]; exact h5, h6.of (fun i _ => by rw [dd_un (by decide), dd_un (by decide)]), by rw [f131]; exact h7, by rw [f131]; exact h8, by rw [f131]; exact h9⟩ fy
  · rw [dd_us, pk_us, List.length_append]; rfl
  · rw [List.length_append] at hi
    have hi : i < l.length + 1 := hi
    rw [dd_un (by decide), dd_us]
    by_cases q : i = l.length
    · subst q; rw [pk_us, getD_app]
    · rw [pk_un q, getD_app' l i (by omega)]; exact h4.2 i (by omega)
theorem C_isTop {d Ln c s : Nat} {I : Nat → Nat → Int32} {L : Nat → Nat → Int64} {K : Int32 → (Nat → Nat → Int32) → (Nat → Nat → Int64) → Prop} {st : List Int32} {x : Int32} (hd : 28 ≤ d) (h8 : I 131 8 = nI st.length) (hs : stk I st) (hl : st.length ≤ 21) (k1 : st.head? = some x → K 1 I L) (k0 : ¬ st.head? = some x → K 0 I L) : dd_Ev d m_X3_isTop [.ref 131, .int x] (sM Ln I L c s) (dd_RI Ln c s K) := by
  refine w_X3_isTop_0 hd ?_
  rw [h8]
  cases st with
  | nil => exact ⟨fun _ => dd_qi (k0 (by simp)), fun z => absurd (by decide) z⟩
  | cons y st =>
    have hl : st.length + 1 ≤ 21 := hl
    have e : nI (y :: st).length - 1 = nI st.length := by
      show nI (st.length + 1) - 1 = _
      rw [li_1, pk_sub (by omega)]; rfl
    have t : tn (nI st.length) = st.length := nI_clamp (by omega)
    rw [e, t, hs.1]
    refine ⟨fun z => ?_, fun _ => ⟨⟨nI_pos' (by omega), by omega⟩, fun z => dd_qi (k1 (by rw [z]; rfl)), fun z => dd_qi (k0 (fun q => z (by injection q)))⟩⟩
    exfalso
    have z : nI (st.length + 1) ≤ 0 := z
    rw [li_0, nI_leI (by omega) (by omega)] at z
    omega
theorem C_putUp {d Ln c s : Nat} {I : Nat → Nat → Int32} {L : Nat → Nat → Int64} {K : (Nat → Nat → Int32) → (Nat → Nat → Int64) → Prop} {tp : Nat → Nat} {tl p e br : Nat} {st l : List Int32} {x : Int32} (hd : 28 ≤ d) (h : CX tp tl I p e br st l) (hs : st.length < 21) (kk : ∀ I', CX tp tl I' p e br (x :: st) l → FYl I I' → K I' L) : dd_Ev d m_X3_putUp [.ref 131, .int x] (sM Ln I L c s) (dd_RV Ln c s K) := by
  obtain ⟨h1, h2, h3, h4, h5, h6, h7, h8, h9⟩ := h
  refine w_X3_putUp_0 hd ?_
  have t : tn (nI st.length) = st.length := nI_clamp (by omega)
  rw [h5, li_21, nI_leI (by omega) (by omega), t, nI_1]
  refine ⟨fun z => absurd z (by omega), fun _ => ⟨⟨nI_pos' (by omega), hs⟩, dd_qV ?_⟩⟩
  have fy : FYl I (dd_u (dd_u I 132 (upd (I 132) st.length x)) 131 (upd (I 131) 8 (nI (st.length + 1)))) := by
    have := ((FR.refl (z := 131) (A := [27, 28, 132]) (B := [2, 3, 4, 5, 8, 9, 10]) I).u (k := 132) (f := upd (I 132) st.length x) (by decide) (by decide)).v (j := 8) (v := nI (st.length + 1)) (by decide)
    rw [dd_un (show (131 : Nat) ≠ 132 by decide)] at this
    exact this
  have g : ∀ j, j ≠ 8 → dd_u (dd_u I 132 (upd (I 132) st.length x)) 131 (upd (I 131) 8 (nI (st.length + 1))) 131 j = I 131 j := fun j hj => by rw [dd_us, pk_un hj]
  refine kk _ ⟨⟨by rw [g 1 (by decide)]; exact h1.1, by rw [g 2 (by decide)]; exact h1.2.1, by rw [g 3 (by decide)]; exact h1.2.2.1, by rw [g 4 (by decide)]; exact h1.2.2.2⟩, fy.x h2, fy.s h3, ⟨by rw [dd_un (by decide), dd_un (by decide)]; exact h4.1, fun i hi => by rw [dd_un (by decide), dd_un (by decide)]; exact h4.2 i hi⟩, by rw [dd_us, pk_us]; rfl, ⟨by rw [dd_un (by decide), dd_us, pk_us], h6.of (fun i hi => by rw [dd_un (by decide), dd_us, pk_un (by omega)])⟩, by rw [g 9 (by decide)]; exact h7, by rw [g 10 (by decide)]; exact h8, by rw [g 5 (by decide)]; exact h9⟩ fy
/-- the top taken off -/
theorem CX.pop {tp : Nat → Nat} {tl : Nat} {I : Nat → Nat → Int32} {p e br : Nat} {st l : List Int32} {x : Int32} (h : CX tp tl I p e br (x :: st) l) (hl : st.length < 21) : CX tp tl (dd_u I 131 (upd (I 131) 8 (I 131 8 - 1))) p e br st l ∧ FYl I (dd_u I 131 (upd (I 131) 8 (I 131 8 - 1))) := by
  obtain ⟨h1, h2, h3, h4, h5, h6, h7, h8, h9⟩ := h
  have ev : I 131 8 - 1 = nI st.length := by
    rw [h5]
    show nI (st.length + 1) - 1 = _
    rw [li_1, pk_sub (by omega)]; rfl
  have fy : FYl I (dd_u I 131 (upd (I 131) 8 (I 131 8 - 1))) := (FR.refl I).v (by decide)
  have g : ∀ j, j ≠ 8 → dd_u I 131 (upd (I 131) 8 (I 131 8 - 1)) 131 j = I 131 j := fun j hj => by rw [dd_us, pk_un hj]
  refine ⟨⟨⟨by rw [g 1 (by decide)]; exact h1.1, by rw [g 2 (by decide)]; exact h1.2.1, by rw [g 3 (by decide)]; exact h1.2.2.1, by rw [g 4 (by decide)]; exact h1.2.2.2⟩, fy.x h2, fy.s h3, ⟨by rw [dd_un (by decide)]; exact h4.1, fun i hi => by rw [dd_un (by decide)]; exact h4.2 i hi⟩, by rw [dd_us, pk_us]; exact ev, h6.2.of (fun i hi => by rw [dd_un (by decide)]), by rw [g 9 (by decide)]; exact h7, by rw [g 10 (by decide)]; exact h8, by rw [g 5 (by decide)]; exact h9⟩, fy⟩
/-- deep, brackets set anew -/
theorem CX.deep {tp : Nat → Nat} {tl : Nat} {I : Nat → Nat → Int32} {p e br e' : Nat} {st l : List Int32} (h : CX tp tl I p e br st l) : CX tp tl (dd_u I 131 (upd (I 131) 9 (nI e'))) p e' br st l ∧ FYl I (dd_u I 131 (upd (I 131) 9 (nI e'))) := by
  obtain ⟨h1, h2, h3, h4, h5, h6, h7, h8, h9⟩ := h
  have fy : FYl I (dd_u I 131 (upd (I 131) 9 (nI e'))) := (FR.refl I).v (by decide)
  have g : ∀ j, j ≠ 9 → dd_u I 131 (upd (I 131) 9 (nI e')) 131 j = I 131 j := fun j hj => by rw [dd_us, pk_un hj]
  exact ⟨⟨⟨by rw [g 1 (by decide)]; exact h1.1, by rw [g 2 (by decide)]; exact h1.2.1, by rw [g 3 (by decide)]; exact h1.2.2.1, by rw [g 4 (by decide)]; exact h1.2.2.2⟩, fy.x h2, fy.s h3, ⟨by rw [dd_un (by decide)]; exact h4.1, fun i hi => by rw [dd_un (by decide)]; exact h4.2 i hi⟩, by rw [g 8 (by decide)]; exact h5, h6.of (fun i hi => by rw [dd_un (by decide)]), by rw [dd_us, pk_us], by rw [g 10 (by decide)]; exact h8, by rw [g 5 (by decide)]; exact h9⟩, fy⟩
theorem CX.brk {tp : Nat → Nat} {tl : Nat} {I : Nat → Nat → Int32} {p e br br' : Nat} {st l : List Int32} (h : CX tp tl I p e br st l) : CX tp tl (dd_u I 131 (upd (I 131) 10 (nI br'))) p e br' st l ∧ FYl I (dd_u I 131 (upd (I 131) 10 (nI br'))) := by
  obtain ⟨h1, h2, h3, h4, h5, h6, h7, h8, h9⟩ := h
  have fy : FYl I (dd_u I 131 (upd (I 131) 10 (nI br'))) := (FR.refl I).v (by decide)
  have g : ∀ j, j ≠ 10 → dd_u I 131 (upd (I 131) 10 (nI br')) 131 j = I 131 j := fun j hj => by rw [dd_us, pk_un hj]
  exact ⟨⟨⟨by rw [g 1 (by decide)]; exact h1.1, by rw [g 2 (by decide)]; exact h1.2.1, by rw [g 3 (by decide)]; exact h1.2.2.1, by rw [g 4 (by decide)]; exact h1.2.2.2⟩, fy.x h2, fy.s h3, ⟨by rw [dd_un (by decide)]; exact h4.1, fun i hi => by rw [dd_un (by decide)]; exact h4.2 i hi⟩, by rw [g 8 (by decide)]; exact h5, h6.of (fun i hi => by rw [dd_un (by decide)]), by rw [g 9 (by decide)]; exact h7, by rw [dd_us, pk_us], by rw [g 5 (by decide)]; exact h9⟩, fy⟩
theorem CX.zero {tp : Nat → Nat} {tl : Nat} {I : Nat → Nat → Int32} {p e br : Nat} {x : Int32} {st l : List Int32} (h : CX tp tl I p e br (x :: st) l) (hl : st.length < 21) : ¬ I 131 8 ≤ 0 ∧ (0 ≤ I 131 8 - 1 ∧ tn (I 131 8 - 1) < 21) ∧ I 132 (tn (I 131 8 - 1)) = x := by
  have h5 := h.2.2.2.2.1
  have ev : I 131 8 - 1 = nI st.length := by
    rw [h5]
    show nI (st.length + 1) - 1 = _
    rw [li_1, pk_sub (by omega)]; rfl
  have t : tn (nI st.length) = st.length := nI_clamp (by omega)
  rw [ev, t]
  refine ⟨fun z => ?_, ⟨nI_pos' (by omega), hl⟩, h.2.2.2.2.2.1.1⟩
  rw [h5] at z
  have z : nI (st.length + 1) ≤ 0 := z
  rw [li_0, nI_leI (by omega) (by omega)] at z
  omega
/-- joins on top go out -/
theorem C_addJoins {K : (Nat → Nat → Int32) → (Nat → Nat → Int64) → Prop} {d Ln c s : Nat} {L : Nat → Nat → Int64} {tp : Nat → Nat} {tl p e br : Nat} {a1 : Int32} {S : List Int32} (hd : 30 ≤ d) (hS : S.length ≤ 21) (ha : a1 = -5 ∨ a1 = -6) (h5 : ¬ S.head? = some (-5)) (h6 : a1 = -6 → ¬ S.head? = some (-6)) : ∀ (js l : List Int32) (I : Nat → Nat → Int32), (∀ x, x ∈ js → x = -5 ∨ (a1 = -6 ∧ x = -6)) → js.length + S.length ≤ 21 → l.length + js.length ≤ 400 → CX tp tl I p e br (js ++ S) l → (∀ I', CX tp tl I' p e br S (l ++ js) → FYl I I' → K I' L) → dd_Rn d m_X3_addJoins (0, [.ref 131, .int a1], [], sM Ln I L c s) (dd_RV Ln c s K) := by
  intro js
  induction js with
  | nil =>
    intro l I hj hs hl h kk
    rw [List.append_nil] at kk
    have done : dd_RV Ln c s K (none, .null, sM Ln I L c s) := dd_qV (kk I h (FYl.refl I))
    refine w_X3_addJoins_h (by omega) ⟨fun _ => done, fun _ => ?_⟩
    refine C_isTop (st := S) (by omega) h.2.2.2.2.1 h.2.2.2.2.2.1 (by omega) (fun z => absurd z h5) (fun _ => ⟨fun _ => ⟨fun z6 => ?_, fun _ => done⟩, fun z => absurd rfl z⟩)
    exact C_isTop (st := S) (by omega) h.2.2.2.2.1 h.2.2.2.2.2.1 (by omega) (fun z => absurd z (h6 z6)) (fun _ => ⟨fun _ => done, fun z => absurd rfl z⟩)
  | cons x js ih =>
    intro l I hj hs hl h kk
    have hs : js.length + 1 + S.length ≤ 21 := hs
    have hl : l.length + (js.length + 1) ≤ 400 := hl
    have lj : (js ++ S).length = js.length + S.length := List.length_append
    have h : CX tp tl I p e br (x :: (js ++ S)) l := h
    have z := h.zero (by omega)
    have pp := h.pop (by omega)
    have nxt : dd_Ev (d - 1) m_X2_add [.ref 27, .int x] (sM Ln (dd_u I 131 (upd (I 131) 8 (I 131 8 - 1))) L c s) (dd_RV Ln c s (fun I4 L4 => dd_Rn d m_X3_addJoins (0, [.ref 131, .int a1], [], sM Ln I4 L4 c s) (dd_RV Ln c s K))) := by
      refine C_add (by omega) pp.1 (by omega) fun I2 c2 f2 => ?_
      refine ih (l ++ [x]) I2 (fun y hy => hj y (List.mem_cons_of_mem _ hy)) (by omega) (by rw [List.length_append]; show l.length + 1 + js.length ≤ 400; omega) c2 fun I3 c3 f3 => ?_
      rw [List.append_assoc] at c3
      exact kk I3 c3 (pp.2.trans (f2.trans f3))
    refine w_X3_addJoins_h (by omega) ⟨fun u => absurd u z.1, fun _ => ?_⟩
    have len : (x :: (js ++ S)).length ≤ 21 := by show (js ++ S).length + 1 ≤ 21; omega
    refine C_isTop (st := x :: (js ++ S)) (by omega) h.2.2.2.2.1 h.2.2.2.2.2.1 len (fun e5 => ?_) (fun e5 => ⟨fun _ => ?_, fun u => absurd rfl u⟩)
    · refine ⟨fun u => absurd u (by decide), fun _ => ⟨z.2.1, ?_⟩⟩
      rw [z.2.2]; exact nxt
    · have hx := hj x (List.mem_cons_self)
      have x6 : a1 = -6 ∧ x = -6 := by
        rcases hx with u | u
        · exact absurd (by rw [u]; rfl) e5
        · exact u
      refine ⟨fun _ => ?_, fun u => absurd x6.1 u⟩
      refine C_isTop (st := x :: (js ++ S)) (by omega) h.2.2.2.2.1 h.2.2.2.2.2.1 len (fun e6 => ⟨fun u => absurd u (by decide), fun _ => ⟨z.2.1, ?_⟩⟩) (fun e6 => absurd (by rw [x6.2]; rfl) e6)
      rw [z.2.2]; exact nxt
def nots (k : Nat) : List Int32 := List.replicate k (-4)
theorem nots_l (k : Nat) : (nots k).length = k := List.length_replicate
theorem nots_s (k : Nat) : nots (k + 1) = -4 :: nots k := rfl
theorem C_addNots {K : (Nat → Nat → Int32) → (Nat → Nat → Int64) → Prop} {d Ln c s : Nat} {L : Nat → Nat → Int64} {tp : Nat → Nat} {tl p br : Nat} {S : List Int32} (hd : 30 ≤ d) (h4 : ¬ S.head? = some (-4)) : ∀ (k e : Nat) (l : List Int32) (I : Nat → Nat → Int32), k ≤ e → e ≤ 100 → k + S.length ≤ 21 → l.length + k ≤ 400 → CX tp tl I p e br (nots k ++ S) l → (∀ I', CX tp tl I' p (e - k) br S (l ++ nots k) → FYl I I' → K I' L) → dd_Rn d m_X3_addNots (0, [.ref 131], [], sM Ln I L c s) (dd_RV Ln c s K) := by
  intro k
  induction k with
  | zero =>
    intro e l I hk he hs hl h kk
    have e0 : l ++ nots 0 = l := List.append_nil l
    rw [e0] at kk
    have done : dd_RV Ln c s K (none, .null, sM Ln I L c s) := dd_qV (kk I h (FYl.refl I))
    refine w_X3_addNots_h (by omega) ⟨fun _ => done, fun _ => ?_⟩
    exact C_isTop (st := S) (by omega) h.2.2.2.2.1 h.2.2.2.2.2.1 (by omega) (fun z => absurd z h4) (fun _ => ⟨fun _ => done, fun z => absurd rfl z⟩)
  | succ k ih =>
    intro e l I hk he hs hl h kk
    have lj : (nots k ++ S).length = k + S.length := by rw [List.length_append, nots_l]
    have h : CX tp tl I p e br (-4 :: (nots k ++ S)) l := h
    have z := h.zero (by omega)
    have pp := h.pop (by omega)
    have e9 : I 131 9 - 1 = nI (e - 1) := by rw [h.2.2.2.2.2.2.1, li_1, pk_sub (by omega)]
    have pd := pp.1.deep (e' := e - 1)
    refine w_X3_addNots_h (by omega) ⟨fun u => absurd u z.1, fun _ => ?_⟩
    have len : ((-4 : Int32) :: (nots k ++ S)).length ≤ 21 := by show (nots k ++ S).length + 1 ≤ 21; omega
    refine C_isTop (st := -4 :: (nots k ++ S)) (by omega) h.2.2.2.2.1 h.2.2.2.2.2.1 len (fun e5 => ⟨fun u => absurd u (by decide), fun _ => ?_⟩) (fun e5 => absurd rfl e5)
    rw [e9]
    have eM : dd_u (dd_u I 131 (upd (I 131) 8 (I 131 8 - 1))) 131 (upd (upd (I 131) 8 (I 131 8 - 1)) 9 (nI (e - 1))) = dd_u (dd_u I 131 (upd (I 131) 8 (I 131 8 - 1))) 131 (upd (dd_u I 131 (upd (I 131) 8 (I 131 8 - 1)) 131) 9 (nI (e - 1))) := by rw [dd_us]
    rw [eM]
    refine C_add (by omega) pd.1 (by omega) fun I2 c2 f2 => ?_
    refine ih (e - 1) (l ++ [-4]) I2 (by omega) (by omega) (by omega) (by rw [List.length_append]; show l.length + 1 + k ≤ 400; omega) c2 fun I3 c3 f3 => ?_
    have el : l ++ [-4] ++ nots k = l ++ nots (k + 1) := by rw [List.append_assoc]; rfl
    rw [el, show e - 1 - k = e - (k + 1) by omega] at c3
    exact kk I3 c3 (pp.2.trans (pd.2.trans (f2.trans f3)))
