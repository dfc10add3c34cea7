/-! The class's reader -/
theorem kd_0 {tp : Nat → Nat} {tl q : Nat} (h : ¬ q < tl) : kd tp tl q = 0 := by unfold kd; rw [if_neg h]
theorem kd_1 {tp : Nat → Nat} {tl q : Nat} (h : q < tl) (h1 : isL tp q = true) : kd tp tl q = 1 := by unfold kd; rw [if_pos h, if_pos h1]
theorem kd_2 {tp : Nat → Nat} {tl q : Nat} (h : q < tl) (h1 : isD tp q = true) : kd tp tl q = 2 := by
  have := isD_iff.mp h1
  unfold kd; rw [if_pos h, if_neg (fun z => by have := isL_iff.mp z; omega), if_pos h1]
theorem kd_3 {tp : Nat → Nat} {tl q : Nat} (h : q < tl) (h1 : ¬ isL tp q = true) (h2 : ¬ isD tp q = true) : kd tp tl q = 3 := by unfold kd; rw [if_pos h, if_neg h1, if_neg h2]
theorem kd_c (tp : Nat → Nat) (tl q : Nat) : (¬ q < tl ∧ kd tp tl q = 0) ∨ (q < tl ∧ isL tp q = true ∧ kd tp tl q = 1) ∨ (q < tl ∧ isD tp q = true ∧ kd tp tl q = 2) ∨ (q < tl ∧ ¬ isL tp q = true ∧ ¬ isD tp q = true ∧ kd tp tl q = 3) := by
  by_cases h : q < tl
  · by_cases h1 : isL tp q = true
    · exact Or.inr (Or.inl ⟨h, h1, kd_1 h h1⟩)
    · by_cases h2 : isD tp q = true
      · exact Or.inr (Or.inr (Or.inl ⟨h, h2, kd_2 h h2⟩))
      · exact Or.inr (Or.inr (Or.inr ⟨h, h1, h2, kd_3 h h1 h2⟩))
  · exact Or.inl ⟨h, kd_0 h⟩
theorem kd_lt (tp : Nat → Nat) (tl q : Nat) : kd tp tl q < 4 := by rcases kd_c tp tl q with ⟨_, e⟩ | ⟨_, _, e⟩ | ⟨_, _, e⟩ | ⟨_, _, _, e⟩ <;> omega
theorem ek_le (tp : Nat → Nat) (tl b : Nat) : b ≤ ek tp tl b := by
  unfold ek le de
  have h1 := rn_le (p := isL tp) (tl := tl) b
  have h2 := rn_le (p := isD tp) (tl := tl) b
  split
  · omega
  · split
    · exact h1
    · split
      · exact h2
      · omega
theorem ek_tl (tp : Nat → Nat) (tl b : Nat) (h : b ≤ tl) : ek tp tl b ≤ tl := by
  have h1 := rn_tl (p := isL tp) (tl := tl) b h
  have h2 := rn_tl (p := isD tp) (tl := tl) b h
  unfold ek
  rcases kd_c tp tl b with ⟨z, e⟩ | ⟨z, _, e⟩ | ⟨z, _, e⟩ | ⟨z, _, _, e⟩ <;> rw [e]
  · exact h
  · exact h1
  · exact h2
  · exact z
theorem sk_tl {tp : Nat → Nat} {tl p : Nat} (h : p ≤ tl) : sk tp tl p ≤ tl := rn_tl p h
theorem sk_le {tp : Nat → Nat} {tl p : Nat} : p ≤ sk tp tl p := rn_le p
/-- the text, as the class has it -/
abbrev TXc (tp : Nat → Nat) (I : Nat → Nat → Int32) : Prop := ∀ j, j < 400 → I 129 j = nI (tp j)
/-- the class's reader k has read what stands at p -/
def TK (tp : Nat → Nat) (tl k : Nat) (I : Nat → Nat → Int32) (p : Nat) : Prop := I k 1 = nI tl ∧ I k 2 = nI (kd tp tl (sk tp tl p)) ∧ I k 3 = nI (sk tp tl p) ∧ I k 4 = nI (ek tp tl (sk tp tl p))
theorem TK.of {tp : Nat → Nat} {tl k : Nat} {I I' : Nat → Nat → Int32} {p : Nat} (h : TK tp tl k I p) (e : I' k = I k) : TK tp tl k I' p := by unfold TK; rw [e]; exact h
theorem C_kindAt {d Ln c s : Nat} {I : Nat → Nat → Int32} {L : Nat → Nat → Int64} {K : Int32 → (Nat → Nat → Int32) → (Nat → Nat → Int64) → Prop} {tp : Nat → Nat} {tl k q : Nat} (hd : 28 ≤ d) (hk : k = 130 ∨ k = 131) (hl : tl ≤ 400) (hq : q ≤ 400) (h1 : I k 1 = nI tl) (hx : TXc tp I) (h6 : ∀ j, tp j < 256) (kk : K (nI (kd tp tl q)) I L) : dd_Ev d m_X4_kindAt [.ref k, .int (nI q)] (sM Ln I L c s) (dd_RI Ln c s K) := by
  refine w_X4_kindAt_0 hd hk ?_
  have tq : tn (nI q) = q := nI_clamp (by omega)
  have b6 := h6 q
  have ck : q < tl → (0 ≤ nI q ∧ tn (nI q) < 400) := fun z => ⟨nI_pos' (by omega), by rw [tq]; omega⟩
  rw [h1, nI_ltI (by omega) (by omega)]
  have nL : tp q < 97 ∨ 122 < tp q → ¬ isL tp q = true := fun z y => by have := isL_iff.mp y; omega
  have nD : tp q < 48 ∨ 57 < tp q → ¬ isD tp q = true := fun z y => by have := isD_iff.mp y; omega
  have r3 : q < tl → ¬ isL tp q = true → ¬ isD tp q = true → dd_RI Ln c s K (none, .int 3, sM Ln I L c s) := fun z a b => dd_qI (by rw [kd_3 z a b]; rfl) kk
  have r2 : q < tl → isD tp q = true → dd_RI Ln c s K (none, .int 2, sM Ln I L c s) := fun z a => dd_qI (by rw [kd_2 z a]; rfl) kk
  have r1 : q < tl → isL tp q = true → dd_RI Ln c s K (none, .int 1, sM Ln I L c s) := fun z a => dd_qI (by rw [kd_1 z a]; rfl) kk
  refine ⟨fun z => ?_, fun z => dd_qI (by rw [kd_0 z]; rfl) kk⟩
  have k2 := ck z
  rw [tq, hx q (by omega), li_97, li_48, li_57, li_122, nI_ltI (by omega) (by omega), nI_ltI (by omega) (by omega), nI_ltI (by omega) (by omega), nI_ltI (by omega) (by omega)]
  rw [tq] at k2
  have dig : ¬ isL tp q = true → (0 ≤ nI q ∧ q < 400) ∧ (tp q < 48 → dd_RI Ln c s K (none, .int 3, sM Ln I L c s)) ∧ (¬ tp q < 48 → (0 ≤ nI q ∧ q < 400) ∧ (57 < tp q → dd_RI Ln c s K (none, .int 3, sM Ln I L c s)) ∧ (¬ 57 < tp q → dd_RI Ln c s K (none, .int 2, sM Ln I L c s))) :=
    fun a => ⟨k2, fun y => r3 z a (nD (by omega)), fun y => ⟨k2, fun x => r3 z a (nD (by omega)), fun x => r2 z (isD_iff.mpr (by omega))⟩⟩
  exact ⟨k2, fun y => dig (nL (by omega)), fun y => ⟨k2, fun x => dig (nL (by omega)), fun x => r1 z (isL_iff.mpr (by omega))⟩⟩
/-- on through a run of one kind -/
theorem C_goOn {d Ln c s : Nat} {I : Nat → Nat → Int32} {L : Nat → Nat → Int64} {K : (Nat → Nat → Int32) → (Nat → Nat → Int64) → Prop} {tp : Nat → Nat} {tl k κ : Nat} {p : Nat → Bool} {b : Nat} (hd : 29 ≤ d) (hk : k = 130 ∨ k = 131) (hl : tl ≤ 400) (hx : TXc tp I) (h6 : ∀ j, tp j < 256) (hκ : κ < 4) (hp : ∀ q, q < tl → (kd tp tl q = κ ↔ p q = true)) (kk : ∀ f, f 1 = nI tl → f 2 = nI κ → f 3 = nI b → f 4 = nI (rn p tl b) → (∀ j, j ≠ 2 → j ≠ 3 → j ≠ 4 → f j = I k j) → K (dd_u I k f) L) : ∀ q, rn p tl q = rn p tl b → q ≤ tl → ∀ f, f 1 = nI tl → f 2 = nI κ → f 3 = nI b → f 4 = nI q → (∀ j, j ≠ 2 → j ≠ 3 → j ≠ 4 → f j = I k j) → dd_Rn d m_X4_advance (101, [.ref k, .int 1], [], sM Ln (dd_u I k f) L c s) (dd_RV Ln c s K) := by
  have k9 : (129 : Nat) ≠ k := by omega
  refine rn_ind (p := p) (tl := tl) _ ?_ ?_
  · intro q hz e eb hq f f1 f2 f3 f4 fo
    refine w_X4_advance_101 (by omega) hk ?_
    simp only [dd_us]
    rw [f1, f4, nI_leI (by omega) (by omega)]
    have done : dd_RV Ln c s K (none, .null, sM Ln (dd_u I k f) L c s) := dd_qV (kk f f1 f2 f3 (by rw [f4, ← eb, e]) fo)
    refine ⟨fun z => absurd z (by decide), fun _ => ⟨fun _ => done, fun z => ?_⟩⟩
    refine C_kindAt (tp := tp) (tl := tl) (by omega) hk hl (by omega) (by rw [dd_us]; exact f1) (fun j hj => by rw [dd_un k9]; exact hx j hj) h6 ?_
    simp only [dd_us]
    have := kd_lt tp tl q
    rw [f2, nI_eq (by omega) (by omega)]
    exact ⟨fun y => absurd ⟨by omega, (hp q (by omega)).mp y⟩ hz, fun _ => done⟩
  · intro q hq hpq e ih eb hq' f f1 f2 f3 f4 fo
    refine w_X4_advance_101 (by omega) hk ?_
    simp only [dd_us]
    rw [f1, f4, nI_leI (by omega) (by omega)]
    refine ⟨fun z => absurd z (by decide), fun _ => ⟨fun z => absurd z (by omega), fun z => ?_⟩⟩
    refine C_kindAt (tp := tp) (tl := tl) (by omega) hk hl (by omega) (by rw [dd_us]; exact f1) (fun j hj => by rw [dd_un k9]; exact hx j hj) h6 ?_
    simp only [dd_us, dd_u_u]
    have := kd_lt tp tl q
    rw [f2, nI_eq (by omega) (by omega), f4, nI_1]
    refine ⟨fun y => ih (by rw [← eb, e]) (by omega) _ ?_ ?_ ?_ ?_ ?_, fun y => absurd ((hp q hq).mpr hpq) y⟩
    · rw [pk_un (by decide)]; exact f1
    · rw [pk_un (by decide)]; exact f2
    · rw [pk_un (by decide)]; exact f3
    · rw [pk_us]
    · intro j j2 j3 j4; rw [pk_un j4]; exact fo j j2 j3 j4
theorem C_advance {d Ln c s : Nat} {I : Nat → Nat → Int32} {L : Nat → Nat → Int64} {K : (Nat → Nat → Int32) → (Nat → Nat → Int64) → Prop} {tp : Nat → Nat} {tl k p : Nat} (hd : 30 ≤ d) (hk : k = 130 ∨ k = 131) (hl : tl ≤ 400) (hp : p ≤ tl) (h1 : I k 1 = nI tl) (h4 : I k 4 = nI p) (hx : TXc tp I) (h6 : ∀ j, tp j < 256) (kk : ∀ I', TK tp tl k I' p → FR k [] [2, 3, 4] I I' → K I' L) : dd_Ev d m_X4_advance [.ref k] (sM Ln I L c s) (dd_RV Ln c s K) := by
  have k9 : (129 : Nat) ≠ k := by omega
  refine w_X4_advance_0 (by omega) hk ?_
  rw [h4]
  have fin : ∀ f, f 1 = nI tl → f 2 = nI (kd tp tl (sk tp tl p)) → f 3 = nI (sk tp tl p) → f 4 = nI (ek tp tl (sk tp tl p)) → (∀ j, j ≠ 2 → j ≠ 3 → j ≠ 4 → f j = I k j) → K (dd_u I k f) L := by
    intro f f1 f2 f3 f4 fo
    refine kk _ ⟨by rw [dd_us]; exact f1, by rw [dd_us]; exact f2, by rw [dd_us]; exact f3, by rw [dd_us]; exact f4⟩ ⟨fun i _ z => dd_un z, fun j hj => ?_⟩
    rw [dd_us]
    simp only [List.mem_cons, List.not_mem_nil, or_false, not_or] at hj
    exact fo j hj.1 hj.2.1 hj.2.2
  have key : ∀ q, sk tp tl q = sk tp tl p → q ≤ tl → ∀ f, f 1 = nI tl → f 3 = nI q → (∀ j, j ≠ 2 → j ≠ 3 → j ≠ 4 → f j = I k j) → dd_Rn d m_X4_advance (8, [.ref k, .null], [], sM Ln (dd_u I k f) L c s) (dd_RV Ln c s K) := by
    refine rn_ind (p := isB tp) (tl := tl) _ ?_ ?_
    · intro b hz e eb hq f f1 f3 fo
      have eb' : sk tp tl p = b := by rw [← eb]; exact e
      rw [eb'] at fin
      refine w_X4_advance_8 (by omega) hk ?_
      simp only [dd_us]
      have tq : tn (nI b) = b := nI_clamp (by omega)
      rw [f1, f3, nI_leI (by omega) (by omega), tq]
      have nz : ∀ z : b < tl, ¬ dd_u I k f 129 b = 32 := fun z y => hz ⟨z, isB_iff.mpr (by
        have b6 := h6 b
        rw [dd_un k9, hx b (by omega), li_32, nI_eq (by omega) (by omega)] at y
        exact y)⟩
      refine ⟨fun z => ?_, fun z => ⟨⟨nI_pos' (by omega), by omega⟩, fun y => absurd y (nz (by omega)), fun y => ?_⟩⟩
      all_goals
        refine C_kindAt (tp := tp) (tl := tl) (by omega) hk hl (by omega) (by rw [dd_us]; exact f1) (fun j hj => by rw [dd_un k9]; exact hx j hj) h6 ?_
        simp only [dd_us, dd_u_u]
        rw [f3]
        rcases kd_c tp tl b with ⟨y0, e0⟩ | ⟨y0, y1, e0⟩ | ⟨y0, y1, e0⟩ | ⟨y0, y1, y2, e0⟩
        · have eE : ek tp tl b = b := by unfold ek; rw [e0]; rfl
          rw [e0, eE] at fin
          rw [e0]
          refine ⟨fun _ => ⟨fun u => absurd u (by decide), fun _ => ⟨fun u => absurd u (by decide), fun _ => ?_⟩⟩, fun u => absurd rfl u⟩
          refine w_X4_advance_101 (by omega) hk ⟨fun _ => dd_qV (fin _ ?_ ?_ ?_ ?_ ?_), fun u => absurd rfl u⟩
          · rw [pk_un (by decide), pk_un (by decide)]; exact f1
          · rw [pk_un (by decide), pk_us]
          · rw [pk_un (by decide), pk_un (by decide)]; exact f3
          · rw [pk_us, li_0, nI_add]; rfl
          · intro j j2 j3 j4; rw [pk_un j4, pk_un j2]; exact fo j j2 j3 j4
        · have eE : ek tp tl b = rn (isL tp) tl b := by unfold ek; rw [e0]; rfl
          rw [e0, eE] at fin
          rw [e0]
          refine ⟨fun u => absurd u (by decide), fun _ => ⟨fun _ => ?_, fun u => absurd rfl u⟩⟩
          refine C_goOn (tp := tp) (tl := tl) (κ := 1) (p := isL tp) (b := b) (by omega) hk hl hx h6 (by omega) ?_ fin (b + 1) (rn_y y0 y1).symm (by omega) _ ?_ ?_ ?_ ?_ ?_
          · intro q hq
            rcases kd_c tp tl q with ⟨x0, e1⟩ | ⟨x0, x1, e1⟩ | ⟨x0, x1, e1⟩ | ⟨x0, x1, x2, e1⟩
            · exact absurd hq x0
            · exact ⟨fun _ => x1, fun _ => e1⟩
            · exact ⟨fun u => by omega, fun u => by have := kd_1 x0 u; omega⟩
            · exact ⟨fun u => by omega, fun u => absurd u x1⟩
          · rw [pk_un (by decide), pk_un (by decide)]; exact f1
          · rw [pk_un (by decide), pk_us]
          · rw [pk_un (by decide), pk_un (by decide)]; exact f3
          · rw [pk_us, nI_1]
          · intro j j2 j3 j4; rw [pk_un j4, pk_un j2]; exact fo j j2 j3 j4
        · have eE : ek tp tl b = rn (isD tp) tl b := by unfold ek; rw [e0]; rfl
          rw [e0, eE] at fin
          rw [e0]
          refine ⟨fun u => absurd u (by decide), fun _ => ⟨fun u => absurd u (by decide), fun _ => ⟨fun _ => ?_, fun u => absurd rfl u⟩⟩⟩
          refine C_goOn (tp := tp) (tl := tl) (κ := 2) (p := isD tp) (b := b) (by omega) hk hl hx h6 (by omega) ?_ fin (b + 1) (rn_y y0 y1).symm (by omega) _ ?_ ?_ ?_ ?_ ?_
          · intro q hq
            rcases kd_c tp tl q with ⟨x0, e1⟩ | ⟨x0, x1, e1⟩ | ⟨x0, x1, e1⟩ | ⟨x0, x1, x2, e1⟩
            · exact absurd hq x0
            · exact ⟨fun u => by omega, fun u => by have := kd_2 x0 u; omega⟩
            · exact ⟨fun _ => x1, fun _ => e1⟩
            · exact ⟨fun u => by omega, fun u => absurd u x2⟩
          · rw [pk_un (by decide), pk_un (by decide)]; exact f1
          · rw [pk_un (by decide), pk_us]
          · rw [pk_un (by decide), pk_un (by decide)]; exact f3
          · rw [pk_us, nI_1]
          · intro j j2 j3 j4; rw [pk_un j4, pk_un j2]; exact fo j j2 j3 j4
        · have eE : ek tp tl b = b + 1 := by unfold ek; rw [e0]; rfl
          rw [e0, eE] at fin
          rw [e0]
          refine ⟨fun u => absurd u (by decide), fun _ => ⟨fun u => absurd u (by decide), fun _ => ⟨fun u => absurd u (by decide), fun _ => ?_⟩⟩⟩
          refine w_X4_advance_101 (by omega) hk ⟨fun _ => dd_qV (fin _ ?_ ?_ ?_ ?_ ?_), fun u => absurd rfl u⟩
          · rw [pk_un (by decide), pk_un (by decide)]; exact f1
          · rw [pk_un (by decide), pk_us]
          · rw [pk_un (by decide), pk_un (by decide)]; exact f3
          · rw [pk_us, nI_1]
          · intro j j2 j3 j4; rw [pk_un j4, pk_un j2]; exact fo j j2 j3 j4
    · intro q hq hpq e ih eb hq' f f1 f3 fo
      refine w_X4_advance_8 (by omega) hk ?_
      simp only [dd_us]
      have tq : tn (nI q) = q := nI_clamp (by omega)
      have e32 : dd_u I k f 129 q = 32 := by rw [dd_un k9, hx q (by omega), isB_iff.mp hpq]; rfl
      rw [f1, f3, nI_leI (by omega) (by omega), tq, e32]
      refine ⟨fun z => absurd z (by omega), fun _ => ⟨⟨nI_pos' (by omega), by omega⟩, fun _ => ?_, fun z => absurd rfl z⟩⟩
      rw [dd_u_u, nI_1]
      refine ih (by rw [← eb]; exact e.symm) (by omega) _ ?_ ?_ ?_
      · rw [pk_un (by decide)]; exact f1
      · rw [pk_us]
      · intro j j2 j3 j4; rw [pk_un j3]; exact fo j j2 j3 j4
  exact key p rfl hp _ (by rw [pk_un (by decide)]; exact h1) (by rw [pk_us]) (fun j j2 j3 j4 => pk_un j3)
theorem C_refuse {d Ln c s : Nat} {I : Nat → Nat → Int32} {L : Nat → Nat → Int64} {K : Int32 → (Nat → Nat → Int32) → (Nat → Nat → Int64) → Prop} {k f : Nat} (hd : 28 ≤ d) (hk : k = 130 ∨ k = 131) (h3 : I k 3 = nI f) (kk : ∀ I', I' k 5 = nI f → FR k [] [2, 3, 4, 5] I I' → (∀ j, j ≠ 5 → I' k j = I k j) → K 0 I' L) : dd_Ev d m_X4_refuse [.ref k] (sM Ln I L c s) (dd_RI Ln c s K) := by
  refine w_X4_refuse_0 hd hk (dd_qi (kk _ (by rw [dd_us, pk_us]; exact h3) ((FR.refl I).v (by decide)) (fun j hj => by rw [dd_us, pk_un hj])))
/-- whether the word w stands at b -/
def isW (tp : Nat → Nat) (tl b w : Nat) : Bool := decide (le tp tl b - b = (wdL w).length) && allN (fun j => decide (nI (tp (b + j)) = (wdL w).getD j 0)) (wdL w).length
theorem isW_c {tp : Nat → Nat} {tl b w w' : Nat} (h : wdL w = wdL w') : isW tp tl b w = isW tp tl b w' := by unfold isW; rw [h]
theorem wdL_1 : ∀ w, w < 71 → 1 ≤ (wdL w).length := by decide +kernel
/-- a word stands there: what comes behind -/
theorem isW_k {tp : Nat → Nat} {tl b w : Nat} (hw : w < 71) (h : isW tp tl b w = true) : kd tp tl b = 1 ∧ ek tp tl b = le tp tl b := by
  unfold isW at h
  rw [Bool.and_eq_true, decide_eq_true_eq] at h
  have := wdL_1 w hw
  have k1 : kd tp tl b = 1 := by
    by_cases z : b < tl ∧ isL tp b = true
    · exact kd_1 z.1 z.2
    · have : le tp tl b = b := rn_n z
      omega
  refine ⟨k1, ?_⟩
  unfold ek
  rw [k1]
  rfl
theorem C_isWord {d Ln c s : Nat} {I : Nat → Nat → Int32} {L : Nat → Nat → Int64} {K : Int32 → (Nat → Nat → Int32) → (Nat → Nat → Int64) → Prop} {tp : Nat → Nat} {tl k p w : Nat} (hd : 29 ≤ d) (hk : k = 130 ∨ k = 131) (hw : w < 71) (hS : STR I) (hl : tl ≤ 400) (hp : p ≤ tl) (ht : TK tp tl k I p) (hx : TXc tp I) (h6 : ∀ j, tp j < 256) (kk : K (bI (isW tp tl (sk tp tl p) w)) I L) : dd_Ev d m_X4_isWord [.ref k, .ref (1000000 + w)] (sM Ln I L c s) (dd_RI Ln c s K) := by
  obtain ⟨t1, t2, t3, t4⟩ := ht
  have hb := sk_tl (tp := tp) hp
  generalize sk tp tl p = b at *
  have l1 := wdL_1 w hw
  have l100 := wdL_l w hw
  have eL := wdL_len w hw
  have hlt := rn_tl (p := isL tp) (tl := tl) b hb
  have hle := rn_le (p := isL tp) (tl := tl) b
  refine w_X4_isWord_0 (by omega) hk hw ?_
  rw [t2, t3, t4]
  have k4 := kd_lt tp tl b
  refine ⟨fun z => ?_, fun z => dd_qI ?_ kk⟩
  · rw [li_1, nI_eq (by omega) (by omega)] at z
    have eE : ek tp tl b = rn (isL tp) tl b := by unfold ek; rw [z]; rfl
    refine J_len (by omega) hw (hS w hw).1 ?_
    rw [eE, pk_sub (by omega), nI_eq (by omega) (by omega)]
    refine ⟨fun y => ?_, fun y => dd_qI ?_ kk⟩
    · have e1 : isW tp tl b w = allN (fun j => decide (nI (tp (b + j)) = (wdL w).getD j 0)) (wdL w).length := by
        unfold isW
        rw [decide_eq_true (by unfold le; omega), Bool.true_and]
      rw [e1] at kk
      have key : allN (fun j => decide (nI (tp (b + j)) = (wdL w).getD j 0)) 0 = true → dd_Rn d m_X4_isWord (28, [.ref k, .ref (1000000 + w), .int (nI 0)], [], sM Ln I L c s) (dd_RI Ln c s K) := by
        refine dd_lp (fun j => allN (fun j => decide (nI (tp (b + j)) = (wdL w).getD j 0)) j = true → dd_Rn d m_X4_isWord (28, [.ref k, .ref (1000000 + w), .int (nI j)], [], sM Ln I L c s) (dd_RI Ln c s K)) (wdL w).length ?_ ?_
        · intro ha
          refine w_X4_isWord_28 (by omega) hk hw ?_
          refine J_len (by omega) hw (hS w hw).1 ?_
          rw [eL, nI_leI (by omega) (by omega)]
          exact ⟨fun _ => dd_qI (by rw [ha]; rfl) kk, fun u => absurd (Nat.le_refl _) u⟩
        · intro j hj ih ha
          refine w_X4_isWord_28 (by omega) hk hw ?_
          refine J_len (by omega) hw (hS w hw).1 ?_
          have tj : tn (nI (b + j)) = b + j := nI_clamp (by omega)
          rw [eL, nI_leI (by omega) (by omega), t3, nI_add, tj]
          refine ⟨fun u => absurd u (by omega), fun _ => ⟨⟨nI_pos' (by omega), by omega⟩, ?_⟩⟩
          refine J_char (by omega) hw (by omega) hS ?_
          rw [hx _ (by omega), nI_1]
          refine ⟨fun u => ih ?_, fun u => dd_qI ?_ kk⟩
          · rw [allN, ha]; exact decide_eq_true u
          · rw [allN_f hj (decide_eq_false u)]; rfl
      exact key rfl
    · unfold isW
      rw [decide_eq_false (by unfold le; omega), Bool.false_and]; rfl
  · have : isW tp tl b w = false := by
      cases q : isW tp tl b w with
      | false => rfl
      | true => exact absurd (by rw [(isW_k hw q).1]; rfl) z
    rw [this]; rfl
def isS (tp : Nat → Nat) (tl b v : Nat) : Bool := decide (b < tl) && decide (tp b = v)
/-- a sign: no letter, no figure -/
abbrev sgn (v : Nat) : Prop := v < 48 ∨ (57 < v ∧ v < 97)
theorem isS_k {tp : Nat → Nat} {tl b v : Nat} (hv : sgn v) (h : isS tp tl b v = true) : kd tp tl b = 3 ∧ ek tp tl b = b + 1 ∧ b < tl := by
  unfold isS at h
  rw [Bool.and_eq_true, decide_eq_true_eq, decide_eq_true_eq] at h
  have k3 : kd tp tl b = 3 := kd_3 h.1 (fun z => by have := isL_iff.mp z; omega) (fun z => by have := isD_iff.mp z; omega)
  exact ⟨k3, by unfold ek; rw [k3]; rfl, h.1⟩
theorem C_isSign {d Ln c s : Nat} {I : Nat → Nat → Int32} {L : Nat → Nat → Int64} {K : Int32 → (Nat → Nat → Int32) → (Nat → Nat → Int64) → Prop} {tp : Nat → Nat} {tl k p v : Nat} (hd : 29 ≤ d) (hk : k = 130 ∨ k = 131) (hv : sgn v) (hl : tl ≤ 400) (hp : p ≤ tl) (ht : TK tp tl k I p) (hx : TXc tp I) (h6 : ∀ j, tp j < 256) (kk : K (bI (isS tp tl (sk tp tl p) v)) I L) : dd_Ev d m_X4_isSign [.ref k, .int (nI v)] (sM Ln I L c s) (dd_RI Ln c s K) := by
  obtain ⟨t1, t2, t3, t4⟩ := ht
  have hb := sk_tl (tp := tp) hp
  generalize sk tp tl p = b at *
  refine w_X4_isSign_0 (by omega) hk ?_
  have k4 := kd_lt tp tl b
  rw [t2, li_3, nI_eq (by omega) (by omega), t3]
  refine ⟨fun z => ?_, fun z => dd_qI ?_ kk⟩
  · have hbt : b < tl := by rcases kd_c tp tl b with ⟨_, e⟩ | ⟨x, _, e⟩ | ⟨x, _, e⟩ | ⟨x, _, _, e⟩ <;> omega
    have tb : tn (nI b) = b := nI_clamp (by omega)
    have b6 := h6 b
    rw [tb, hx b (by omega), nI_eq (by omega) (by omega)]
    refine ⟨⟨nI_pos' (by omega), by omega⟩, fun y => dd_qI ?_ kk, fun y => dd_qI ?_ kk⟩
    · unfold isS; rw [decide_eq_true hbt, decide_eq_true y]; rfl
    · unfold isS; rw [decide_eq_false y, Bool.and_false]; rfl
  · have : isS tp tl b v = false := by
      cases q : isS tp tl b v with
      | false => rfl
      | true => exact absurd (isS_k hv q).1 z
    rw [this]; rfl
