/-! law: what a condition says -/
def tmW (tp : Nat → Nat) (tl b : Nat) : Option Nat :=
  if isW tp tl b 47 = true then some 0 else if isW tp tl b 46 = true then some 1 else if isW tp tl b 50 = true then some 2 else if isW tp tl b 65 = true then some 3
  else if isW tp tl b 66 = true then some 4 else if isW tp tl b 67 = true then some 5 else if isW tp tl b 68 = true then some 6 else if isW tp tl b 56 = true then some 7 else none
theorem tmW_lt {tp : Nat → Nat} {tl b i : Nat} (h : tmW tp tl b = some i) : i < 8 := by
  unfold tmW at h
  repeat' split at h
  all_goals first | (cases h; omega) | cases h
def tmA (tp : Nat → Nat) (tl b : Nat) : Option ((Nat × Nat) × Int32) :=
  if kd tp tl b = 1 then (match tmW tp tl b with | none => none | some i => some ((i, 0), -20 - nI i)) else (match numA tp tl b 1000 with | none => none | some v => some ((10, v), nI v))
/-- codes of the model, codes of the class, the place behind -/
abbrev PR : Type := Nat ⊕ (List (Nat × Nat) × List Int32 × Nat)
def bnd (r : PR) (f : List (Nat × Nat) → List Int32 → Nat → PR) : PR := match r with
  | .inl q => .inl q
  | .inr (m, cc, q) => f m cc q
theorem bnd_l {r : PR} {f : List (Nat × Nat) → List Int32 → Nat → PR} {q : Nat} (h : r = .inl q) : bnd r f = .inl q := by rw [h]; rfl
theorem bnd_r {r : PR} {f : List (Nat × Nat) → List Int32 → Nat → PR} {m : List (Nat × Nat)} {cc : List Int32} {q : Nat} (h : r = .inr (m, cc, q)) : bnd r f = f m cc q := by rw [h]; rfl
theorem bnd_x {r : PR} {f : List (Nat × Nat) → List Int32 → Nat → PR} {x} (h : bnd r f = .inr x) : ∃ m cc q, r = .inr (m, cc, q) ∧ f m cc q = .inr x := by
  cases r with
  | inl q => cases h
  | inr y => obtain ⟨m, cc, q⟩ := y; exact ⟨m, cc, q, rfl, h⟩
/-- a sum, one part of which is read -/
def pS (tp : Nat → Nat) (tl : Nat) : Nat → List (Nat × Nat) → List Int32 → Nat → PR
  | 0, _, _, _ => .inl 0
  | n + 1, m, cc, p => if isS tp tl (sk tp tl p) 43 = true then (match tmA tp tl (sk tp tl (ek tp tl (sk tp tl p))) with
      | none => .inl (sk tp tl (ek tp tl (sk tp tl p)))
      | some (t, x) => pS tp tl n (m ++ [t, (11, 0)]) (cc ++ [x]) (ek tp tl (sk tp tl (ek tp tl (sk tp tl p))))) else .inr (m, cc, p)
def pM (tp : Nat → Nat) (tl p : Nat) : PR := match tmA tp tl (sk tp tl p) with
  | none => .inl (sk tp tl p)
  | some (t, x) => pS tp tl 401 [t] [x] (ek tp tl (sk tp tl p))
/-- what is true or not by itself -/
def pF (tp : Nat → Nat) (tl p : Nat) : PR :=
  if isW tp tl (sk tp tl p) 63 = true then .inr ([(8, 0)], [-2], ek tp tl (sk tp tl p))
  else if isW tp tl (sk tp tl p) 64 = true then .inr ([(9, 0)], [-3], ek tp tl (sk tp tl p))
  else bnd (pM tp tl p) fun m cc q => if isS tp tl (sk tp tl q) 60 = true then bnd (pM tp tl (ek tp tl (sk tp tl q))) (fun m2 c2 q2 => .inr (m ++ m2 ++ [(12, 0)], cc ++ [-7] ++ c2 ++ [-8], q2))
    else if isS tp tl (sk tp tl q) 62 = true then bnd (pM tp tl (ek tp tl (sk tp tl q))) (fun m2 c2 q2 => .inr (m ++ m2 ++ [(13, 0)], cc ++ [-7] ++ c2 ++ [-9], q2))
    else .inl (sk tp tl q)
/-- an atom; the rest of what is joined by and; the rest of what is joined by or -/
def prs (tp : Nat → Nat) (tl : Nat) : Nat → (Nat → Nat → PR) × (Nat → List (Nat × Nat) → List Int32 → Nat → PR) × (Nat → List (Nat × Nat) → List Int32 → Nat → PR)
  | 0 => (fun _ _ => .inl 0, fun _ _ _ _ => .inl 0, fun _ _ _ _ => .inl 0)
  | n + 1 => (fun e p => if isS tp tl (sk tp tl p) 40 = true then (if e = 6 then .inl (sk tp tl p) else bnd ((prs tp tl n).1 (e + 1) (ek tp tl (sk tp tl p))) fun m cc q => bnd ((prs tp tl n).2.1 (e + 1) m cc q) fun m cc q => bnd ((prs tp tl n).2.2 (e + 1) m cc q) fun m cc q => if isS tp tl (sk tp tl q) 41 = true then .inr (m, cc, ek tp tl (sk tp tl q)) else .inl (sk tp tl q))
        else if isW tp tl (sk tp tl p) 62 = true then (if e = 6 then .inl (sk tp tl p) else bnd ((prs tp tl n).1 (e + 1) (ek tp tl (sk tp tl p))) fun m cc q => .inr (m ++ [(14, 0)], cc ++ [-4], q))
        else pF tp tl p,
      fun e m cc p => if isW tp tl (sk tp tl p) 69 = true then bnd ((prs tp tl n).1 e (ek tp tl (sk tp tl p))) fun m2 c2 q => (prs tp tl n).2.1 e (m ++ m2 ++ [(15, 0)]) (cc ++ c2 ++ [-5]) q else .inr (m, cc, p),
      fun e m cc p => if isW tp tl (sk tp tl p) 70 = true then bnd ((prs tp tl n).1 e (ek tp tl (sk tp tl p))) fun m2 c2 q => bnd ((prs tp tl n).2.1 e m2 c2 q) fun m3 c3 q3 => (prs tp tl n).2.2 e (m ++ m3 ++ [(16, 0)]) (cc ++ c3 ++ [-6]) q3 else .inr (m, cc, p))
/-- a whole condition -/
def pC (tp : Nat → Nat) (tl n e p : Nat) : PR := bnd ((prs tp tl n).1 e p) fun m cc q => bnd ((prs tp tl n).2.1 e m cc q) fun m cc q => (prs tp tl n).2.2 e m cc q
/-! its worth: by the model -/
def evT (F : Nat → Nat) (sil fer : Bool) (x : Nat × Nat) (s : Nat × (Nat → Nat)) : Nat × (Nat → Nat) :=
  if x.1 ≤ 10 then (s.1 + 1, upw s.2 s.1 (fv F sil fer x.1 x.2))
  else if x.1 = 14 then (s.1, upw s.2 (s.1 - 1) (1 - s.2 (s.1 - 1)))
  else (s.1 - 1, upw s.2 (s.1 - 2) (opv x.1 (s.2 (s.1 - 2)) (s.2 (s.1 - 1))))
def okU (x : Nat × Nat) (e : Nat × (Nat → Nat)) : Prop := x.1 ≤ 16 ∧ x.2 ≤ 999 ∧ (x.1 ≤ 10 → e.1 < 400) ∧ (x.1 = 14 → 1 ≤ e.1 ∧ e.2 (e.1 - 1) ≤ 1) ∧ (10 < x.1 → ¬ x.1 = 14 → 2 ≤ e.1)
def evF (F : Nat → Nat) (sil fer : Bool) : List (Nat × Nat) → Nat × (Nat → Nat) → Nat × (Nat → Nat)
  | [], s => s
  | x :: m, s => evF F sil fer m (evT F sil fer x s)
def runO (F : Nat → Nat) (sil fer : Bool) : List (Nat × Nat) → Nat × (Nat → Nat) → Prop
  | [], s => okE s
  | x :: m, s => okE s ∧ okU x s ∧ runO F sil fer m (evT F sil fer x s)
theorem evF_app {F : Nat → Nat} {sil fer : Bool} : ∀ (m m2 : List (Nat × Nat)) s, evF F sil fer (m ++ m2) s = evF F sil fer m2 (evF F sil fer m s) := by
  intro m
  induction m with
  | nil => intro m2 s; rfl
  | cons x m ih => intro m2 s; exact ih m2 _
theorem runO_app {F : Nat → Nat} {sil fer : Bool} : ∀ (m m2 : List (Nat × Nat)) s, runO F sil fer m s → runO F sil fer m2 (evF F sil fer m s) → runO F sil fer (m ++ m2) s := by
  intro m
  induction m with
  | nil => intro m2 s _ h; exact h
  | cons x m ih => intro m2 s h h2; exact ⟨h.1, h.2.1, ih m2 _ h.2.2 h2⟩
theorem runO_e {F : Nat → Nat} {sil fer : Bool} : ∀ (m : List (Nat × Nat)) s, runO F sil fer m s → okE (evF F sil fer m s) := by
  intro m
  induction m with
  | nil => intro s h; exact h
  | cons x m ih => intro s h; exact ih _ h.2.2
/-- a row of codes puts x on the stack -/
def BV (F : Nat → Nat) (sil fer : Bool) (m : List (Nat × Nat)) (x : Nat) : Prop := 1 ≤ m.length ∧ x ≤ 999 * m.length ∧ ∀ e, okE e → e.1 + m.length ≤ 400 → runO F sil fer m e ∧ (evF F sil fer m e).1 = e.1 + 1 ∧ (evF F sil fer m e).2 e.1 = x ∧ ∀ j, j < e.1 → (evF F sil fer m e).2 j = e.2 j
theorem BV_leaf {F : Nat → Nat} {sil fer : Bool} {c n : Nat} (hF : ∀ i, i < 8 → F i ≤ 999) (hc : c ≤ 10) (hn : n ≤ 999) : BV F sil fer [(c, n)] (fv F sil fer c n) := by
  have hv : fv F sil fer c n ≤ 999 := by
    unfold fv
    split
    · exact hF c (by omega)
    · split
      · cases sil <;> decide
      · split
        · cases fer <;> decide
        · exact hn
  refine ⟨by simp, by simpa using hv, fun e he hl => ?_⟩
  have hl : e.1 + 1 ≤ 400 := hl
  have et : evF F sil fer [(c, n)] e = (e.1 + 1, upw e.2 e.1 (fv F sil fer c n)) := by
    show evT F sil fer (c, n) e = _
    unfold evT
    rw [if_pos hc]
  have et' : evT F sil fer (c, n) e = (e.1 + 1, upw e.2 e.1 (fv F sil fer c n)) := et
  rw [et]
  refine ⟨⟨he, ⟨by show c ≤ 16; omega, hn, fun _ => by omega, fun z => ?_, fun z => ?_⟩, ?_⟩, rfl, upw_eq, fun j hj => upw_ne (by omega)⟩
  · have : c = 14 := z; omega
  · have : 10 < c := z; omega
  · show okE (evT F sil fer (c, n) e)
    rw [et']
    refine ⟨hl, fun j hj => ?_⟩
    show upw e.2 e.1 (fv F sil fer c n) j ≤ 400000
    by_cases q : j = e.1
    · subst q; rw [upw_eq]; omega
    · rw [upw_ne q]
      have hj : j < e.1 + 1 := hj
      exact he.2 j (by omega)
theorem BV_bin {F : Nat → Nat} {sil fer : Bool} {m m2 : List (Nat × Nat)} {x y c : Nat} (h1 : BV F sil fer m x) (h2 : BV F sil fer m2 y) (hc : 10 < c) (hc2 : c ≤ 16) (h14 : ¬ c = 14) (hx : opv c x y ≤ 999 * (m.length + m2.length + 1)) : BV F sil fer (m ++ m2 ++ [(c, 0)]) (opv c x y) := by
  obtain ⟨a1, a2, a3⟩ := h1
  obtain ⟨b1, b2, b3⟩ := h2
  have el : (m ++ m2 ++ [(c, 0)]).length = m.length + m2.length + 1 := by rw [List.length_append, List.length_append]; rfl
  refine ⟨by omega, by rw [el]; exact hx, fun e he hl => ?_⟩
  rw [el] at hl
  obtain ⟨c1, c2, c3, c4⟩ := a3 e he (by omega)
  obtain ⟨d1, d2, d3, d4⟩ := b3 (evF F sil fer m e) (runO_e m e c1) (by omega)
  have e1 : evF F sil fer (m ++ m2) e = evF F sil fer m2 (evF F sil fer m e) := evF_app m m2 e
  have r1 : runO F sil fer (m ++ m2) e := runO_app m m2 e c1 d1
  rw [evF_app, e1]
  have k2 := runO_e m2 _ d1
  rw [c2] at d2 d3 d4
  generalize evF F sil fer m2 (evF F sil fer m e) = g at *
  have vx : g.2 e.1 = x := by rw [d4 e.1 (by omega), c3]
  have et : evT F sil fer (c, 0) g = (g.1 - 1, upw g.2 (g.1 - 2) (opv c (g.2 (g.1 - 2)) (g.2 (g.1 - 1)))) := by
    unfold evT
    rw [if_neg (by show ¬ c ≤ 10; omega), if_neg h14]
  have g1 : g.1 - 1 = e.1 + 1 := by omega
  have g2 : g.1 - 2 = e.1 := by omega
  rw [g1, g2, vx, d3] at et
  refine ⟨runO_app _ _ e r1 ?_, ?_, ?_, ?_⟩
  · rw [e1]
    refine ⟨k2, ⟨hc2, by show 0 ≤ 999; decide, fun z => ?_, fun z => absurd z h14, fun _ _ => by omega⟩, ?_⟩
    · have : c ≤ 10 := z; omega
    · show okE (evT F sil fer (c, 0) g)
      rw [et]
      refine ⟨by show e.1 + 1 ≤ 400; omega, fun j hj => ?_⟩
      show upw g.2 e.1 (opv c x y) j ≤ 400000
      by_cases q : j = e.1
      · subst q; rw [upw_eq]; omega
      · rw [upw_ne q]
        have hj : j < e.1 + 1 := hj
        exact k2.2 j (by omega)
  · show (evT F sil fer (c, 0) g).1 = _
    rw [et]
  · show (evT F sil fer (c, 0) g).2 e.1 = _
    rw [et]
    exact upw_eq
  · intro j hj
    show (evT F sil fer (c, 0) g).2 j = _
    rw [et]
    show upw g.2 e.1 _ j = _
    rw [upw_ne (by omega), d4 j (by omega), c4 j hj]
theorem BV_not {F : Nat → Nat} {sil fer : Bool} {m : List (Nat × Nat)} {v : Bool} (h1 : BV F sil fer m v.toNat) : BV F sil fer (m ++ [(14, 0)]) (!v).toNat := by
  obtain ⟨a1, a2, a3⟩ := h1
  have el : (m ++ [(14, 0)]).length = m.length + 1 := by simp
  have v1 : (!v).toNat ≤ 1 := by cases v <;> decide
  have v2 : 1 - v.toNat = (!v).toNat := by cases v <;> rfl
  have v3 : v.toNat ≤ 1 := by cases v <;> decide
  refine ⟨by omega, by rw [el]; omega, fun e he hl => ?_⟩
  rw [el] at hl
  obtain ⟨c1, c2, c3, c4⟩ := a3 e he (by omega)
  have k2 := runO_e m _ c1
  rw [evF_app]
  generalize hg : evF F sil fer m e = g at *
  have et : evT F sil fer (14, 0) g = (g.1, upw g.2 (g.1 - 1) (1 - g.2 (g.1 - 1))) := rfl
  have g1 : g.1 - 1 = e.1 := by omega
  rw [g1, c3, v2] at et
  refine ⟨runO_app _ _ e c1 ?_, ?_, ?_, ?_⟩
  · rw [hg]
    refine ⟨k2, ⟨by show 14 ≤ 16; decide, by decide, fun z => ?_, fun _ => ⟨by omega, ?_⟩, fun _ z => absurd rfl z⟩, ?_⟩
    · have : 14 ≤ 10 := z; omega
    · rw [g1, c3]; exact v3
    · show okE (evT F sil fer (14, 0) g)
      rw [et]
      refine ⟨k2.1, fun j hj => ?_⟩
      show upw g.2 e.1 _ j ≤ 400000
      by_cases q : j = e.1
      · subst q; rw [upw_eq]; omega
      · rw [upw_ne q]; exact k2.2 j hj
  · show (evT F sil fer (14, 0) g).1 = _
    rw [et]; exact c2
  · show (evT F sil fer (14, 0) g).2 e.1 = _
    rw [et]; exact upw_eq
  · intro j hj
    show (evT F sil fer (14, 0) g).2 j = _
    rw [et]
    show upw g.2 e.1 _ j = _
    rw [upw_ne (by omega), c4 j hj]
/-! by the class -/
def wgF (F : Nat → Nat) (sil fer : Bool) : List Int32 → wgT → wgT
  | [], t => t
  | x :: cc, t => wgF F sil fer cc (wgS F sil fer x t)
theorem wgF_app {F : Nat → Nat} {sil fer : Bool} : ∀ (m m2 : List Int32) s, wgF F sil fer (m ++ m2) s = wgF F sil fer m2 (wgF F sil fer m s) := by
  intro m
  induction m with
  | nil => intro m2 s; rfl
  | cons x m ih => intro m2 s; exact ih m2 _
/-- a row of codes of a sum -/
def WS (F : Nat → Nat) (sil fer : Bool) (cc : List Int32) (x : Nat) : Prop := ∀ t, wgF F sil fer cc t = (t.1 + nI x, t.2)
/-- a row of codes puts v on the stack of bits, and needs h of them -/
def WB (F : Nat → Nat) (sil fer : Bool) (cc : List Int32) (v : Bool) (h : Nat) : Prop := 1 ≤ h ∧ ∀ t : wgT, t.1 = 0 → (wgF F sil fer cc t).1 = 0 ∧ (wgF F sil fer cc t).2.2.2 = t.2.2.2 ∧ bX (wgF F sil fer cc t).2.2.1 0 = v ∧ ∀ i, i + h < 32 → bX (wgF F sil fer cc t).2.2.1 (i + 1) = bX t.2.2.1 i
theorem WB.mono {F : Nat → Nat} {sil fer : Bool} {cc : List Int32} {v : Bool} {h h' : Nat} (w : WB F sil fer cc v h) (l : h ≤ h') : WB F sil fer cc v h' := ⟨by have := w.1; omega, fun t ht => ⟨(w.2 t ht).1, (w.2 t ht).2.1, (w.2 t ht).2.2.1, fun i hi => (w.2 t ht).2.2.2 i (by omega)⟩⟩
theorem bX_b (b : Bool) (i : Nat) : bX (bI b) i = (b && decide (i = 0)) := by
  cases b
  · show bX 0 i = _
    rw [bX_0]; rfl
  · show bX 1 i = _
    rw [bX_1, Bool.true_and]
theorem shl1 {x : Int32} {b : Bool} : bX (x <<< ((1 : Int32) &&& 31) ||| bI b) 0 = b ∧ ∀ i, i + 1 < 32 → bX (x <<< ((1 : Int32) &&& 31) ||| bI b) (i + 1) = bX x i := by
  have e : ((1 : Int32) &&& 31) = (nI 1 &&& 31) := rfl
  rw [e]
  refine ⟨?_, fun i hi => ?_⟩
  · rw [bX_or, bX_shl x (by omega) (by omega), bX_b]
    cases b <;> rfl
  · rw [bX_or, bX_shl x (by omega) hi, bX_b, decide_eq_true (show 1 ≤ i + 1 by omega), decide_eq_false (show ¬ i + 1 = 0 by omega), Bool.true_and, Bool.and_false, Bool.or_false, Nat.add_sub_cancel]
theorem ushr1 (x : Int32) (i : Nat) : bX ((x.toUInt32 >>> ((1 : Int32).toUInt32 &&& Int32.toUInt32 31)).toInt32) i = bX x (1 + i) := by
  have e : (((1 : Int32).toUInt32 &&& Int32.toUInt32 31).toBitVec % 32).toNat = 1 := by decide
  unfold bX
  show (x.toBitVec >>> (((1 : Int32).toUInt32 &&& Int32.toUInt32 31).toBitVec % 32)).getLsbD i = _
  rw [BitVec.ushiftRight_eq', BitVec.getLsbD_ushiftRight, e]
/-- one bit more -/
theorem WB_push {F : Nat → Nat} {sil fer b : Bool} {x : Int32} (h : ∀ t : wgT, wgS F sil fer x t = (t.1, t.2.1, t.2.2.1 <<< ((1 : Int32) &&& 31) ||| bI b, t.2.2.2.1, t.2.2.2.2)) : WB F sil fer [x] b 1 := by
  refine ⟨by omega, fun t ht => ?_⟩
  have e : wgF F sil fer [x] t = (t.1, t.2.1, t.2.2.1 <<< ((1 : Int32) &&& 31) ||| bI b, t.2.2.2.1, t.2.2.2.2) := h t
  rw [e]
  exact ⟨ht, rfl, shl1.1, fun i hi => shl1.2 i (by omega)⟩
theorem WB_sil {F : Nat → Nat} {sil fer : Bool} : WB F sil fer [-2] sil 1 := WB_push fun t => by
  unfold wgS
  rw [if_pos (by decide), if_pos (by decide), if_pos (by decide), if_neg (by decide), if_neg (by decide), if_neg (by decide), if_neg (by decide), if_neg (by decide), if_neg (by decide), if_neg (by decide), if_pos rfl]
theorem WB_fer {F : Nat → Nat} {sil fer : Bool} : WB F sil fer [-3] fer 1 := WB_push fun t => by
  unfold wgS
  rw [if_pos (by decide), if_pos (by decide), if_pos (by decide), if_neg (by decide), if_neg (by decide), if_neg (by decide), if_neg (by decide), if_neg (by decide), if_neg (by decide), if_neg (by decide), if_neg (by decide), if_pos rfl]
theorem WB_alw {F : Nat → Nat} {sil fer : Bool} : WB F sil fer [-1] true 1 := WB_push fun t => by
  unfold wgS
  rw [if_pos (by decide), if_pos (by decide), if_pos (by decide), if_neg (by decide), if_neg (by decide), if_neg (by decide), if_neg (by decide), if_neg (by decide), if_neg (by decide), if_neg (by decide), if_neg (by decide), if_neg (by decide)]
  rfl
theorem WS_num {F : Nat → Nat} {sil fer : Bool} {v : Nat} (hv : v ≤ 999) : WS F sil fer [nI v] v := fun t => by
  show wgS F sil fer (nI v) t = _
  unfold wgS
  rw [if_pos (by rw [li_1000, nI_ltI (by omega) (by omega)]; omega), if_neg (nI_pos (by omega))]
theorem WS_fact {F : Nat → Nat} {sil fer : Bool} {i : Nat} (hi : i < 8) : WS F sil fer [-20 - nI i] (F i) := fun t => by
  show wgS F sil fer (-20 - nI i) t = _
  unfold wgS
  have e : i = 0 ∨ i = 1 ∨ i = 2 ∨ i = 3 ∨ i = 4 ∨ i = 5 ∨ i = 6 ∨ i = 7 := by omega
  rcases e with e | e | e | e | e | e | e | e <;> subst e <;> rw [if_pos (by decide), if_pos (by decide), if_neg (by decide)] <;> congr 3
theorem WS_add {F : Nat → Nat} {sil fer : Bool} {c1 c2 : List Int32} {x y : Nat} (h1 : WS F sil fer c1 x) (h2 : WS F sil fer c2 y) : WS F sil fer (c1 ++ c2) (x + y) := fun t => by
  rw [wgF_app, h1, h2]
  show (t.1 + nI x + nI y, t.2) = _
  rw [Int32.add_assoc, nI_add]
theorem WB_cmp {F : Nat → Nat} {sil fer : Bool} {c1 c2 : List Int32} {x y : Nat} (h1 : WS F sil fer c1 x) (h2 : WS F sil fer c2 y) (hx : x < 2 ^ 30) (hy : y < 2 ^ 30) (ls : Bool) : WB F sil fer (c1 ++ [-7] ++ c2 ++ [if ls = true then -8 else -9]) (if ls = true then decide (x < y) else decide (y < x)) 1 := by
  refine ⟨by omega, fun t ht => ?_⟩
  have e7 : ∀ t : wgT, wgS F sil fer (-7) t = (0, t.1, t.2.2.1, t.2.2.2.1, t.2.2.2.2) := fun t => by
    unfold wgS
    rw [if_pos (by decide), if_pos (by decide), if_pos (by decide), if_pos rfl]
  have e8 : ∀ t : wgT, wgS F sil fer (-8) t = (0, t.2.1, t.2.2.1 <<< ((1 : Int32) &&& 31) ||| (if t.1 ≤ t.2.1 then 0 else 1), t.2.2.2.1, t.2.2.2.2) := fun t => by
    unfold wgS
    rw [if_pos (by decide), if_pos (by decide), if_pos (by decide), if_neg (by decide), if_pos rfl]
  have e9 : ∀ t : wgT, wgS F sil fer (-9) t = (0, t.2.1, t.2.2.1 <<< ((1 : Int32) &&& 31) ||| (if t.2.1 ≤ t.1 then 0 else 1), t.2.2.2.1, t.2.2.2.2) := fun t => by
    unfold wgS
    rw [if_pos (by decide), if_pos (by decide), if_pos (by decide), if_neg (by decide), if_neg (by decide), if_pos rfl]
  rw [wgF_app, wgF_app, wgF_app, h1, h2]
  show (wgS F sil fer _ ((wgS F sil fer (-7) (t.1 + nI x, t.2)).1 + nI y, (wgS F sil fer (-7) (t.1 + nI x, t.2)).2)).1 = 0 ∧ (wgS F sil fer _ ((wgS F sil fer (-7) (t.1 + nI x, t.2)).1 + nI y, (wgS F sil fer (-7) (t.1 + nI x, t.2)).2)).2.2.2 = t.2.2.2 ∧ bX (wgS F sil fer _ ((wgS F sil fer (-7) (t.1 + nI x, t.2)).1 + nI y, (wgS F sil fer (-7) (t.1 + nI x, t.2)).2)).2.2.1 0 = _ ∧ ∀ i, i + 1 < 32 → bX (wgS F sil fer _ ((wgS F sil fer (-7) (t.1 + nI x, t.2)).1 + nI y, (wgS F sil fer (-7) (t.1 + nI x, t.2)).2)).2.2.1 (i + 1) = bX t.2.2.1 i
  rw [e7]
  have s1 : t.1 + nI x = nI x := by rw [ht, Int32.zero_add]
  have s2 : (0 : Int32) + nI y = nI y := Int32.zero_add _
  simp only [s1, s2]
  cases ls with
  | true =>
    rw [if_pos rfl, if_pos rfl, e8]
    have eb : (if nI y ≤ nI x then (0 : Int32) else 1) = bI (decide (x < y)) := by
      by_cases q : x < y
      · rw [decide_eq_true q, if_neg (by rw [nI_leI (by omega) (by omega)]; omega)]; rfl
      · rw [decide_eq_false q, if_pos (by rw [nI_leI (by omega) (by omega)]; omega)]; rfl
    refine ⟨rfl, rfl, ?_, fun i hi => ?_⟩
    · show bX (t.2.2.1 <<< ((1 : Int32) &&& 31) ||| (if nI y ≤ nI x then 0 else 1)) 0 = _
      rw [eb]; exact shl1.1
    · show bX (t.2.2.1 <<< ((1 : Int32) &&& 31) ||| (if nI y ≤ nI x then 0 else 1)) (i + 1) = _
      rw [eb]; exact shl1.2 i hi
  | false =>
    rw [if_neg (by decide), if_neg (by decide), e9]
    have eb : (if nI x ≤ nI y then (0 : Int32) else 1) = bI (decide (y < x)) := by
      by_cases q : y < x
      · rw [decide_eq_true q, if_neg (by rw [nI_leI (by omega) (by omega)]; omega)]; rfl
      · rw [decide_eq_false q, if_pos (by rw [nI_leI (by omega) (by omega)]; omega)]; rfl
    refine ⟨rfl, rfl, ?_, fun i hi => ?_⟩
    · show bX (t.2.2.1 <<< ((1 : Int32) &&& 31) ||| (if nI x ≤ nI y then 0 else 1)) 0 = _
      rw [eb]; exact shl1.1
    · show bX (t.2.2.1 <<< ((1 : Int32) &&& 31) ||| (if nI x ≤ nI y then 0 else 1)) (i + 1) = _
      rw [eb]; exact shl1.2 i hi
theorem WB_not {F : Nat → Nat} {sil fer : Bool} {cc : List Int32} {v : Bool} {h : Nat} (w : WB F sil fer cc v h) : WB F sil fer (cc ++ [-4]) (!v) h := by
  refine ⟨w.1, fun t ht => ?_⟩
  obtain ⟨a1, a2, a3, a4⟩ := w.2 t ht
  have e : ∀ t : wgT, wgS F sil fer (-4) t = (t.1, t.2.1, t.2.2.1 ^^^ 1, t.2.2.2.1, t.2.2.2.2) := fun t => by
    unfold wgS
    rw [if_pos (by decide), if_pos (by decide), if_pos (by decide), if_neg (by decide), if_neg (by decide), if_neg (by decide), if_pos rfl]
  rw [wgF_app]
  generalize wgF F sil fer cc t = u at *
  show (wgS F sil fer (-4) u).1 = 0 ∧ (wgS F sil fer (-4) u).2.2.2 = t.2.2.2 ∧ bX (wgS F sil fer (-4) u).2.2.1 0 = _ ∧ ∀ i, i + h < 32 → bX (wgS F sil fer (-4) u).2.2.1 (i + 1) = bX t.2.2.1 i
  rw [e]
  refine ⟨a1, a2, ?_, fun i hi => ?_⟩
  · show bX (u.2.2.1 ^^^ 1) 0 = _
    rw [bX_xor, a3, bX_1]; cases v <;> rfl
  · show bX (u.2.2.1 ^^^ 1) (i + 1) = _
    rw [bX_xor, a4 i hi, bX_1, decide_eq_false (by omega), Bool.xor_false]
theorem WB_and {F : Nat → Nat} {sil fer : Bool} {c1 c2 : List Int32} {v v2 : Bool} {h h2 k : Nat} (w : WB F sil fer c1 v h) (w2 : WB F sil fer c2 v2 h2) (hk : h ≤ k) (hk2 : h2 + 1 ≤ k) (hk3 : k < 32) : WB F sil fer (c1 ++ c2 ++ [-5]) (v && v2) k := by
  refine ⟨by omega, fun t ht => ?_⟩
  obtain ⟨a1, a2, a3, a4⟩ := w.2 t ht
  obtain ⟨b1, b2, b3, b4⟩ := w2.2 _ a1
  have := w2.1
  have e : ∀ t : wgT, wgS F sil fer (-5) t = (t.1, t.2.1, ((t.2.2.1.toUInt32 >>> ((1 : Int32).toUInt32 &&& Int32.toUInt32 31)).toInt32) &&& (t.2.2.1 ||| (-2)), t.2.2.2.1, t.2.2.2.2) := fun t => by
    unfold wgS
    rw [if_pos (by decide), if_pos (by decide), if_pos (by decide), if_neg (by decide), if_neg (by decide), if_neg (by decide), if_neg (by decide), if_pos rfl]
  rw [wgF_app, wgF_app]
  generalize wgF F sil fer c2 (wgF F sil fer c1 t) = u at *
  show (wgS F sil fer (-5) u).1 = 0 ∧ (wgS F sil fer (-5) u).2.2.2 = t.2.2.2 ∧ bX (wgS F sil fer (-5) u).2.2.1 0 = _ ∧ ∀ i, i + k < 32 → bX (wgS F sil fer (-5) u).2.2.1 (i + 1) = bX t.2.2.1 i
  rw [e]
  have m2 : ∀ i, i < 32 → bX (-2) i = !decide (i = 0) := by decide +kernel
  refine ⟨b1, b2.trans a2, ?_, fun i hi => ?_⟩
  · show bX (((u.2.2.1.toUInt32 >>> ((1 : Int32).toUInt32 &&& Int32.toUInt32 31)).toInt32) &&& (u.2.2.1 ||| (-2))) 0 = _
    rw [bX_and, ushr1, bX_or, b3, m2 0 (by omega), b4 0 (by omega), a3]
    cases v <;> cases v2 <;> rfl
  · show bX (((u.2.2.1.toUInt32 >>> ((1 : Int32).toUInt32 &&& Int32.toUInt32 31)).toInt32) &&& (u.2.2.1 ||| (-2))) (i + 1) = _
    rw [bX_and, ushr1, bX_or, m2 (i + 1) (by omega), decide_eq_false (by omega), Bool.not_false, Bool.or_true, Bool.and_true, show 1 + (i + 1) = (i + 1) + 1 by omega, b4 (i + 1) (by omega), a4 i (by omega)]
theorem WB_or {F : Nat → Nat} {sil fer : Bool} {c1 c2 : List Int32} {v v2 : Bool} {h h2 k : Nat} (w : WB F sil fer c1 v h) (w2 : WB F sil fer c2 v2 h2) (hk : h ≤ k) (hk2 : h2 + 1 ≤ k) (hk3 : k < 32) : WB F sil fer (c1 ++ c2 ++ [-6]) (v || v2) k := by
  refine ⟨by omega, fun t ht => ?_⟩
  obtain ⟨a1, a2, a3, a4⟩ := w.2 t ht
  obtain ⟨b1, b2, b3, b4⟩ := w2.2 _ a1
  have := w2.1
  have e : ∀ t : wgT, wgS F sil fer (-6) t = (t.1, t.2.1, ((t.2.2.1.toUInt32 >>> ((1 : Int32).toUInt32 &&& Int32.toUInt32 31)).toInt32) ||| (t.2.2.1 &&& 1), t.2.2.2.1, t.2.2.2.2) := fun t => by
    unfold wgS
    rw [if_pos (by decide), if_pos (by decide), if_pos (by decide), if_neg (by decide), if_neg (by decide), if_neg (by decide), if_neg (by decide), if_neg (by decide), if_pos rfl]
  rw [wgF_app, wgF_app]
  generalize wgF F sil fer c2 (wgF F sil fer c1 t) = u at *
  show (wgS F sil fer (-6) u).1 = 0 ∧ (wgS F sil fer (-6) u).2.2.2 = t.2.2.2 ∧ bX (wgS F sil fer (-6) u).2.2.1 0 = _ ∧ ∀ i, i + k < 32 → bX (wgS F sil fer (-6) u).2.2.1 (i + 1) = bX t.2.2.1 i
  rw [e]
  refine ⟨b1, b2.trans a2, ?_, fun i hi => ?_⟩
  · show bX (((u.2.2.1.toUInt32 >>> ((1 : Int32).toUInt32 &&& Int32.toUInt32 31)).toInt32) ||| (u.2.2.1 &&& 1)) 0 = _
    rw [bX_or, ushr1, bX_and, b3, bX_1, b4 0 (by omega), a3]
    cases v <;> cases v2 <;> rfl
  · show bX (((u.2.2.1.toUInt32 >>> ((1 : Int32).toUInt32 &&& Int32.toUInt32 31)).toInt32) ||| (u.2.2.1 &&& 1)) (i + 1) = _
    rw [bX_or, ushr1, bX_and, bX_1, decide_eq_false (by omega), Bool.and_false, Bool.or_false, show 1 + (i + 1) = (i + 1) + 1 by omega, b4 (i + 1) (by omega), a4 i (by omega)]
/-! both, of what was read -/
def GS (m : List (Nat × Nat)) (cc : List Int32) : Prop := ∀ (F : Nat → Nat) (sil fer : Bool), (∀ i, i < 8 → F i ≤ 999) → ∃ x, BV F sil fer m x ∧ WS F sil fer cc x
def GB (h : Nat) (m : List (Nat × Nat)) (cc : List Int32) : Prop := ∀ (F : Nat → Nat) (sil fer : Bool), (∀ i, i < 8 → F i ≤ 999) → ∃ v : Bool, BV F sil fer m v.toNat ∧ WB F sil fer cc v h
theorem GB.mono {h h' : Nat} {m : List (Nat × Nat)} {cc : List Int32} (g : GB h m cc) (l : h ≤ h') : GB h' m cc := fun F sil fer hF => by
  obtain ⟨v, a, b⟩ := g F sil fer hF
  exact ⟨v, a, b.mono l⟩
theorem tmA_ok {tp : Nat → Nat} {tl b : Nat} {t : Nat × Nat} {x : Int32} (h : tmA tp tl b = some (t, x)) : (kd tp tl b = 1 ∨ kd tp tl b = 2) ∧ GS [t] [x] := by
  unfold tmA at h
  split at h
  · rename_i k1
    cases e : tmW tp tl b with
    | none => rw [e] at h; cases h
    | some i =>
      rw [e] at h
      cases h
      have hi := tmW_lt e
      refine ⟨Or.inl k1, fun F sil fer hF => ⟨F i, ?_, WS_fact hi⟩⟩
      have := BV_leaf (sil := sil) (fer := fer) (c := i) (n := 0) hF (by omega) (by omega)
      unfold fv at this
      rw [if_pos hi] at this
      exact this
  · cases e : numA tp tl b 1000 with
    | none => rw [e] at h; cases h
    | some v =>
      rw [e] at h
      cases h
      have hv := numA_s e
      refine ⟨Or.inr hv.2.2.1, fun F sil fer hF => ⟨v, ?_, WS_num (by omega)⟩⟩
      exact BV_leaf (sil := sil) (fer := fer) (c := 10) (n := v) hF (by omega) (by omega)
theorem ek_gt {tp : Nat → Nat} {tl b : Nat} (h : ¬ kd tp tl b = 0) : b < ek tp tl b := by
  rcases kd_c tp tl b with ⟨z, e⟩ | ⟨z, y, e⟩ | ⟨z, y, e⟩ | ⟨z, _, _, e⟩
  · exact absurd e h
  · unfold ek
    rw [e]
    have h1 : le tp tl b = le tp tl (b + 1) := rn_y z y
    have h2 := rn_le (p := isL tp) (tl := tl) (b + 1)
    show b < le tp tl b
    unfold le at *
    omega
  · unfold ek
    rw [e]
    have h1 : de tp tl b = de tp tl (b + 1) := rn_y z y
    have h2 := rn_le (p := isD tp) (tl := tl) (b + 1)
    show b < de tp tl b
    unfold de at *
    omega
  · unfold ek; rw [e]; exact Nat.lt_succ_self b
/-- what stands at p is more than one place long -/
theorem stepP {tp : Nat → Nat} {tl p : Nat} (hp : p ≤ tl) (h : ¬ kd tp tl (sk tp tl p) = 0) : p < ek tp tl (sk tp tl p) ∧ ek tp tl (sk tp tl p) ≤ tl := by
  have h1 := ek_gt h
  have h2 := sk_le (tp := tp) (tl := tl) (p := p)
  exact ⟨by omega, ek_tl tp tl _ (sk_tl hp)⟩
theorem stepW {tp : Nat → Nat} {tl p w : Nat} (hp : p ≤ tl) (hw : w < 71) (h : isW tp tl (sk tp tl p) w = true) : p + (wdL w).length ≤ ek tp tl (sk tp tl p) ∧ ek tp tl (sk tp tl p) ≤ tl := by
  have k := isW_k hw h
  unfold isW at h
  rw [Bool.and_eq_true, decide_eq_true_eq] at h
  have h2 := sk_le (tp := tp) (tl := tl) (p := p)
  have h3 := rn_le (p := isL tp) (tl := tl) (sk tp tl p)
  have h3' : sk tp tl p ≤ le tp tl (sk tp tl p) := h3
  exact ⟨by rw [k.2]; omega, ek_tl tp tl _ (sk_tl hp)⟩
theorem stepS {tp : Nat → Nat} {tl p v : Nat} (hp : p ≤ tl) (hv : sgn v) (h : isS tp tl (sk tp tl p) v = true) : p < ek tp tl (sk tp tl p) ∧ ek tp tl (sk tp tl p) ≤ tl := by
  have k := isS_k hv h
  exact stepP hp (by rw [k.1]; decide)
theorem pS_ok {tp : Nat → Nat} {tl : Nat} : ∀ n m cc p, p ≤ tl → GS m cc → ∀ m' cc' q, pS tp tl n m cc p = .inr (m', cc', q) → p ≤ q ∧ q ≤ tl ∧ GS m' cc' ∧ m'.length + p ≤ m.length + q ∧ cc'.length + p ≤ cc.length + q := by
  intro n
  induction n with
  | zero => intro m cc p _ _ m' cc' q h; cases h
  | succ n ih =>
    intro m cc p hp hg m' cc' q h
    rw [pS] at h
    by_cases z : isS tp tl (sk tp tl p) 43 = true
    · rw [if_pos z] at h
      have s1 := stepS hp (by omega) z
      cases e : tmA tp tl (sk tp tl (ek tp tl (sk tp tl p))) with
      | none => rw [e] at h; cases h
      | some tx =>
        obtain ⟨t, x⟩ := tx
        rw [e] at h
        have ok := tmA_ok e
        have s2 := stepP s1.2 (show ¬ kd tp tl (sk tp tl (ek tp tl (sk tp tl p))) = 0 by omega)
        have g2 : GS (m ++ [t, (11, 0)]) (cc ++ [x]) := by
          intro F sil fer hF
          obtain ⟨x1, b1, w1⟩ := hg F sil fer hF
          obtain ⟨x2, b2, w2⟩ := ok.2 F sil fer hF
          refine ⟨x1 + x2, ?_, WS_add w1 w2⟩
          have l3 : ([t] : List (Nat × Nat)).length = 1 := rfl
          have := BV_bin (c := 11) b1 b2 (by omega) (by omega) (by omega) (by
            show x1 + x2 ≤ _
            have := b1.2.1
            have := b2.2.1
            omega)
          rw [List.append_assoc] at this
          exact this
        obtain ⟨a1, a2, a3, a4, a5⟩ := ih _ _ _ s2.2 g2 m' cc' q h
        rw [List.length_append] at a4 a5
        have l1 : ([t, (11, 0)] : List (Nat × Nat)).length = 2 := rfl
        have l2 : ([x] : List Int32).length = 1 := rfl
        exact ⟨by omega, a2, a3, by omega, by omega⟩
    · rw [if_neg z] at h
      cases h
      exact ⟨Nat.le_refl _, hp, hg, Nat.le_refl _, Nat.le_refl _⟩
theorem pM_ok {tp : Nat → Nat} {tl p : Nat} (hp : p ≤ tl) {m' : List (Nat × Nat)} {cc' : List Int32} {q : Nat} (h : pM tp tl p = .inr (m', cc', q)) : p < q ∧ q ≤ tl ∧ GS m' cc' ∧ m'.length + p ≤ q ∧ cc'.length + p ≤ q := by
  unfold pM at h
  cases e : tmA tp tl (sk tp tl p) with
  | none => rw [e] at h; cases h
  | some tx =>
    obtain ⟨t, x⟩ := tx
    rw [e] at h
    have ok := tmA_ok e
    have s2 := stepP hp (show ¬ kd tp tl (sk tp tl p) = 0 by omega)
    obtain ⟨a1, a2, a3, a4, a5⟩ := pS_ok 401 _ _ _ s2.2 ok.2 m' cc' q h
    have l1 : ([t] : List (Nat × Nat)).length = 1 := rfl
    have l2 : ([x] : List Int32).length = 1 := rfl
    exact ⟨by omega, a2, a3, by omega, by omega⟩
/-- what was read from p to q: the codes good, and not too many -/
def PK (h tl p : Nat) (m : List (Nat × Nat)) (cc : List Int32) (q : Nat) : Prop := p < q ∧ q ≤ tl ∧ GB h m cc ∧ m.length + p ≤ q ∧ cc.length + p ≤ q + 1
theorem GB_cmp {m m2 : List (Nat × Nat)} {cc c2 : List Int32} (g1 : GS m cc) (g2 : GS m2 c2) (hl : m.length + m2.length ≤ 400) (ls : Bool) : GB 1 (m ++ m2 ++ [(if ls = true then 12 else 13, 0)]) (cc ++ [-7] ++ c2 ++ [if ls = true then -8 else -9]) := fun F sil fer hF => by
  obtain ⟨x, b1, w1⟩ := g1 F sil fer hF
  obtain ⟨y, b2, w2⟩ := g2 F sil fer hF
  have l1 := b1.2.1
  have l2 := b2.2.1
  refine ⟨_, ?_, WB_cmp w1 w2 (by omega) (by omega) ls⟩
  have v1 : ∀ b : Bool, b.toNat ≤ 1 := by decide
  cases ls with
  | true => exact BV_bin (c := 12) b1 b2 (by omega) (by omega) (by omega) (by have := v1 (decide (x < y)); show (decide (x < y)).toNat ≤ _; omega)
  | false => exact BV_bin (c := 13) b1 b2 (by omega) (by omega) (by omega) (by have := v1 (decide (y < x)); show (decide (y < x)).toNat ≤ _; omega)
theorem GB_not {h : Nat} {m : List (Nat × Nat)} {cc : List Int32} (g : GB h m cc) : GB h (m ++ [(14, 0)]) (cc ++ [-4]) := fun F sil fer hF => by
  obtain ⟨v, b, w⟩ := g F sil fer hF
  exact ⟨!v, BV_not b, WB_not w⟩
theorem GB_and {h h2 k : Nat} {m m2 : List (Nat × Nat)} {cc c2 : List Int32} (g : GB h m cc) (g2 : GB h2 m2 c2) (hk : h ≤ k) (hk2 : h2 + 1 ≤ k) (hk3 : k < 32) : GB k (m ++ m2 ++ [(15, 0)]) (cc ++ c2 ++ [-5]) := fun F sil fer hF => by
  obtain ⟨v, b1, w1⟩ := g F sil fer hF
  obtain ⟨v2, b2, w2⟩ := g2 F sil fer hF
  refine ⟨v && v2, ?_, WB_and w1 w2 hk hk2 hk3⟩
  have e : opv 15 v.toNat v2.toNat = (v && v2).toNat := by cases v <;> cases v2 <;> rfl
  have l : (v && v2).toNat ≤ 1 := by cases v <;> cases v2 <;> decide
  have := BV_bin (c := 15) b1 b2 (by omega) (by omega) (by omega) (by rw [e]; omega)
  rw [e] at this
  exact this
theorem GB_or {h h2 k : Nat} {m m2 : List (Nat × Nat)} {cc c2 : List Int32} (g : GB h m cc) (g2 : GB h2 m2 c2) (hk : h ≤ k) (hk2 : h2 + 1 ≤ k) (hk3 : k < 32) : GB k (m ++ m2 ++ [(16, 0)]) (cc ++ c2 ++ [-6]) := fun F sil fer hF => by
  obtain ⟨v, b1, w1⟩ := g F sil fer hF
  obtain ⟨v2, b2, w2⟩ := g2 F sil fer hF
  refine ⟨v || v2, ?_, WB_or w1 w2 hk hk2 hk3⟩
  have e : opv 16 v.toNat v2.toNat = (v || v2).toNat := by cases v <;> cases v2 <;> rfl
  have l : (v || v2).toNat ≤ 1 := by cases v <;> cases v2 <;> decide
  have := BV_bin (c := 16) b1 b2 (by omega) (by omega) (by omega) (by rw [e]; omega)
  rw [e] at this
  exact this
theorem pF_ok {tp : Nat → Nat} {tl p : Nat} (hl : tl ≤ 400) (hp : p ≤ tl) {m : List (Nat × Nat)} {cc : List Int32} {q : Nat} (h : pF tp tl p = .inr (m, cc, q)) : PK 1 tl p m cc q := by
  unfold pF at h
  by_cases z1 : isW tp tl (sk tp tl p) 63 = true
  · rw [if_pos z1] at h
    cases h
    have s := stepW hp (by omega) z1
    have l6 : (wdL 63).length = 6 := by decide
    refine ⟨by omega, s.2, fun F sil fer hF => ⟨sil, ?_, WB_sil⟩, ?_, ?_⟩
    · have := BV_leaf (sil := sil) (fer := fer) (c := 8) (n := 0) hF (by omega) (by omega)
      exact this
    · show 1 + p ≤ _; omega
    · show 1 + p ≤ _; omega
  rw [if_neg z1] at h
  by_cases z2 : isW tp tl (sk tp tl p) 64 = true
  · rw [if_pos z2] at h
    cases h
    have s := stepW hp (by omega) z2
    have l6 : (wdL 64).length = 5 := by decide
    refine ⟨by omega, s.2, fun F sil fer hF => ⟨fer, ?_, WB_fer⟩, ?_, ?_⟩
    · have := BV_leaf (sil := sil) (fer := fer) (c := 9) (n := 0) hF (by omega) (by omega)
      exact this
    · show 1 + p ≤ _; omega
    · show 1 + p ≤ _; omega
  rw [if_neg z2] at h
  obtain ⟨m1, c1, q1, e1, h⟩ := bnd_x h
  obtain ⟨a1, a2, a3, a4, a5⟩ := pM_ok hp e1
  by_cases z3 : isS tp tl (sk tp tl q1) 60 = true
  · rw [if_pos z3] at h
    obtain ⟨m2, c2, q2, e2, h⟩ := bnd_x h
    have s := stepS a2 (by omega) z3
    obtain ⟨b1, b2, b3, b4, b5⟩ := pM_ok s.2 e2
    cases h
    refine ⟨by omega, b2, GB_cmp a3 b3 (by omega) true, ?_, ?_⟩
    · rw [List.length_append, List.length_append]; show m1.length + m2.length + 1 + p ≤ q; omega
    · rw [List.length_append, List.length_append, List.length_append]; show c1.length + 1 + c2.length + 1 + p ≤ q + 1; omega
  rw [if_neg z3] at h
  by_cases z4 : isS tp tl (sk tp tl q1) 62 = true
  · rw [if_pos z4] at h
    obtain ⟨m2, c2, q2, e2, h⟩ := bnd_x h
    have s := stepS a2 (by omega) z4
    obtain ⟨b1, b2, b3, b4, b5⟩ := pM_ok s.2 e2
    cases h
    refine ⟨by omega, b2, GB_cmp a3 b3 (by omega) false, ?_, ?_⟩
    · rw [List.length_append, List.length_append]; show m1.length + m2.length + 1 + p ≤ q; omega
    · rw [List.length_append, List.length_append, List.length_append]; show c1.length + 1 + c2.length + 1 + p ≤ q + 1; omega
  rw [if_neg z4] at h
  cases h
abbrev hA (e : Nat) : Nat := 1 + 2 * (6 - e)
theorem prs_ok {tp : Nat → Nat} {tl : Nat} (hl : tl ≤ 400) : ∀ n, (∀ e p m cc q, e ≤ 6 → p ≤ tl → (prs tp tl n).1 e p = .inr (m, cc, q) → PK (hA e) tl p m cc q) ∧ (∀ e m cc p m' cc' q, e ≤ 6 → p ≤ tl → GB (hA e + 1) m cc → (prs tp tl n).2.1 e m cc p = .inr (m', cc', q) → p ≤ q ∧ q ≤ tl ∧ GB (hA e + 1) m' cc' ∧ m'.length + p ≤ m.length + q ∧ cc'.length + p ≤ cc.length + q) ∧ (∀ e m cc p m' cc' q, e ≤ 6 → p ≤ tl → GB (hA e + 2) m cc → (prs tp tl n).2.2 e m cc p = .inr (m', cc', q) → p ≤ q ∧ q ≤ tl ∧ GB (hA e + 2) m' cc' ∧ m'.length + p ≤ m.length + q ∧ cc'.length + p ≤ cc.length + q) := by
  intro n
  induction n with
  | zero => exact ⟨fun e p m cc q _ _ h => (by cases h), fun e m cc p m' cc' q _ _ _ h => (by cases h), fun e m cc p m' cc' q _ _ _ h => (by cases h)⟩
  | succ n ih =>
    obtain ⟨iA, iB, iC⟩ := ih
    refine ⟨?_, ?_, ?_⟩
    · intro e p m cc q he hp h
      rw [prs] at h
      simp only at h
      by_cases z1 : isS tp tl (sk tp tl p) 40 = true
      · rw [if_pos z1] at h
        by_cases z2 : e = 6
        · rw [if_pos z2] at h; cases h
        rw [if_neg z2] at h
        have s := stepS hp (by omega) z1
        obtain ⟨m1, c1, q1, e1, h⟩ := bnd_x h
        obtain ⟨m2, c2, q2, e2, h⟩ := bnd_x h
        obtain ⟨m3, c3, q3, e3, h⟩ := bnd_x h
        obtain ⟨a1, a2, a3, a4, a5⟩ := iA _ _ _ _ _ (by omega) s.2 e1
        obtain ⟨b1, b2, b3, b4, b5⟩ := iB _ _ _ _ _ _ _ (by omega) a2 (a3.mono (by omega)) e2
        obtain ⟨c1', c2', c3', c4', c5'⟩ := iC _ _ _ _ _ _ _ (by omega) b2 (b3.mono (by omega)) e3
        by_cases z3 : isS tp tl (sk tp tl q3) 41 = true
        · rw [if_pos z3] at h
          have s3 := stepS c2' (by omega) z3
          cases h
          exact ⟨by omega, s3.2, c3'.mono (by unfold hA; omega), by omega, by omega⟩
        · rw [if_neg z3] at h; cases h
      rw [if_neg z1] at h
      by_cases z4 : isW tp tl (sk tp tl p) 62 = true
      · rw [if_pos z4] at h
        by_cases z2 : e = 6
        · rw [if_pos z2] at h; cases h
        rw [if_neg z2] at h
        have s := stepW hp (by omega) z4
        have l3 : (wdL 62).length = 3 := by decide
        obtain ⟨m1, c1, q1, e1, h⟩ := bnd_x h
        obtain ⟨a1, a2, a3, a4, a5⟩ := iA _ _ _ _ _ (by omega) s.2 e1
        cases h
        refine ⟨by omega, a2, (GB_not a3).mono (by unfold hA; omega), ?_, ?_⟩
        · rw [List.length_append]; show m1.length + 1 + p ≤ q; omega
        · rw [List.length_append]; show c1.length + 1 + p ≤ q + 1; omega
      rw [if_neg z4] at h
      obtain ⟨a1, a2, a3, a4, a5⟩ := pF_ok hl hp h
      exact ⟨a1, a2, a3.mono (by unfold hA; omega), a4, a5⟩
    · intro e m cc p m' cc' q he hp hg h
      rw [prs] at h
      simp only at h
      by_cases z1 : isW tp tl (sk tp tl p) 69 = true
      · rw [if_pos z1] at h
        have s := stepW hp (by omega) z1
        have l3 : (wdL 69).length = 3 := by decide
        obtain ⟨m1, c1, q1, e1, h⟩ := bnd_x h
        obtain ⟨a1, a2, a3, a4, a5⟩ := iA _ _ _ _ _ he s.2 e1
        obtain ⟨b1, b2, b3, b4, b5⟩ := iB _ _ _ _ _ _ _ he a2 (GB_and hg a3 (by omega) (by omega) (by unfold hA; omega)) h
        rw [List.length_append, List.length_append] at b4 b5
        have l1 : ([(15, 0)] : List (Nat × Nat)).length = 1 := rfl
        have l2 : ([-5] : List Int32).length = 1 := rfl
        exact ⟨by omega, b2, b3, by omega, by omega⟩
      · rw [if_neg z1] at h
        cases h
        exact ⟨Nat.le_refl _, hp, hg, Nat.le_refl _, Nat.le_refl _⟩
    · intro e m cc p m' cc' q he hp hg h
      rw [prs] at h
      simp only at h
      by_cases z1 : isW tp tl (sk tp tl p) 70 = true
      · rw [if_pos z1] at h
        have s := stepW hp (by omega) z1
        have l3 : (wdL 70).length = 2 := by decide
        obtain ⟨m1, c1, q1, e1, h⟩ := bnd_x h
        obtain ⟨a1, a2, a3, a4, a5⟩ := iA _ _ _ _ _ he s.2 e1
        obtain ⟨m2, c2, q2, e2, h⟩ := bnd_x h
        obtain ⟨d1, d2, d3, d4, d5⟩ := iB _ _ _ _ _ _ _ he a2 (a3.mono (by omega)) e2
        obtain ⟨b1, b2, b3, b4, b5⟩ := iC _ _ _ _ _ _ _ he d2 (GB_or hg d3 (by omega) (by omega) (by unfold hA; omega)) h
        rw [List.length_append, List.length_append] at b4 b5
        have l1 : ([(16, 0)] : List (Nat × Nat)).length = 1 := rfl
        have l2 : ([-6] : List Int32).length = 1 := rfl
        exact ⟨by omega, b2, b3, by omega, by omega⟩
      · rw [if_neg z1] at h
        cases h
        exact ⟨Nat.le_refl _, hp, hg, Nat.le_refl _, Nat.le_refl _⟩
