/-! law: its lines -/
abbrev LN : Type := Nat × Nat × List (Nat × Nat) × List Int32
abbrev LL : Type := Nat ⊕ (LN × Nat)
def ifR (tp : Nat → Nat) (tl k v : Nat) (eff : Int32) (p : Nat) : LL :=
  if isW tp tl (sk tp tl p) 61 = true then (match pC tp tl 401 0 (ek tp tl (sk tp tl p)) with
    | .inl f => .inl f
    | .inr (m, cc, q) => .inr ((k, v, m, cc ++ [eff]), q)) else .inr ((k, v, [], [-1] ++ [eff]), p)
def nuR (tp : Nat → Nat) (tl k : Nat) (base : Int32) (q : Nat) : LL := match numA tp tl (sk tp tl q) 21 with
  | none => .inl (sk tp tl q)
  | some v => ifR tp tl k v (base + nI v) (ek tp tl (sk tp tl q))
def lnL (tp : Nat → Nat) (tl p : Nat) : LL :=
  if isW tp tl (sk tp tl p) 58 = true then nuR tp tl 0 1000 (ek tp tl (sk tp tl p))
  else if isW tp tl (sk tp tl p) 59 = true then nuR tp tl 1 1100 (ek tp tl (sk tp tl p))
  else if isW tp tl (sk tp tl p) 60 = true then ifR tp tl 2 1 (-10) (ek tp tl (sk tp tl p))
  else .inl (sk tp tl p)
theorem ifR_n {tp : Nat → Nat} {tl k v : Nat} {eff : Int32} {p : Nat} (h : isW tp tl (sk tp tl p) 61 = false) : ifR tp tl k v eff p = .inr ((k, v, [], [-1] ++ [eff]), p) := by unfold ifR; rw [if_neg (by rw [h]; decide)]
theorem ifR_f {tp : Nat → Nat} {tl k v : Nat} {eff : Int32} {p f : Nat} (h : isW tp tl (sk tp tl p) 61 = true) (e : pC tp tl 401 0 (ek tp tl (sk tp tl p)) = .inl f) : ifR tp tl k v eff p = .inl f := by unfold ifR; rw [if_pos h, e]
theorem ifR_s {tp : Nat → Nat} {tl k v : Nat} {eff : Int32} {p : Nat} {m : List (Nat × Nat)} {cc : List Int32} {q : Nat} (h : isW tp tl (sk tp tl p) 61 = true) (e : pC tp tl 401 0 (ek tp tl (sk tp tl p)) = .inr (m, cc, q)) : ifR tp tl k v eff p = .inr ((k, v, m, cc ++ [eff]), q) := by unfold ifR; rw [if_pos h, e]
theorem nuR_n {tp : Nat → Nat} {tl k : Nat} {base : Int32} {q : Nat} (h : numA tp tl (sk tp tl q) 21 = none) : nuR tp tl k base q = .inl (sk tp tl q) := by unfold nuR; rw [h]
theorem nuR_s {tp : Nat → Nat} {tl k v : Nat} {base : Int32} {q : Nat} (h : numA tp tl (sk tp tl q) 21 = some v) : nuR tp tl k base q = ifR tp tl k v (base + nI v) (ek tp tl (sk tp tl q)) := by unfold nuR; rw [h]
theorem pC_ok {tp : Nat → Nat} {tl p : Nat} (hl : tl ≤ 400) (hp : p ≤ tl) {m : List (Nat × Nat)} {cc : List Int32} {q : Nat} (h : pC tp tl 401 0 p = .inr (m, cc, q)) : PK 15 tl p m cc q := by
  obtain ⟨oA, oB, oC⟩ := prs_ok (tp := tp) hl 401
  unfold pC at h
  obtain ⟨m1, c1, q1, e1, h⟩ := bnd_x h
  obtain ⟨m2, c2, q2, e2, h⟩ := bnd_x h
  obtain ⟨a1, a2, a3, a4, a5⟩ := oA _ _ _ _ _ (by omega) hp e1
  obtain ⟨b1, b2, b3, b4, b5⟩ := oB _ _ _ _ _ _ _ (by omega) a2 (a3.mono (by omega)) e2
  obtain ⟨c1', c2', c3', c4', c5'⟩ := oC _ _ _ _ _ _ _ (by omega) b2 (b3.mono (by omega)) h
  exact ⟨by omega, c2', c3', by omega, by omega⟩
/-- what a line does, as the class's code -/
def eff (k v : Nat) : Int32 := if k = 0 then 1000 + nI v else if k = 1 then 1100 + nI v else -10
/-- a good line -/
def LG (x : LN) : Prop := x.1 ≤ 2 ∧ x.2.1 ≤ 20 ∧ (x.1 = 2 → x.2.1 = 1) ∧ ((x.2.2.1 = [] ∧ x.2.2.2 = [-1] ++ [eff x.1 x.2.1]) ∨ ∃ cc, GB 15 x.2.2.1 cc ∧ x.2.2.2 = cc ++ [eff x.1 x.2.1])
theorem ifR_ok {tp : Nat → Nat} {tl k v p : Nat} (hl : tl ≤ 400) (hp : p ≤ tl) (hk : k ≤ 2) (hv : v ≤ 20) (h2 : k = 2 → v = 1) {x : LN} {q : Nat} (h : ifR tp tl k v (eff k v) p = .inr (x, q)) : LG x ∧ p ≤ q ∧ q ≤ tl ∧ x.2.2.1.length + p ≤ q ∧ x.2.2.2.length + p ≤ q + 2 := by
  cases z : isW tp tl (sk tp tl p) 61 with
  | false =>
    rw [ifR_n z] at h
    cases h
    exact ⟨⟨hk, hv, h2, Or.inl ⟨rfl, rfl⟩⟩, Nat.le_refl _, hp, by show 0 + p ≤ p; omega, by show 2 + p ≤ p + 2; omega⟩
  | true =>
    have s := stepW hp (by omega) z
    have l2 : (wdL 61).length = 2 := by decide
    cases e : pC tp tl 401 0 (ek tp tl (sk tp tl p)) with
    | inl f => rw [ifR_f z e] at h; cases h
    | inr y =>
      obtain ⟨m, cc, q'⟩ := y
      rw [ifR_s z e] at h
      cases h
      obtain ⟨a1, a2, a3, a4, a5⟩ := pC_ok hl s.2 e
      refine ⟨⟨hk, hv, h2, Or.inr ⟨cc, a3, rfl⟩⟩, by omega, a2, by show m.length + p ≤ _; omega, ?_⟩
      show (cc ++ [eff k v]).length + p ≤ _
      rw [List.length_append]
      show cc.length + 1 + p ≤ _
      omega
theorem nuR_ok {tp : Nat → Nat} {tl k q : Nat} {base : Int32} (hl : tl ≤ 400) (hp : q ≤ tl) (hk : (k = 0 ∧ base = 1000) ∨ (k = 1 ∧ base = 1100)) {x : LN} {q' : Nat} (h : nuR tp tl k base q = .inr (x, q')) : LG x ∧ q ≤ q' ∧ q' ≤ tl ∧ x.2.2.1.length + q ≤ q' ∧ x.2.2.2.length + q ≤ q' + 2 := by
  cases e : numA tp tl (sk tp tl q) 21 with
  | none => rw [nuR_n e] at h; cases h
  | some v =>
    rw [nuR_s e] at h
    have hv := numA_s e
    have s := stepP hp (show ¬ kd tp tl (sk tp tl q) = 0 by omega)
    have eb : base + nI v = eff k v := by
      unfold eff
      rcases hk with ⟨k0, b0⟩ | ⟨k0, b0⟩ <;> subst k0 <;> subst b0 <;> rfl
    rw [eb] at h
    obtain ⟨a1, a2, a3, a4, a5⟩ := ifR_ok hl s.2 (by omega) (by omega) (by omega) h
    exact ⟨a1, by omega, a3, by omega, by omega⟩
theorem lnL_ok {tp : Nat → Nat} {tl p : Nat} (hl : tl ≤ 400) (hp : p ≤ tl) {x : LN} {q : Nat} (h : lnL tp tl p = .inr (x, q)) : LG x ∧ p < q ∧ q ≤ tl ∧ x.2.2.1.length + p ≤ q ∧ x.2.2.2.length + p ≤ q := by
  unfold lnL at h
  have l3 : (wdL 58).length = 3 ∧ (wdL 59).length = 4 ∧ (wdL 60).length = 4 := by decide
  by_cases z1 : isW tp tl (sk tp tl p) 58 = true
  · rw [if_pos z1] at h
    have s := stepW hp (by omega) z1
    obtain ⟨a1, a2, a3, a4, a5⟩ := nuR_ok hl s.2 (Or.inl ⟨rfl, rfl⟩) h
    exact ⟨a1, by omega, a3, by omega, by omega⟩
  rw [if_neg z1] at h
  by_cases z2 : isW tp tl (sk tp tl p) 59 = true
  · rw [if_pos z2] at h
    have s := stepW hp (by omega) z2
    obtain ⟨a1, a2, a3, a4, a5⟩ := nuR_ok hl s.2 (Or.inr ⟨rfl, rfl⟩) h
    exact ⟨a1, by omega, a3, by omega, by omega⟩
  rw [if_neg z2] at h
  by_cases z3 : isW tp tl (sk tp tl p) 60 = true
  · rw [if_pos z3] at h
    have s := stepW hp (by omega) z3
    obtain ⟨a1, a2, a3, a4, a5⟩ := ifR_ok (k := 2) (v := 1) hl s.2 (by omega) (by omega) (fun _ => rfl) h
    exact ⟨a1, by omega, a3, by omega, by omega⟩
  rw [if_neg z3] at h
  cases h
/-! the class -/
def CZ (tp : Nat → Nat) (tl : Nat) (I : Nat → Nat → Int32) (p : Nat) (l : List Int32) : Prop := TK tp tl 131 I p ∧ TXc tp I ∧ STR I ∧ CL I l ∧ I 131 5 = -1
theorem CZ.a {tp : Nat → Nat} {tl : Nat} {I J : Nat → Nat → Int32} {p q : Nat} {l : List Int32} (h : CZ tp tl I p l) (f : FR 131 [] [2, 3, 4] I J) (t : TK tp tl 131 J q) : CZ tp tl J q l := by
  obtain ⟨h1, h2, h3, h4, h9⟩ := h
  refine ⟨t, (FYl.a f).x h2, (FYl.a f).s h3, ⟨?_, fun i hi => ?_⟩, ?_⟩
  · rw [f.1 27 List.not_mem_nil (by decide)]; exact h4.1
  · rw [f.1 28 List.not_mem_nil (by decide)]; exact h4.2 i hi
  · rw [f.2 5 (by decide)]; exact h9
theorem C_addZ {d Ln c s : Nat} {I : Nat → Nat → Int32} {L : Nat → Nat → Int64} {K : (Nat → Nat → Int32) → (Nat → Nat → Int64) → Prop} {tp : Nat → Nat} {tl p : Nat} {l : List Int32} {x : Int32} (hd : 28 ≤ d) (h : CZ tp tl I p l) (hl : l.length < 400) (kk : ∀ I', CZ tp tl I' p (l ++ [x]) → FYl I I' → K I' L) : dd_Ev d m_X2_add [.ref 27, .int x] (sM Ln I L c s) (dd_RV Ln c s K) := by
  obtain ⟨h1, h2, h3, h4, h9⟩ := h
  refine w_X2_add_0 hd ?_
  have t : tn (nI l.length) = l.length := nI_clamp (by omega)
  rw [h4.1, li_400, nI_leI (by omega) (by omega), t, nI_1]
  refine ⟨fun z => absurd z (by omega), fun _ => ⟨⟨nI_pos' (by omega), hl⟩, dd_qV ?_⟩⟩
  have fy : FYl I (dd_u (dd_u I 28 (upd (I 28) l.length x)) 27 (upd (I 27) 1 (nI (l.length + 1)))) := ((FR.refl I).u (by decide) (by decide)).u (by decide) (by decide)
  have f131 : dd_u (dd_u I 28 (upd (I 28) l.length x)) 27 (upd (I 27) 1 (nI (l.length + 1))) 131 = I 131 := by rw [dd_un (by decide), dd_un (by decide)]
  refine kk _ ⟨h1.of f131, fy.x h2, fy.s h3, ⟨?_, fun i hi => ?_⟩, by rw [f131]; exact h9⟩ fy
  · rw [dd_us, pk_us, List.length_append]; rfl
  · rw [List.length_append] at hi
    have hi : i < l.length + 1 := hi
    rw [dd_un (by decide), dd_us]
    by_cases q : i = l.length
    · subst q; rw [pk_us, getD_app]
    · rw [pk_un q, getD_app' l i (by omega)]; exact h4.2 i (by omega)
def CKL (tp : Nat → Nat) (tl : Nat) (l : List Int32) (r : LL) (I : Nat → Nat → Int32) (L : Nat → Nat → Int64) (K : Int32 → (Nat → Nat → Int32) → (Nat → Nat → Int64) → Prop) : Prop :=
  (∀ f, r = .inl f → ∀ I', I' 131 5 = nI f → FYl I I' → K 0 I' L) ∧ (∀ x q, r = .inr (x, q) → ∀ I', CZ tp tl I' q (l ++ x.2.2.2) → FYl I I' → K 1 I' L)
theorem CKL.g {tp : Nat → Nat} {tl : Nat} {l : List Int32} {r : LL} {I J : Nat → Nat → Int32} {L : Nat → Nat → Int64} {K : Int32 → (Nat → Nat → Int32) → (Nat → Nat → Int64) → Prop} (h : CKL tp tl l r I L K) (f : FYl I J) : CKL tp tl l r J L K :=
  ⟨fun a x I' h5 g => h.1 a x I' h5 (f.trans g), fun m q x I' mx g => h.2 m q x I' mx (f.trans g)⟩
theorem C_ifR {d Ln c s : Nat} {I : Nat → Nat → Int32} {L : Nat → Nat → Int64} {K : Int32 → (Nat → Nat → Int32) → (Nat → Nat → Int64) → Prop} {tp : Nat → Nat} {tl p k v : Nat} {e : Int32} {l : List Int32} {a2 a3 : Value} (hd : 50 ≤ d) (hl : tl ≤ 400) (h6 : ∀ j, tp j < 256) (hp : p ≤ tl) (h : CZ tp tl I p l) (hm : l.length + 3 ≤ p) (ck : CKL tp tl l (ifR tp tl k v e p) I L K) : dd_Rn d m_X3_readLine (86, [.ref 131, .int e, a2, a3], [], sM Ln I L c s) (dd_RI Ln c s K) := by
  obtain ⟨h1, h2, h3, h4, h5⟩ := h
  refine w_X3_readLine_86 (by omega) ?_
  refine C_isWord (tp := tp) (w := 3) (by omega) (Or.inr rfl) (by omega) h3 hl hp h1 h2 h6 ?_
  rw [bI_z, isW_c (w := 3) (w' := 61) rfl]
  cases z : isW tp tl (sk tp tl p) 61 with
  | false =>
    refine ⟨fun _ => ?_, fun y => absurd rfl y⟩
    refine C_addZ (tp := tp) (by omega) ⟨h1, h2, h3, h4, h5⟩ (by omega) fun I1 c1 f1 => ?_
    refine w_X3_readLine_119 (by omega) ?_
    have ll : (l ++ [-1]).length = l.length + 1 := by rw [List.length_append]; rfl
    refine C_addZ (tp := tp) (by omega) c1 (by omega) fun I2 c2 f2 => dd_qi ?_
    rw [List.append_assoc] at c2
    exact ck.2 _ _ (ifR_n z) I2 c2 (f1.trans f2)
  | true =>
    have s := stepW hp (by omega) z
    have l2 : (wdL 61).length = 2 := by decide
    refine ⟨fun y => (by cases y), fun _ => ?_⟩
    refine C_advance (tp := tp) (by omega) (Or.inr rfl) hl s.2 h1.1 h1.2.2.2 h2 h6 fun I1 t1 f1 => ?_
    obtain ⟨c1, c2, c3, c4, c5⟩ := CZ.a (l := l) ⟨h1, h2, h3, h4, h5⟩ f1 t1
    refine C_cond (tp := tp) (by omega) hl h6 s.2 c1 c2 c3 c4 c5 (by omega) (fun f ef I2 b5 f2 => ?_) (fun m cc q er I2 t2 l2' b5 f2 => ?_)
    · exact ⟨fun _ => dd_qi (ck.1 f (ifR_f z ef) I2 b5 ((FYl.a f1).trans f2)), fun y => absurd rfl y⟩
    · obtain ⟨a1, a2', a3', a4, a5⟩ := pC_ok hl s.2 er
      refine ⟨fun y => absurd y (by decide), fun _ => ?_⟩
      refine w_X3_readLine_119 (by omega) ?_
      have ll : (l ++ cc).length = l.length + cc.length := List.length_append
      refine C_addZ (tp := tp) (by omega) ⟨t2, f2.x c2, f2.s c3, l2', b5⟩ (by omega) fun I3 c3' f3 => dd_qi ?_
      rw [List.append_assoc] at c3'
      exact ck.2 _ _ (ifR_s z er) I3 c3' ((FYl.a f1).trans (f2.trans f3))
theorem C_lawLine {d Ln c s : Nat} {I : Nat → Nat → Int32} {L : Nat → Nat → Int64} {K : Int32 → (Nat → Nat → Int32) → (Nat → Nat → Int64) → Prop} {tp : Nat → Nat} {tl p : Nat} {l : List Int32} (hd : 52 ≤ d) (hl : tl ≤ 400) (h6 : ∀ j, tp j < 256) (hp : p ≤ tl) (h : CZ tp tl I p l) (hm : l.length ≤ p) (ck : CKL tp tl l (lnL tp tl p) I L K) : dd_Ev d m_X3_readLine [.ref 131] (sM Ln I L c s) (dd_RI Ln c s K) := by
  obtain ⟨h1, h2, h3, h4, h5⟩ := h
  unfold lnL at ck
  have w3 : (wdL 58).length = 3 ∧ (wdL 59).length = 4 ∧ (wdL 60).length = 4 := by decide
  -- far or near: the number
  have num : ∀ (k : Nat) (base : Int32) (w : Nat), w < 71 → 3 ≤ (wdL w).length → isW tp tl (sk tp tl p) w = true → CKL tp tl l (nuR tp tl k base (ek tp tl (sk tp tl p))) I L K → dd_Ev (d - 1) m_X4_advance [.ref 131] (sM Ln I L c s) (dd_RV Ln c s (fun I6 L6 => dd_Ev (d - 1) m_X4_takeNumber [.ref 131, .int 20] (sM Ln I6 L6 c s) (dd_RI Ln c s (fun x7 I7 L7 => ((x7 = (-1) → dd_RI Ln c s K (none, .int 0, sM Ln I7 L7 c s)) ∧ (¬ (x7 = (-1)) → dd_Rn d m_X3_readLine (86, [.ref 131, .int (base + x7), .int base, .int x7], [], sM Ln I7 L7 c s) (dd_RI Ln c s K))))))) := by
    intro k base w hw hw3 zw ck
    have s := stepW hp hw zw
    refine C_advance (tp := tp) (by omega) (Or.inr rfl) hl s.2 h1.1 h1.2.2.2 h2 h6 fun I1 t1 f1 => ?_
    have c1 := CZ.a (l := l) ⟨h1, h2, h3, h4, h5⟩ f1 t1
    refine C_takeNumber (tp := tp) (m := 21) (by omega) (Or.inr rfl) (by omega) rfl hl s.2 t1 c1.2.1 h6 (fun en I2 b5 f2 => ?_) (fun v en I2 t2 f2 => ?_)
    · exact ⟨fun _ => dd_qi (ck.1 _ (nuR_n en) I2 b5 ((FYl.a f1).trans (FYl.b f2))), fun y => absurd rfl y⟩
    · have hv := numA_s en
      have s2 := stepP s.2 (show ¬ kd tp tl (sk tp tl (ek tp tl (sk tp tl p))) = 0 by omega)
      refine ⟨fun y => absurd y (nmX (by omega)), fun _ => ?_⟩
      rw [nuR_s en] at ck
      exact C_ifR (by omega) hl h6 s2.2 (c1.a f2 t2) (by omega) (ck.g ((FYl.a f1).trans (FYl.a f2)))
  refine w_X3_readLine_0 (by omega) ?_
  refine C_isWord (tp := tp) (w := 0) (by omega) (Or.inr rfl) (by omega) h3 hl hp h1 h2 h6 ?_
  rw [bI_z, isW_c (w := 0) (w' := 60) rfl]
  cases zS : isW tp tl (sk tp tl p) 60 with
  | true =>
    have n1 : isW tp tl (sk tp tl p) 58 = false := by
      cases q : isW tp tl (sk tp tl p) 58 with
      | false => rfl
      | true => exact absurd (isW_x zS q) (by decide)
    have n2 : isW tp tl (sk tp tl p) 59 = false := by
      cases q : isW tp tl (sk tp tl p) 59 with
      | false => rfl
      | true => exact absurd (isW_x zS q) (by decide)
    rw [if_neg (by rw [n1]; decide), if_neg (by rw [n2]; decide), if_pos zS] at ck
    have s := stepW hp (by omega) zS
    refine ⟨fun y => (by cases y), fun _ => ?_⟩
    refine C_advance (tp := tp) (by omega) (Or.inr rfl) hl s.2 h1.1 h1.2.2.2 h2 h6 fun I1 t1 f1 => ?_
    exact C_ifR (by omega) hl h6 s.2 (CZ.a (l := l) ⟨h1, h2, h3, h4, h5⟩ f1 t1) (by omega) (ck.g (FYl.a f1))
  | false =>
  refine ⟨fun _ => ?_, fun y => absurd rfl y⟩
  refine C_isWord (tp := tp) (w := 1) (by omega) (Or.inr rfl) (by omega) h3 hl hp h1 h2 h6 ?_
  rw [bI_z, isW_c (w := 1) (w' := 58) rfl]
  cases zF : isW tp tl (sk tp tl p) 58 with
  | true =>
    rw [if_pos zF] at ck
    refine ⟨fun y => (by cases y), fun _ => ?_⟩
    refine C_isWord (tp := tp) (w := 1) (by omega) (Or.inr rfl) (by omega) h3 hl hp h1 h2 h6 ?_
    rw [bI_z, isW_c (w := 1) (w' := 58) rfl, zF]
    exact ⟨fun y => (by cases y), fun _ => num 0 1000 58 (by omega) (by omega) zF ck⟩
  | false =>
  rw [if_neg (by rw [zF]; decide)] at ck
  refine ⟨fun _ => ?_, fun y => absurd rfl y⟩
  refine C_isWord (tp := tp) (w := 2) (by omega) (Or.inr rfl) (by omega) h3 hl hp h1 h2 h6 ?_
  rw [bI_z, isW_c (w := 2) (w' := 59) rfl]
  cases zN : isW tp tl (sk tp tl p) 59 with
  | true =>
    rw [if_pos zN] at ck
    refine ⟨fun y => (by cases y), fun _ => ?_⟩
    refine C_isWord (tp := tp) (w := 1) (by omega) (Or.inr rfl) (by omega) h3 hl hp h1 h2 h6 ?_
    rw [bI_z, isW_c (w := 1) (w' := 58) rfl, zF]
    exact ⟨fun _ => num 1 1100 59 (by omega) (by omega) zN ck, fun y => absurd rfl y⟩
  | false =>
  rw [if_neg (by rw [zN]; decide), if_neg (by rw [zS]; decide)] at ck
  refine ⟨fun _ => ?_, fun y => absurd rfl y⟩
  exact C_refuse (by omega) (Or.inr rfl) h1.2.2.1 fun I' h5 f _ => ⟨Or.inl rfl, dd_qi (ck.1 _ rfl I' h5 (FYl.b f))⟩
/-- the lines of a law -/
def rdL (tp : Nat → Nat) (tl : Nat) : Nat → Nat → List LN → Nat ⊕ (List LN)
  | 0, p, _ => .inl (sk tp tl p)
  | k + 1, p, A => match lnL tp tl p with
    | .inl f => .inl f
    | .inr (x, p') => if kd tp tl (sk tp tl p') = 0 then .inr (A ++ [x]) else if isS tp tl (sk tp tl p') 59 = true then rdL tp tl k (ek tp tl (sk tp tl p')) (A ++ [x]) else .inl (sk tp tl p')
def rdB (tp : Nat → Nat) (tl : Nat) : Nat ⊕ (List LN) := if kd tp tl (sk tp tl 0) = 0 then .inr [] else rdL tp tl 12 0 []
def mcat : List LN → List (Nat × Nat)
  | [] => []
  | x :: r => x.2.2.1 ++ mcat r
def ccat : List LN → List Int32
  | [] => []
  | x :: r => x.2.2.2 ++ ccat r
theorem mcat_s : ∀ (A : List LN) (x : LN), mcat (A ++ [x]) = mcat A ++ x.2.2.1 := by
  intro A
  induction A with
  | nil => intro x; show x.2.2.1 ++ [] = _; rw [List.append_nil]; rfl
  | cons y A ih => intro x; show y.2.2.1 ++ mcat (A ++ [x]) = _; rw [ih, ← List.append_assoc]; rfl
theorem ccat_s : ∀ (A : List LN) (x : LN), ccat (A ++ [x]) = ccat A ++ x.2.2.2 := by
  intro A
  induction A with
  | nil => intro x; show x.2.2.2 ++ [] = _; rw [List.append_nil]; rfl
  | cons y A ih => intro x; show y.2.2.2 ++ ccat (A ++ [x]) = _; rw [ih, ← List.append_assoc]; rfl
def LGs (A : List LN) : Prop := ∀ x, x ∈ A → LG x
theorem C_lawLoop {K : Int32 → (Nat → Nat → Int32) → (Nat → Nat → Int64) → Prop} {d Ln c s : Nat} {L : Nat → Nat → Int64} {tp : Nat → Nat} {tl : Nat} {a1 : Int32} (hd : 54 ≤ d) (hl : tl ≤ 400) (h6 : ∀ j, tp j < 256) {I0 : Nat → Nat → Int32} (r : Nat ⊕ (List LN)) (kf : ∀ f, r = .inl f → ∀ I', I' 131 5 = nI f → FYl I0 I' → K (-1) I' L) (kt : ∀ A, r = .inr A → A.length ≤ 12 → LGs A → (ccat A).length ≤ 400 → ∀ I', CL I' (ccat A) → I' 131 5 = -1 → FYl I0 I' → K (nI A.length) I' L) : ∀ k n A p I, n = A.length → n + k = 12 → r = rdL tp tl k p A → p ≤ tl → LGs A → (ccat A).length ≤ p → CZ tp tl I p (ccat A) → FYl I0 I → dd_Rn d m_X4_readLines (38, [.ref 131, .int a1, .int 12, .int (nI (n + 1))], [], sM Ln I L c s) (dd_RI Ln c s K) := by
  intro k
  induction k with
  | zero =>
    intro n A p I hA hn er hp hg hm h fq
    refine w_X4_readLines_131_38 (by omega) ?_
    rw [li_12, nI_ltI (by omega) (by omega)]
    refine ⟨fun _ => ?_, fun z => absurd (by omega) z⟩
    exact C_refuse (by omega) (Or.inr rfl) h.1.2.2.1 fun I' h5' f _ => dd_qi (kf _ er I' h5' (fq.trans (FYl.b f)))
  | succ k ih =>
    intro n A p I hA hn er hp hg hm h fq
    refine w_X4_readLines_131_38 (by omega) ?_
    rw [li_12, nI_ltI (by omega) (by omega)]
    refine ⟨fun z => absurd z (by omega), fun _ => ?_⟩
    refine C_lawLine (tp := tp) (by omega) hl h6 hp h hm ⟨fun f e I' h5' g => ?_, fun x p' e I' h' g => ?_⟩
    · exact ⟨fun _ => dd_qi (kf f (by rw [er, rdL, e]) I' h5' (fq.trans g)), fun z => absurd rfl z⟩
    · obtain ⟨a1', a2, a3, a4, a5⟩ := lnL_ok hl hp e
      have er2 : r = if kd tp tl (sk tp tl p') = 0 then .inr (A ++ [x]) else if isS tp tl (sk tp tl p') 59 = true then rdL tp tl k (ek tp tl (sk tp tl p')) (A ++ [x]) else .inl (sk tp tl p') := by rw [er, rdL, e]
      have k4 := kd_lt tp tl (sk tp tl p')
      rw [← ccat_s] at h'
      have lA : (A ++ [x]).length = n + 1 := by rw [List.length_append, hA]; rfl
      have lc : (ccat (A ++ [x])).length = (ccat A).length + x.2.2.2.length := by rw [ccat_s, List.length_append]
      have hg' : LGs (A ++ [x]) := fun y hy => by
        rcases List.mem_append.mp hy with u | u
        · exact hg y u
        · rw [List.mem_singleton.mp u]; exact a1'
      refine ⟨fun z => absurd z (by decide), fun _ => ?_⟩
      rw [h'.1.2.1, li_0, nI_eq (by omega) (by omega)]
      refine ⟨fun z => dd_qi ?_, fun z => ?_⟩
      · rw [← lA]
        exact kt (A ++ [x]) (by rw [er2, if_pos z]) (by omega) hg' (by omega) I' h'.2.2.2.1 h'.2.2.2.2 (fq.trans g)
      refine C_takeSign (tp := tp) (v := 59) (by omega) (Or.inr rfl) (by omega) hl a3 h'.1 h'.2.1 h6 (fun ns I2 h52 f2 => ?_) (fun ns I2 t2 f2 => ?_)
      · exact ⟨fun _ => dd_qi (kf _ (by rw [er2, if_neg z, if_neg (by rw [ns]; decide)]) I2 h52 (fq.trans (g.trans (FYl.b f2)))), fun z => absurd rfl z⟩
      · refine ⟨fun z => absurd z (by decide), fun _ => ?_⟩
        have s := stepS a3 (by omega) ns
        rw [nI_1]
        exact ih (n + 1) (A ++ [x]) (ek tp tl (sk tp tl p')) I2 lA.symm (by omega) (by rw [er2, if_neg z, if_pos ns]) s.2 hg' (by omega) (h'.a f2 t2) (fq.trans (g.trans (FYl.a f2)))
theorem C_lawLines {d Ln c s : Nat} {I : Nat → Nat → Int32} {L : Nat → Nat → Int64} {K : Int32 → (Nat → Nat → Int32) → (Nat → Nat → Int64) → Prop} {tp : Nat → Nat} {tl : Nat} (hd : 55 ≤ d) (hS : STR I) (hl : tl ≤ 400) (hx : TXc tp I) (h6 : ∀ j, tp j < 256) (h27 : I 27 1 = 0) (kf : ∀ f, rdB tp tl = .inl f → ∀ I', I' 131 5 = nI f → (∀ k, k ≠ 27 → k ≠ 28 → k ≠ 131 → k ≠ 132 → I' k = I k) → K (-1) I' L) (kt : ∀ A, rdB tp tl = .inr A → A.length ≤ 12 → LGs A → (ccat A).length ≤ 400 → ∀ I', CL I' (ccat A) → I' 131 5 = -1 → (∀ k, k ≠ 27 → k ≠ 28 → k ≠ 131 → k ≠ 132 → I' k = I k) → K (nI A.length) I' L) : dd_Ev d m_X4_readLines [.ref 131, .int (nI tl), .int 12] (sM Ln I L c s) (dd_RI Ln c s K) := by
  refine w_X4_readLines_131_0 (by omega) ?_
  have em : (if (400 : Int32) < nI tl then 400 else nI tl) = nI tl := if_neg (fun z => by rw [li_400, nI_ltI (by omega) (by omega)] at z; omega)
  rw [em]
  simp only [dd_u_u]
  have hf : ∀ k, k ≠ 131 → dd_u I 131 (upd (upd (upd (I 131) 1 (nI tl)) 4 0) 5 (-1)) k = I k := fun k hk => dd_un hk
  have j1 : dd_u I 131 (upd (upd (upd (I 131) 1 (nI tl)) 4 0) 5 (-1)) 131 1 = nI tl := by rw [dd_us, pk_un (by decide), pk_un (by decide), pk_us]
  have j4 : dd_u I 131 (upd (upd (upd (I 131) 1 (nI tl)) 4 0) 5 (-1)) 131 4 = nI 0 := by rw [dd_us, pk_un (by decide), pk_us]; rfl
  have j5 : dd_u I 131 (upd (upd (upd (I 131) 1 (nI tl)) 4 0) 5 (-1)) 131 5 = -1 := by rw [dd_us, pk_us]
  generalize dd_u I 131 (upd (upd (upd (I 131) 1 (nI tl)) 4 0) 5 (-1)) = J at *
  have hxJ : TXc tp J := fun j hj => by rw [hf 129 (by decide)]; exact hx j hj
  have hSJ : STR J := hS.of fun k hk => hf k (by omega)
  refine C_advance (tp := tp) (p := 0) (by omega) (Or.inr rfl) hl (Nat.zero_le _) j1 j4 hxJ h6 fun I1 t1 f1 => ?_
  have fq := FYl.a f1
  have k4 := kd_lt tp tl (sk tp tl 0)
  have back : ∀ I', FYl I1 I' → ∀ k, k ≠ 27 → k ≠ 28 → k ≠ 131 → k ≠ 132 → I' k = I k := fun I' g k a b c d => by
    rw [(fq.trans g).1 k (by simp only [List.mem_cons, List.not_mem_nil, or_false]; omega) c, hf k c]
  have c0 : CL I1 [] := ⟨by rw [f1.1 27 List.not_mem_nil (by decide), hf 27 (by decide)]; exact h27, fun i hi => absurd hi (Nat.not_lt_zero i)⟩
  have b5 : I1 131 5 = -1 := by rw [f1.2 5 (by decide)]; exact j5
  rw [t1.2.1, li_0, nI_eq (by omega) (by omega)]
  refine ⟨fun z => ?_, fun z => ?_⟩
  · exact dd_qi (kt [] (by unfold rdB; rw [if_pos z]) (Nat.zero_le _) (fun x hx => absurd hx List.not_mem_nil) (Nat.zero_le _) I1 c0 b5 (back I1 (FYl.refl I1)))
  · exact C_lawLoop (tp := tp) (tl := tl) (I0 := I1) (by omega) hl h6 (rdB tp tl) (fun f e I' h5 g => kf f e I' h5 (back I' g)) (fun A e hA hg hc I' cl h5 g => kt A e hA hg hc I' cl h5 (back I' g)) 12 0 [] 0 I1 rfl rfl (by unfold rdB; rw [if_neg z]) (Nat.zero_le _) (fun x hx => absurd hx List.not_mem_nil) (Nat.zero_le _) ⟨t1, fq.x hxJ, fq.s hSJ, c0, b5⟩ (FYl.refl I1)
