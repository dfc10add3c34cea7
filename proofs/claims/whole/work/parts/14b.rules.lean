/-! Rules for the region lemmas: calls run through, calls by contract, throws, switches -/
abbrev tn (x : Int32) : Nat := x.toNatClampNeg
def dd_Ah (d y pc : Nat) (ls : List Value) (M : dd_M) (Q : dd_O → Prop) (E : Nat) (M' : dd_M) : Prop := match dd_hd (dd_mt y).2.2.2.2 pc E with
  | none => (dd_mt y).2.2.2.2 = [] ∧ Q (some E, .null, M')
  | some (h, k) => Nat.beq M'.1 M.1 = true ∧ dd_Rn (d + 1) y (h, dd_s1 ls k .null, [], M') Q
def dd_Af (d y : Nat) (e : dd_E) (pc : Nat) (ls rest : List Value) (M : dd_M) (Q : dd_O → Prop) (o : dd_O) : Prop := match o with
  | (none, v, M') => Nat.beq M'.1 M.1 = true ∧ dd_Rn (d + 1) y (pc + e.2.2.1, ls, dd_pu v rest, M') Q
  | (some E, _, M') => dd_isV e = true ∧ dd_Ah d y pc ls M Q E M'
theorem dd_Af.ret {d y : Nat} {e : dd_E} {pc : Nat} {ls rest : List Value} {M : dd_M} {Q : dd_O → Prop} {v : Value} {M' : dd_M} (h1 : Nat.beq M'.1 M.1 = true) (h2 : dd_Rn (d + 1) y (pc + e.2.2.1, ls, dd_pu v rest, M') Q) : dd_Af d y e pc ls rest M Q (none, v, M') := ⟨h1, h2⟩
theorem dd_Ah.no {d y pc : Nat} {ls : List Value} {M : dd_M} {Q : dd_O → Prop} {E : Nat} {M' : dd_M} (hh : (dd_mt y).2.2.2.2 = []) (hq : Q (some E, .null, M')) : dd_Ah d y pc ls M Q E M' := by
  unfold dd_Ah
  rw [hh]
  exact ⟨rfl, hq⟩
theorem dd_Ah.at {d y pc : Nat} {ls : List Value} {M : dd_M} {Q : dd_O → Prop} {E : Nat} {M' : dd_M} {h k : Nat} (hh : dd_hd (dd_mt y).2.2.2.2 pc E = some (h, k)) (hb : Nat.beq M'.1 M.1 = true) (r : dd_Rn (d + 1) y (h, dd_s1 ls k .null, [], M') Q) : dd_Ah d y pc ls M Q E M' := by
  unfold dd_Ah
  rw [hh]
  exact ⟨hb, r⟩
theorem dd_Af.thr {d y : Nat} {e : dd_E} {pc : Nat} {ls rest : List Value} {M : dd_M} {Q : dd_O → Prop} {v : Value} {E : Nat} {M' : dd_M} (hv : dd_isV e = true) (hh : (dd_mt y).2.2.2.2 = []) (_ : 0 = 0) (hq : Q (some E, .null, M')) : dd_Af d y e pc ls rest M Q (some E, v, M') := ⟨hv, dd_Ah.no hh hq⟩
/-- k steps, then a call whose outcome is looked at -/
theorem dd_Rn.sub {d y : Nat} {Q : dd_O → Prop} (k : Nat) {cf : dd_C} {pc : Nat} {ls st : List Value} {M : dd_M} {e : dd_E} {x : Nat} {as rest : List Value} (h0 : dd_go y k cf = some (pc, ls, st, M)) (h1 : (dd_mt y).1 pc = some e) (h2 : dd_how e.2.1 e.2.2.2.2.2.1 e.2.2.2.1 = 2) (h3 : dd_cl dd_mt e st M = some (x, as, rest)) (hev : dd_Ev d x as M (dd_Af d y e pc ls rest M Q)) (hd : 11 ≤ d := by omega) : dd_Rn (d + 1) y cf Q := by
  refine dd_Rn.go k h0 ?_ (by omega)
  obtain ⟨n1, ⟨t, v, M'⟩, a1, a2⟩ := hev
  cases t with
  | none =>
    obtain ⟨b0, n2, o, b2, b3⟩ := a2
    refine ⟨n1 + n2 + 1, o, ?_, b3⟩
    rw [dd_run]
    have b1 : (Nat.beq M'.1 M.1 || (dd_okv M.1 ls && dd_okv M.1 rest)) = true := by rw [b0]; rfl
    simp only [h1, h2, h3, dd_run_more dd_mt _ _ _ _ _ a1 (n1 + n2) d (by omega) (Nat.le_refl _), b1]
    exact dd_run_more dd_mt _ _ _ _ _ b2 (n1 + n2) (d + 1) (by omega) (Nat.le_refl _)
  | some E =>
    obtain ⟨c1, c2⟩ := a2
    unfold dd_Ah at c2
    split at c2
    · rename_i hh
      obtain ⟨g1, g2⟩ := c2
      refine ⟨n1 + 1, (some E, .null, M'), ?_, g2⟩
      rw [dd_run]
      simp only [h1, h2, h3, a1, c1, g1, dd_hd]
    · rename_i h k hh
      obtain ⟨g1, n2, o, g2, g3⟩ := c2
      refine ⟨n1 + n2 + 1, o, ?_, g3⟩
      rw [dd_run]
      simp only [h1, h2, h3, dd_run_more dd_mt _ _ _ _ _ a1 (n1 + n2) d (by omega) (Nat.le_refl _), c1, hh, g1]
      exact dd_run_more dd_mt _ _ _ _ _ g2 (n1 + n2) (d + 1) (by omega) (Nat.le_refl _)
/-! outcomes of calls by contract -/
def dd_RI (Ln c s : Nat) (K : Int32 → (Nat → Nat → Int32) → (Nat → Nat → Int64) → Prop) (o : dd_O) : Prop := ∃ x I L, o = (none, .int x, sM Ln I L c s) ∧ K x I L
def dd_RL (Ln c s : Nat) (K : Int64 → (Nat → Nat → Int32) → (Nat → Nat → Int64) → Prop) (o : dd_O) : Prop := ∃ x I L, o = (none, .long x, sM Ln I L c s) ∧ K x I L
def dd_RV (Ln c s : Nat) (K : (Nat → Nat → Int32) → (Nat → Nat → Int64) → Prop) (o : dd_O) : Prop := ∃ I L, o = (none, .null, sM Ln I L c s) ∧ K I L
def dd_TI (Ln c s : Nat) (K : Int32 → (Nat → Nat → Int32) → (Nat → Nat → Int64) → Prop) (T : Nat → (Nat → Nat → Int32) → (Nat → Nat → Int64) → Prop) (o : dd_O) : Prop := (∃ x I L, o = (none, .int x, sM Ln I L c s) ∧ K x I L) ∨ (∃ E I L, o = (some E, .null, sM Ln I L (c + 1) (s + 6)) ∧ T E I L)
def dd_TV (Ln c s : Nat) (K : (Nat → Nat → Int32) → (Nat → Nat → Int64) → Prop) (T : Nat → (Nat → Nat → Int32) → (Nat → Nat → Int64) → Prop) (o : dd_O) : Prop := (∃ I L, o = (none, .null, sM Ln I L c s) ∧ K I L) ∨ (∃ E I L, o = (some E, .null, sM Ln I L (c + 1) (s + 6)) ∧ T E I L)
theorem dd_Rn.cI {d y : Nat} {Q : dd_O → Prop} (k : Nat) {cf : dd_C} {pc : Nat} {ls st : List Value} {Ln c s : Nat} {I : Nat → Nat → Int32} {L : Nat → Nat → Int64} {e : dd_E} {x : Nat} {as rest : List Value} {K : Int32 → (Nat → Nat → Int32) → (Nat → Nat → Int64) → Prop} (h0 : dd_go y k cf = some (pc, ls, st, sM Ln I L c s)) (h1 : (dd_mt y).1 pc = some e) (h2 : dd_how e.2.1 e.2.2.2.2.2.1 e.2.2.2.1 = 2) (h3 : dd_cl dd_mt e st (sM Ln I L c s) = some (x, as, rest)) (hev : dd_Ev d x as (sM Ln I L c s) (dd_RI Ln c s K)) (kk : ∀ v I' L', K v I' L' → dd_Rn (d + 1) y (pc + e.2.2.1, ls, .int v :: rest, sM Ln I' L' c s) Q) (hd : 11 ≤ d := by omega) : dd_Rn (d + 1) y cf Q := by
  refine dd_Rn.sub k h0 h1 h2 h3 (dd_Rn.imp hev ?_) hd
  rintro o ⟨x, I', L', rfl, hk⟩
  exact dd_Af.ret rfl (kk x I' L' hk)
theorem dd_Rn.cL {d y : Nat} {Q : dd_O → Prop} (k : Nat) {cf : dd_C} {pc : Nat} {ls st : List Value} {Ln c s : Nat} {I : Nat → Nat → Int32} {L : Nat → Nat → Int64} {e : dd_E} {x : Nat} {as rest : List Value} {K : Int64 → (Nat → Nat → Int32) → (Nat → Nat → Int64) → Prop} (h0 : dd_go y k cf = some (pc, ls, st, sM Ln I L c s)) (h1 : (dd_mt y).1 pc = some e) (h2 : dd_how e.2.1 e.2.2.2.2.2.1 e.2.2.2.1 = 2) (h3 : dd_cl dd_mt e st (sM Ln I L c s) = some (x, as, rest)) (hev : dd_Ev d x as (sM Ln I L c s) (dd_RL Ln c s K)) (kk : ∀ v I' L', K v I' L' → dd_Rn (d + 1) y (pc + e.2.2.1, ls, .long v :: rest, sM Ln I' L' c s) Q) (hd : 11 ≤ d := by omega) : dd_Rn (d + 1) y cf Q := by
  refine dd_Rn.sub k h0 h1 h2 h3 (dd_Rn.imp hev ?_) hd
  rintro o ⟨x, I', L', rfl, hk⟩
  exact dd_Af.ret rfl (kk x I' L' hk)
theorem dd_Rn.cV {d y : Nat} {Q : dd_O → Prop} (k : Nat) {cf : dd_C} {pc : Nat} {ls st : List Value} {Ln c s : Nat} {I : Nat → Nat → Int32} {L : Nat → Nat → Int64} {e : dd_E} {x : Nat} {as rest : List Value} {K : (Nat → Nat → Int32) → (Nat → Nat → Int64) → Prop} (h0 : dd_go y k cf = some (pc, ls, st, sM Ln I L c s)) (h1 : (dd_mt y).1 pc = some e) (h2 : dd_how e.2.1 e.2.2.2.2.2.1 e.2.2.2.1 = 2) (h3 : dd_cl dd_mt e st (sM Ln I L c s) = some (x, as, rest)) (hev : dd_Ev d x as (sM Ln I L c s) (dd_RV Ln c s K)) (kk : ∀ I' L', K I' L' → dd_Rn (d + 1) y (pc + e.2.2.1, ls, rest, sM Ln I' L' c s) Q) (hd : 11 ≤ d := by omega) : dd_Rn (d + 1) y cf Q := by
  refine dd_Rn.sub k h0 h1 h2 h3 (dd_Rn.imp hev ?_) hd
  rintro o ⟨I', L', rfl, hk⟩
  exact dd_Af.ret rfl (kk I' L' hk)
theorem dd_Rn.tI {d y : Nat} {Q : dd_O → Prop} (k : Nat) {cf : dd_C} {pc : Nat} {ls st : List Value} {Ln c s : Nat} {I : Nat → Nat → Int32} {L : Nat → Nat → Int64} {e : dd_E} {x : Nat} {as rest : List Value} {K : Int32 → (Nat → Nat → Int32) → (Nat → Nat → Int64) → Prop} {T : Nat → (Nat → Nat → Int32) → (Nat → Nat → Int64) → Prop} (h0 : dd_go y k cf = some (pc, ls, st, sM Ln I L c s)) (h1 : (dd_mt y).1 pc = some e) (h2 : dd_how e.2.1 e.2.2.2.2.2.1 e.2.2.2.1 = 2) (h3 : dd_cl dd_mt e st (sM Ln I L c s) = some (x, as, rest)) (hv : dd_isV e = true) (hev : dd_Ev d x as (sM Ln I L c s) (dd_TI Ln c s K T)) (kk : ∀ v I' L', K v I' L' → dd_Rn (d + 1) y (pc + e.2.2.1, ls, .int v :: rest, sM Ln I' L' c s) Q) (kt : ∀ E I' L', T E I' L' → dd_Ah d y pc ls (sM Ln I L c s) Q E (sM Ln I' L' (c + 1) (s + 6))) (hd : 11 ≤ d := by omega) : dd_Rn (d + 1) y cf Q := by
  refine dd_Rn.sub k h0 h1 h2 h3 (dd_Rn.imp hev ?_) hd
  rintro o (⟨x, I', L', rfl, hk⟩ | ⟨E, I', L', rfl, hk⟩)
  · exact dd_Af.ret rfl (kk x I' L' hk)
  · exact ⟨hv, kt E I' L' hk⟩
theorem dd_Rn.tV {d y : Nat} {Q : dd_O → Prop} (k : Nat) {cf : dd_C} {pc : Nat} {ls st : List Value} {Ln c s : Nat} {I : Nat → Nat → Int32} {L : Nat → Nat → Int64} {e : dd_E} {x : Nat} {as rest : List Value} {K : (Nat → Nat → Int32) → (Nat → Nat → Int64) → Prop} {T : Nat → (Nat → Nat → Int32) → (Nat → Nat → Int64) → Prop} (h0 : dd_go y k cf = some (pc, ls, st, sM Ln I L c s)) (h1 : (dd_mt y).1 pc = some e) (h2 : dd_how e.2.1 e.2.2.2.2.2.1 e.2.2.2.1 = 2) (h3 : dd_cl dd_mt e st (sM Ln I L c s) = some (x, as, rest)) (hv : dd_isV e = true) (hev : dd_Ev d x as (sM Ln I L c s) (dd_TV Ln c s K T)) (kk : ∀ I' L', K I' L' → dd_Rn (d + 1) y (pc + e.2.2.1, ls, rest, sM Ln I' L' c s) Q) (kt : ∀ E I' L', T E I' L' → dd_Ah d y pc ls (sM Ln I L c s) Q E (sM Ln I' L' (c + 1) (s + 6))) (hd : 11 ≤ d := by omega) : dd_Rn (d + 1) y cf Q := by
  refine dd_Rn.sub k h0 h1 h2 h3 (dd_Rn.imp hev ?_) hd
  rintro o (⟨I', L', rfl, hk⟩ | ⟨E, I', L', rfl, hk⟩)
  · exact dd_Af.ret rfl (kk I' L' hk)
  · exact ⟨hv, kt E I' L' hk⟩
theorem dd_Rn.chkN {d y : Nat} {Q : dd_O → Prop} (k : Nat) {cf A : dd_C} {c : Prop} [Decidable c] (h : dd_gs y k cf = if c then none else some A) (hc : ¬ c) (ra : dd_Rn d y A Q) (hd : 12 ≤ d := by omega) : dd_Rn d y cf Q := by
  rw [if_neg hc] at h
  exact dd_Rn.gs k h ra hd
theorem dd_Rn.pos {d y : Nat} {Q : dd_O → Prop} (k : Nat) {cf A : dd_C} {c : Prop} [Decidable c] {R : Option dd_C} (h : dd_gs y k cf = if c then some A else R) (hc : c) (ra : dd_Rn d y A Q) (hd : 12 ≤ d := by omega) : dd_Rn d y cf Q := by
  rw [if_pos hc] at h
  exact dd_Rn.gs k h ra hd
theorem dd_Rn.lit {d y pc : Nat} {Q : dd_O → Prop} {ls st : List Value} {M : dd_M} {a v : Int32} (hv : a = v) (h : dd_Rn d y (pc, ls, .int v :: st, M) Q) : dd_Rn d y (pc, ls, .int a :: st, M) Q := by
  rw [hv]
  exact h
theorem dd_Rn.aa {d y : Nat} {Q : dd_O → Prop} (k : Nat) {cf : dd_C} {c : Prop} [Decidable c] {n i r pc : Nat} {ls st : List Value} {M : dd_M} (h : dd_gs y k cf = if c then (match dd_rf0 32 n with | 0 => none | q + 1 => some (pc, ls, .ref (q + 1) :: st, M)) else none) (hc : c) (hn : n = i) (hr : dd_rf0 32 i = r + 1) (ra : dd_Rn d y (pc, ls, .ref (r + 1) :: st, M) Q) (hd : 12 ≤ d := by omega) : dd_Rn d y cf Q := by
  rw [if_pos hc, hn, hr] at h
  exact dd_Rn.gs k h ra hd
theorem dd_Rn.retB {d y : Nat} {Q : dd_O → Prop} (k : Nat) {cf cf' : dd_C} {v : Int32} (h0 : dd_go y k cf = some cf') (h : (match (dd_mt y).1 cf'.1 with | none => none | some e => match dd_how e.2.1 e.2.2.2.2.2.1 e.2.2.2.1 with | 1 => dd_rt (dd_mt y).2.2.1 cf'.2.2.1 cf'.2.2.2 | _ => none) = if v = 0 ∨ v = 1 then some (none, .int v, cf'.2.2.2) else none) (hc : v = 0 ∨ v = 1) (hq : Q (none, .int v, cf'.2.2.2)) (hd : 12 ≤ d := by omega) : dd_Rn d y cf Q := by
  rw [if_pos hc] at h
  obtain ⟨pc, ls, st, M⟩ := cf'
  exact dd_Rn.go k h0 (dd_Rn.ret h hq) hd
theorem dd_kS (Ln w : Nat) (hw : w < 71) : dd_sh0 Ln (1000000 + w) = (50, 2) := by
  have h1 : Nat.blt (1000000 + w) 164 = false := Bool.eq_false_iff.mpr (by rw [Ne, Nat.blt_eq]; omega)
  have h2 : Nat.blt (1000000 + w) 1000000 = false := Bool.eq_false_iff.mpr (by rw [Ne, Nat.blt_eq]; omega)
  have h3 : Nat.blt (1000000 + w) 2000000 = true := by rw [Nat.blt_eq]; omega
  have h4 : Nat.blt (1000000 + w) 1000071 = true := by rw [Nat.blt_eq]; omega
  simp only [dd_sh0, h1, h2, h3, h4]
theorem dd_clS {Ln c s w : Nat} {I : Nat → Nat → Int32} {L : Nat → Nat → Int64} {pc i len x y : Nat} {kk : Int32} {st as rest : List Value} (hw : w < 71) (h1 : Nat.ble y st.length = true) (h2 : Nat.ble (dd_cat (st.drop y)) 8 = true) (h3 : (st.take y).reverse = .ref (1000000 + w) :: as) (h4 : (dd_mt x).2.2.2.1 = 50) (h5 : Nat.ble (dd_en (.ref (1000000 + w) :: as)).length (dd_mt x).2.1 = true) (h6 : st.drop y = rest) : dd_cl dd_mt (pc, .invokevirtual i, len, x, y, 0, kk) st (sM Ln I L c s) = some (x, .ref (1000000 + w) :: as, rest) := by
  have hk : Nat.beq (dd_kd (sM Ln I L c s) (1000000 + w)) (dd_mt x).2.2.2.1 = true := by
    rw [h4]
    show Nat.beq (dd_sh0 Ln (1000000 + w)).1 50 = true
    rw [dd_kS Ln w hw]
    rfl
  subst h6
  simp only [dd_cl, h1, h2, h3, hk, h5]
