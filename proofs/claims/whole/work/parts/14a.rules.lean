/-! Rules of the small machine: runs with an end -/
def dd_Rn (d y : Nat) (cf : dd_C) (Q : dd_O → Prop) : Prop := ∃ (n : Nat) (o : dd_O), dd_run dd_mt n d y cf = some o ∧ Q o
def dd_Ev (d y : Nat) (as : List Value) (M : dd_M) (Q : dd_O → Prop) : Prop := dd_Rn d y (0, dd_ent (dd_mt y).2.1 as, [], M) Q
/-- k steps that are no calls, no returns, no throws -/
def dd_go (y : Nat) : Nat → dd_C → Option dd_C
  | 0, cf => some cf
  | k + 1, (pc, ls, st, M) => match (dd_mt y).1 pc with
    | none => none
    | some e => match dd_how e.2.1 e.2.2.2.2.2.1 e.2.2.2.1 with
      | 0 => match dd_stp e ls st M with
        | none => none
        | some cf => dd_go y k cf
      | 3 => match dd_bi e.2.2.2.1 e.2.2.1 pc ls st M with
        | none => none
        | some cf => dd_go y k cf
      | _ => none
/-- k steps, and one more, whose answer stands as it is -/
def dd_gs (y k : Nat) (cf : dd_C) : Option dd_C := match dd_go y k cf with
  | none => none
  | some (pc, ls, st, M) => match (dd_mt y).1 pc with
    | none => none
    | some e => match dd_how e.2.1 e.2.2.2.2.2.1 e.2.2.2.1 with
      | 0 => dd_stp e ls st M
      | 3 => dd_bi e.2.2.2.1 e.2.2.1 pc ls st M
      | _ => none
theorem dd_Rn.bi {d y pc : Nat} {ls st : List Value} {M : dd_M} {e : dd_E} {cf : dd_C} {Q : dd_O → Prop} (hd : 12 ≤ d) (h1 : (dd_mt y).1 pc = some e) (h2 : dd_how e.2.1 e.2.2.2.2.2.1 e.2.2.2.1 = 3) (h3 : dd_bi e.2.2.2.1 e.2.2.1 pc ls st M = some cf) (h : dd_Rn d y cf Q) : dd_Rn d y (pc, ls, st, M) Q := by
  obtain ⟨n, o, hn, hq⟩ := h
  refine ⟨n + 1, o, ?_, hq⟩
  have hb : Nat.ble 12 d = true := Nat.ble_eq_true_of_le hd
  rw [dd_run]
  simp only [h1, h2, hb, h3]
  exact hn
theorem dd_Rn.one {d y pc : Nat} {ls st : List Value} {M : dd_M} {e : dd_E} {cf : dd_C} {Q : dd_O → Prop} (h1 : (dd_mt y).1 pc = some e) (h2 : dd_how e.2.1 e.2.2.2.2.2.1 e.2.2.2.1 = 0) (h3 : dd_stp e ls st M = some cf) (h : dd_Rn d y cf Q) : dd_Rn d y (pc, ls, st, M) Q := by
  obtain ⟨n, o, hn, hq⟩ := h
  refine ⟨n + 1, o, ?_, hq⟩
  rw [dd_run]
  simp only [h1, h2, h3]
  exact hn
theorem dd_Rn.go {d y : Nat} {Q : dd_O → Prop} (k : Nat) {cf cf' : dd_C} (h : dd_go y k cf = some cf') (r : dd_Rn d y cf' Q) (hd : 12 ≤ d := by omega) : dd_Rn d y cf Q := by
  revert cf cf'

  induction k with
  | zero =>
    intro cf cf' h r
    cases h
    exact r
  | succ k ih =>
    intro cf cf' h r
    obtain ⟨pc, ls, st, M⟩ := cf
    rw [dd_go] at h
    split at h
    · cases h
    · rename_i e he
      split at h
      · rename_i h0
        split at h
        · cases h
        · rename_i cf1 hs
          exact dd_Rn.one he h0 hs (ih h r)
      · rename_i h0
        split at h
        · cases h
        · rename_i cf1 hs
          exact dd_Rn.bi hd he h0 hs (ih h r)
      · cases h
theorem dd_Rn.gs {d y : Nat} {Q : dd_O → Prop} (k : Nat) {cf cf' : dd_C} (h : dd_gs y k cf = some cf') (r : dd_Rn d y cf' Q) (hd : 12 ≤ d := by omega) : dd_Rn d y cf Q := by
  unfold dd_gs at h
  split at h
  · cases h
  · rename_i pc ls st M hg
    refine dd_Rn.go k hg ?_ hd
    split at h
    · cases h
    · rename_i e he
      split at h
      · rename_i h0
        exact dd_Rn.one he h0 h r
      · rename_i h0
        exact dd_Rn.bi hd he h0 h r
      · cases h
theorem dd_Rn.ite {d y : Nat} {Q : dd_O → Prop} (k : Nat) {cf A B : dd_C} {c : Prop} [Decidable c] (h : dd_gs y k cf = if c then some A else some B) (ra : c → dd_Rn d y A Q) (rb : ¬ c → dd_Rn d y B Q) (hd : 12 ≤ d := by omega) : dd_Rn d y cf Q := by
  by_cases hc : c
  · rw [if_pos hc] at h
    exact dd_Rn.gs k h (ra hc) hd
  · rw [if_neg hc] at h
    exact dd_Rn.gs k h (rb hc) hd
theorem dd_Rn.chk {d y : Nat} {Q : dd_O → Prop} (k : Nat) {cf A : dd_C} {c : Prop} [Decidable c] (h : dd_gs y k cf = if c then some A else none) (hc : c) (ra : dd_Rn d y A Q) (hd : 12 ≤ d := by omega) : dd_Rn d y cf Q := by
  rw [if_pos hc] at h
  exact dd_Rn.gs k h ra hd
theorem dd_Rn.ret {d y : Nat} {Q : dd_O → Prop} {pc : Nat} {ls st : List Value} {M : dd_M} {o : dd_O} (h : (match (dd_mt y).1 pc with | none => none | some e => match dd_how e.2.1 e.2.2.2.2.2.1 e.2.2.2.1 with | 1 => dd_rt (dd_mt y).2.2.1 st M | _ => none) = some o) (hq : Q o) : dd_Rn d y (pc, ls, st, M) Q := by
  refine ⟨1, o, ?_, hq⟩
  rw [dd_run]
  split at h
  · cases h
  · rename_i e he
    split at h
    · rename_i h1
      simp only [he, h1]
      exact h
    · cases h
/-! Rules for pure runs: more fuel, more depth, calls -/
set_option maxHeartbeats 1000000 in
theorem dd_run_more (mt : Nat → dd_I) : ∀ (n d y : Nat) (cf : dd_C) (o : dd_O), dd_run mt n d y cf = some o → ∀ n' d', n ≤ n' → d ≤ d' → dd_run mt n' d' y cf = some o := by
  intro n
  induction n with
  | zero => intro d y cf o h; simp [dd_run] at h
  | succ n ih =>
    intro d y cf o h n' d' hn hd
    obtain ⟨n', rfl⟩ : ∃ k, n' = k + 1 := ⟨n' - 1, by omega⟩
    have hn : n ≤ n' := by omega
    obtain ⟨pc, ls, st, M⟩ := cf
    rw [dd_run] at h
    cases he : (mt y).1 pc with
    | none => simp only [he] at h; cases h
    | some e =>
      simp only [he] at h
      rw [dd_run]
      simp only [he]
      cases h0 : dd_how e.2.1 e.2.2.2.2.2.1 e.2.2.2.1 with
      | zero =>
        simp only [h0] at h ⊢
        cases hs : dd_stp e ls st M with
        | none => simp only [hs] at h; cases h
        | some cf =>
          simp only [hs] at h ⊢
          exact ih _ _ _ _ h n' d' hn hd
      | succ h1 =>
        cases h1 with
        | zero =>
          simp only [h0] at h ⊢
          exact h
        | succ h2 =>
          cases h2 with
          | zero =>
            simp only [h0] at h ⊢
            cases d with
            | zero => cases h
            | succ d0 =>
              obtain ⟨d', rfl⟩ : ∃ k, d' = k + 1 := ⟨d' - 1, by omega⟩
              have hd : d0 ≤ d' := by omega
              cases hcl : dd_cl mt e st M with
              | none => simp only [hcl] at h; cases h
              | some q =>
                obtain ⟨x, as, rest⟩ := q
                simp only [hcl] at h ⊢
                cases hc : dd_run mt n d0 x (0, dd_ent (mt x).2.1 as, [], M) with
                | none => simp only [hc] at h; cases h
                | some r =>
                  obtain ⟨t, v, M'⟩ := r
                  rw [ih _ _ _ _ hc n' d' hn hd]
                  simp only [hc] at h
                  cases t with
                  | none =>
                    simp only at h ⊢
                    cases hb : (Nat.beq M'.1 M.1 || (dd_okv M.1 ls && dd_okv M.1 rest)) with
                    | false => simp only [hb] at h; cases h
                    | true =>
                      simp only [hb] at h ⊢
                      exact ih _ _ _ _ h n' (d' + 1) hn (by omega)
                  | some E =>
                    simp only at h ⊢
                    cases hv : dd_isV e with
                    | false => simp only [hv] at h; cases h
                    | true =>
                      simp only [hv] at h ⊢
                      cases hh : dd_hd (mt y).2.2.2.2 pc E with
                      | none =>
                        simp only [hh] at h ⊢
                        exact h
                      | some q =>
                        obtain ⟨a, b⟩ := q
                        simp only [hh] at h ⊢
                        cases hb : Nat.beq M'.1 M.1 with
                        | false => simp only [hb] at h; cases h
                        | true =>
                          simp only [hb] at h ⊢
                          exact ih _ _ _ _ h n' (d' + 1) hn (by omega)
          | succ h3 =>
            cases h3 with
            | zero =>
              simp only [h0] at h ⊢
              cases hb : Nat.ble 12 d with
              | false => simp only [hb] at h; cases h
              | true =>
                simp only [hb] at h
                have hb1 : 12 ≤ d := Nat.le_of_ble_eq_true hb
                have hb' : Nat.ble 12 d' = true := Nat.ble_eq_true_of_le (by omega)
                simp only [hb']
                cases hs : dd_bi e.2.2.2.1 e.2.2.1 pc ls st M with
                | none => simp only [hs] at h; cases h
                | some cf =>
                  simp only [hs] at h ⊢
                  exact ih _ _ _ _ h n' d' hn hd
            | succ h4 =>
              simp only [h0] at h ⊢
              cases hb : Nat.ble 12 d with
              | false => simp only [hb] at h; cases h
              | true =>
                simp only [hb] at h
                have hb1 : 12 ≤ d := Nat.le_of_ble_eq_true hb
                have hb' : Nat.ble 12 d' = true := Nat.ble_eq_true_of_le (by omega)
                simp only [hb']
                exact h
theorem dd_Rn.deep {d d' y : Nat} {cf : dd_C} {Q : dd_O → Prop} (h : dd_Rn d y cf Q) (hd : d ≤ d') : dd_Rn d' y cf Q := by
  obtain ⟨n, o, h1, h2⟩ := h
  exact ⟨n, o, dd_run_more dd_mt _ _ _ _ _ h1 n d' (Nat.le_refl _) hd, h2⟩
theorem dd_Rn.imp {d y : Nat} {cf : dd_C} {Q Q' : dd_O → Prop} (h : dd_Rn d y cf Q) (hq : ∀ o, Q o → Q' o) : dd_Rn d y cf Q' := by
  obtain ⟨n, o, h1, h2⟩ := h
  exact ⟨n, o, h1, hq o h2⟩
/-- a method that returns: what it answers and leaves -/
def dd_Ret (K : Value → dd_M → Prop) : dd_O → Prop := fun o => o.1 = none ∧ K o.2.1 o.2.2
/-- k steps, then a call that returns -/
theorem dd_Rn.call {d y : Nat} {Q : dd_O → Prop} (k : Nat) {cf : dd_C} {pc : Nat} {ls st : List Value} {M : dd_M} {e : dd_E} {x : Nat} {as rest : List Value} {K : Value → dd_M → Prop} (h0 : dd_go y k cf = some (pc, ls, st, M)) (h1 : (dd_mt y).1 pc = some e) (h2 : dd_how e.2.1 e.2.2.2.2.2.1 e.2.2.2.1 = 2) (h3 : dd_cl dd_mt e st M = some (x, as, rest)) (hev : dd_Ev d x as M (dd_Ret K)) (kk : ∀ v M', K v M' → (Nat.beq M'.1 M.1 || (dd_okv M.1 ls && dd_okv M.1 rest)) = true ∧ dd_Rn (d + 1) y (pc + e.2.2.1, ls, dd_pu v rest, M') Q) (hd : 12 ≤ d := by omega) : dd_Rn (d + 1) y cf Q := by
  refine dd_Rn.go k h0 ?_ (by omega)
  obtain ⟨n1, ⟨t, v, M'⟩, a1, a2, a3⟩ := hev
  have a2 : t = none := a2
  subst a2
  obtain ⟨b1, n2, o, b2, b3⟩ := kk v M' a3
  refine ⟨n1 + n2 + 1, o, ?_, b3⟩
  rw [dd_run]
  simp only [h1, h2, h3, dd_run_more dd_mt _ _ _ _ _ a1 (n1 + n2) d (by omega) (Nat.le_refl _), b1]
  exact dd_run_more dd_mt _ _ _ _ _ b2 (n1 + n2) (d + 1) (by omega) (Nat.le_refl _)
/-- k steps, then a call that throws, no handler here -/
theorem dd_Rn.callX {d y : Nat} {Q : dd_O → Prop} (k : Nat) {cf : dd_C} {pc : Nat} {ls st : List Value} {M : dd_M} {e : dd_E} {x : Nat} {as rest : List Value} {E : Nat} {M' : dd_M} (h0 : dd_go y k cf = some (pc, ls, st, M)) (h1 : (dd_mt y).1 pc = some e) (h2 : dd_how e.2.1 e.2.2.2.2.2.1 e.2.2.2.1 = 2) (h3 : dd_cl dd_mt e st M = some (x, as, rest)) (h4 : dd_isV e = true) (h5 : (dd_mt y).2.2.2.2 = []) (hev : dd_Ev d x as M (fun o => o = (some E, .null, M'))) (hq : Q (some E, .null, M')) (hd : 12 ≤ d := by omega) : dd_Rn (d + 1) y cf Q := by
  refine dd_Rn.go k h0 ?_ (by omega)
  obtain ⟨n1, o, a1, rfl⟩ := hev
  refine ⟨n1 + 1, (some E, .null, M'), ?_, hq⟩
  rw [dd_run]
  simp only [h1, h2, h3, a1, h4, h5, dd_hd]
/-- k steps, then a throw of its own -/
theorem dd_Rn.throw {d y : Nat} {Q : dd_O → Prop} (k : Nat) {cf : dd_C} {pc : Nat} {ls st : List Value} {M : dd_M} {e : dd_E} (h0 : dd_go y k cf = some (pc, ls, st, M)) (h1 : (dd_mt y).1 pc = some e) (h2 : dd_how e.2.1 e.2.2.2.2.2.1 e.2.2.2.1 = 4) (hd : 12 ≤ d) (hc : Nat.ble (dd_cat st) 8 = true) (hq : Q (some (e.2.2.2.2.2.1 - 1), .null, dd_tw M)) : dd_Rn d y cf Q := by
  refine dd_Rn.go k h0 ?_ hd
  refine ⟨1, _, ?_, hq⟩
  rw [dd_run]
  have hb : Nat.ble 12 d = true := Nat.ble_eq_true_of_le hd
  simp only [h1, h2, hb, hc]
/-- k steps, then a return -/
theorem dd_Rn.retK {d y : Nat} {Q : dd_O → Prop} (k : Nat) {cf : dd_C} {pc : Nat} {ls st : List Value} {M : dd_M} {o : dd_O} (h0 : dd_go y k cf = some (pc, ls, st, M)) (h : (match (dd_mt y).1 pc with | none => none | some e => match dd_how e.2.1 e.2.2.2.2.2.1 e.2.2.2.1 with | 1 => dd_rt (dd_mt y).2.2.1 st M | _ => none) = some o) (hq : Q o) (hd : 12 ≤ d := by omega) : dd_Rn d y cf Q := dd_Rn.go k h0 (dd_Rn.ret h hq) hd
