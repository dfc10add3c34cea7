/-! Rules of the small machine: runs with an end -/
def dd_Rn (d y : Nat) (cf : dd_C) (Q : dd_O → Prop) : Prop := ∃ (n : Nat) (o : dd_O), dd_run dd_mt n d y cf = some o ∧ Q o
def dd_Ev (d y : Nat) (as : List Value) (M : dd_M) (Q : dd_O → Prop) : Prop := dd_Rn d y (0, dd_ent (dd_mt y).2.1 as, [], M) Q
/-- k steps that are no calls, no returns, no throws -/
def dd_go (y : Nat) : Nat → dd_C → Option dd_C
  | 0, cf => some cf
  | k + 1, (pc, ls, st, M) => match (dd_mt y).1 pc with
    | none => none
    | some e => match dd_how e.2.1 e.2.2.2.2.2.1 e.2.2.2.1 with
      | 0 => match dd_stp e ls st M with
        | none => none
        | some cf => dd_go y k cf
      | _ => none
/-- k steps, and one more, whose answer stands as it is -/
def dd_gs (y k : Nat) (cf : dd_C) : Option dd_C := match dd_go y k cf with
  | none => none
  | some (pc, ls, st, M) => match (dd_mt y).1 pc with
    | none => none
    | some e => match dd_how e.2.1 e.2.2.2.2.2.1 e.2.2.2.1 with
      | 0 => dd_stp e ls st M
      | _ => none
theorem dd_Rn.one {d y pc : Nat} {ls st : List Value} {M : dd_M} {e : dd_E} {cf : dd_C} {Q : dd_O → Prop} (h1 : (dd_mt y).1 pc = some e) (h2 : dd_how e.2.1 e.2.2.2.2.2.1 e.2.2.2.1 = 0) (h3 : dd_stp e ls st M = some cf) (h : dd_Rn d y cf Q) : dd_Rn d y (pc, ls, st, M) Q := by
  obtain ⟨n, o, hn, hq⟩ := h
  refine ⟨n + 1, o, ?_, hq⟩
  rw [dd_run]
  simp only [h1, h2, h3]
  exact hn
theorem dd_Rn.go {d y : Nat} {Q : dd_O → Prop} : ∀ (k : Nat) {cf cf' : dd_C}, dd_go y k cf = some cf' → dd_Rn d y cf' Q → dd_Rn d y cf Q := by
  intro k
  induction k with
  | zero =>
    intro cf cf' h r
    cases h
    exact r
  | succ k ih =>
    intro cf cf' h r
    obtain ⟨pc, ls, st, M⟩ := cf
    rw [dd_go] at h
    split at h
    · cases h
    · rename_i e he
      split at h
      · rename_i h0
        split at h
        · cases h
        · rename_i cf1 hs
          exact dd_Rn.one he h0 hs (ih h r)
      · cases h
theorem dd_Rn.gs {d y : Nat} {Q : dd_O → Prop} (k : Nat) {cf cf' : dd_C} (h : dd_gs y k cf = some cf') (r : dd_Rn d y cf' Q) : dd_Rn d y cf Q := by
  unfold dd_gs at h
  split at h
  · cases h
  · rename_i pc ls st M hg
    refine dd_Rn.go k hg ?_
    split at h
    · cases h
    · rename_i e he
      split at h
      · rename_i h0
        exact dd_Rn.one he h0 h r
      · cases h
theorem dd_Rn.ite {d y : Nat} {Q : dd_O → Prop} (k : Nat) {cf A B : dd_C} {c : Prop} [Decidable c] (h : dd_gs y k cf = if c then some A else some B) (ra : c → dd_Rn d y A Q) (rb : ¬ c → dd_Rn d y B Q) : dd_Rn d y cf Q := by
  by_cases hc : c
  · rw [if_pos hc] at h
    exact dd_Rn.gs k h (ra hc)
  · rw [if_neg hc] at h
    exact dd_Rn.gs k h (rb hc)
theorem dd_Rn.chk {d y : Nat} {Q : dd_O → Prop} (k : Nat) {cf A : dd_C} {c : Prop} [Decidable c] (h : dd_gs y k cf = if c then some A else none) (hc : c) (ra : dd_Rn d y A Q) : dd_Rn d y cf Q := by
  rw [if_pos hc] at h
  exact dd_Rn.gs k h ra
theorem dd_Rn.ret {d y : Nat} {Q : dd_O → Prop} {pc : Nat} {ls st : List Value} {M : dd_M} {o : dd_O} (h : (match (dd_mt y).1 pc with | none => none | some e => match dd_how e.2.1 e.2.2.2.2.2.1 e.2.2.2.1 with | 1 => dd_rt (dd_mt y).2.2.1 st M | _ => none) = some o) (hq : Q o) : dd_Rn d y (pc, ls, st, M) Q := by
  refine ⟨1, o, ?_, hq⟩
  rw [dd_run]
  split at h
  · cases h
  · rename_i e he
    split at h
    · rename_i h1
      simp only [he, h1]
      exact h
    · cases h
