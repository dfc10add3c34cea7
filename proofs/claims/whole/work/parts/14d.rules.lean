/-! a call after which one thing more may have been thrown -/
def dd_RJ (Ln c s : Nat) (K : Int32 → (Nat → Nat → Int32) → (Nat → Nat → Int64) → Nat → Nat → Prop) (o : dd_O) : Prop := ∃ x I L, (o = (none, .int x, sM Ln I L c s) ∧ K x I L c s) ∨ (o = (none, .int x, sM Ln I L (c + 1) (s + 6)) ∧ K x I L (c + 1) (s + 6))
theorem dd_Rn.cJ {d y : Nat} {Q : dd_O → Prop} (k : Nat) {cf : dd_C} {pc : Nat} {ls st : List Value} {Ln c s : Nat} {I : Nat → Nat → Int32} {L : Nat → Nat → Int64} {e : dd_E} {x : Nat} {as rest : List Value} {K : Int32 → (Nat → Nat → Int32) → (Nat → Nat → Int64) → Nat → Nat → Prop} (h0 : dd_go y k cf = some (pc, ls, st, sM Ln I L c s)) (h1 : (dd_mt y).1 pc = some e) (h2 : dd_how e.2.1 e.2.2.2.2.2.1 e.2.2.2.1 = 2) (h3 : dd_cl dd_mt e st (sM Ln I L c s) = some (x, as, rest)) (hev : dd_Ev d x as (sM Ln I L c s) (dd_RJ Ln c s K)) (kk : ∀ v I' L' c' s', K v I' L' c' s' → dd_Rn (d + 1) y (pc + e.2.2.1, ls, .int v :: rest, sM Ln I' L' c' s') Q) (hd : 11 ≤ d := by omega) : dd_Rn (d + 1) y cf Q := by
  refine dd_Rn.sub k h0 h1 h2 h3 (dd_Rn.imp hev ?_) hd
  rintro o ⟨x, I', L', ⟨rfl, hk⟩ | ⟨rfl, hk⟩⟩
  · exact dd_Af.ret rfl (kk x I' L' _ _ hk)
  · exact dd_Af.ret rfl (kk x I' L' _ _ hk)
/-- an access at a place that is a letter -/
theorem dd_Rn.ci {d y : Nat} {Q : dd_O → Prop} (B A : Int32 → dd_C) (C : Int32 → Prop) (j : Int32) (f : ∀ j, C j → dd_Rn d y (A j) Q → dd_Rn d y (B j) Q) (hc : C j) (h : dd_Rn d y (A j) Q) : dd_Rn d y (B j) Q := f j hc h
theorem dd_Rn.se {d y : Nat} {Q : dd_O → Prop} {cf : dd_C} (h : dd_Rn d y cf Q) : dd_Rn d y cf Q := h
