theorem dd_FG.to {ad0 : Nat → Nat} {Ln : Nat} {fI : Nat → Nat → Int32} {A A1 : Nat → Prop} {s U : State} {H : Heap} {locs : List Loc} (h : dd_FG ad0 Ln fI A s s.heap) (hS : va_S A s.heap H locs) (hW : s.WarmedH U.vm) (hU : U.heap = H) (hA : ∀ q, A1 q → A q) : dd_FG ad0 Ln fI A1 U U.heap := by
  rw [hU]
  obtain ⟨h1, h2, h3, h4, h5, h6, h7, h8, h9, h10, h11, h12⟩ := h
  have hvm := hW.alike
  refine ⟨fun i t ht => ?_, ((h2.kept hS.2.1).moved hvm).narrow hA, ((h3.kept hS.2.1).moved hvm).narrow hA, ((h4.kept hS.2.1).moved hvm).narrow hA, ((h5.kept hS.2.1).moved hvm).narrow hA, (h6.kept (hS.2.1 _ h7 h8)).moved hvm, Nat.lt_of_lt_of_le h7 hS.1, fun q => h8 (hA _ q), h9.moved hvm, fun i j hi hj hij => (h10 i j hi hj hij).moved hvm, fun i hi => (h11 i hi).warmC hW, fun x hx => (h12 x hx).warmD hW⟩
  obtain ⟨g1, g2, g3, g4, g5, g6⟩ := h1 i t ht
  exact ⟨((g1.kept hS.2.1).moved hvm).narrow hA, ((g2.kept hS.2.1).moved hvm).narrow hA, ((g3.kept hS.2.1).moved hvm).narrow hA, ((g4.kept hS.2.1).moved hvm).narrow hA, g5.warm hW, g6⟩
theorem dd_KA.moved {tA : Nat → ClassId} {M : dd_M} {s U : State} (hvm : s.vm.Alike U.vm) (h : dd_KA tA M s) : dd_KA tA M U := fun k hk h100 => ⟨arrOfT_moved hvm (h k hk h100).1, va_RA.moved hvm (h k hk h100).2⟩
/-- the world at a method's entry -/
def dd_Bw (D : va_G) (Ln : Nat) (fI : Nat → Nat → Int32) (ad0 ad : Nat → Nat) (tA : Nat → ClassId) (M : dd_M) (sz : Nat) (U : State) : Prop :=
  U.heap.size = sz ∧ dd_wf M ∧ dd_FM Ln fI M ∧ va_P D vwCl (dd_ws ad tA M) U.heap ∧ va_K D vwCl [] U ∧ va_D (fun _ => True) (dd_ws ad tA M) ∧ dd_KA tA M U ∧ dd_FG ad0 Ln fI (va_A (dd_ws ad tA M) sz) U U.heap ∧ ∀ k, 1000000 ≤ k → ad k = ad0 k
/-- .. and at its end -/
def dd_En (D : va_G) (Ln : Nat) (fI : Nat → Nat → Int32) (ad0 : Nat → Nat) (A : Nat → Prop) (ad : Nat → Nat) (tA : Nat → ClassId) (M M' : dd_M) (t : State) : Prop :=
  ∃ (ad' : Nat → Nat) (tA' : Nat → ClassId), dd_Ext ad ad' tA tA' M M' ∧ dd_wf M' ∧ dd_FM Ln fI M' ∧ va_P D vwCl (dd_ws ad' tA' M') t.heap ∧ va_D A (dd_ws ad' tA' M') ∧ dd_KA tA' M' t ∧ ∀ k, 1000000 ≤ k → ad' k = ad0 k
def dd_ov (v : Value) : Option Value := match v with
  | .null => none
  | v => some v
def dd_Qo (D : va_G) (Ln : Nat) (fI : Nat → Nat → Int32) (ad0 : Nat → Nat) (A : Nat → Prop) (ad : Nat → Nat) (tA : Nat → ClassId) (M : dd_M) (o : dd_O) : Array Value → State → Outcome → State → Prop := fun _ st oc t => o.1 = none ∧ oc = .returned (dd_ov o.2.1) ∧ dd_En D Ln fI ad0 A ad tA M o.2.2 t ∧ va_F A st t
def dd_Xo (D : va_G) (Ln : Nat) (fI : Nat → Nat → Int32) (ad0 : Nat → Nat) (A : Nat → Prop) (ad : Nat → Nat) (tA : Nat → ClassId) (M : dd_M) (o : dd_O) : String → State → State → Prop := fun E st t => (∃ k, o.1 = some k ∧ E = dd_exn k) ∧ dd_En D Ln fI ad0 A ad tA M o.2.2 t ∧ va_F A st t
def dd_rm (d : Nat) (M M' : dd_M) : Room := { frames := d, cells := dd_nc M' - dd_nc M, slots := dd_ns M' - dd_ns M, locals := 60 * d }
theorem dd_toMet {l : Launch} {y : MethodName} {ws : List Cond} {rm : Room} {Pc : Array Value → State → Prop} {Qc : Array Value → State → Outcome → State → Prop} {XC : String → State → State → Prop} {mc ms : Nat} {free : Addr → Prop} (h : vx_Met l y ws rm Pc Qc XC mc ms free) (hX : ∀ E st t, ¬ XC E st t) : Met l y ws rm Pc Qc mc ms free := by
  intro p e ha hc hk s m args below hf happ hP hK
  obtain ⟨n, o, h1, h2, h3, h4⟩ := h p e ha hc hk s m args below hf happ hP hK
  refine ⟨n, o, h1, h2, h3, ?_⟩
  rcases h4 with h4 | ⟨q, -, E, ce, L, hx, -⟩
  · exact h4
  · exact absurd hx (hX _ _ _)
section DCA
variable {p : Program} {l : Launch} {e : Env} {R : Room} {s : State} {m : MethodId} {args : Array Value} {below : List Frame} {meth : Method} {c : Code} {H : Heap} {locs : List Loc} {cells slots : Nat} {Q : State → Prop}
variable {pc : Nat} {ls : Array Slot} {rest st0 : List Value} {A0 A1 : Nat → Prop} {H0 : Heap} {mc ms : Nat}
/-- a call that returns: on we go -/
theorem dd_goOn {D : va_G} {Ln : Nat} {fI : Nat → Nat → Int32} {ad0 ad : Nat → Nat} {tA : Nat → ClassId} {M : dd_M} {o : dd_O} {a : Array Value} (hr : va_Run p l e R s m args below meth c H locs cells slots mc ms (F0 m pc ls st0) rest (dd_Qo D Ln fI ad0 A1 ad tA M o a) A1) (hS : va_S A0 H0 H locs) (hA : ∀ q, A1 q → A0 q)
    (kk : ∀ (H1 : Heap) (locs1 : List Loc) (ad' : Nat → Nat) (tA' : Nat → ClassId), dd_Ext ad ad' tA tA' M o.2.2 → dd_wf o.2.2 → dd_FM Ln fI o.2.2 → va_P D vwCl (dd_ws ad' tA' o.2.2) H1 → va_D A0 (dd_ws ad' tA' o.2.2) → dd_KA tA' o.2.2 s → (∀ k, 1000000 ≤ k → ad' k = ad0 k) → va_S A0 H0 H1 locs1 → W p l e R s m args below meth c H1 locs1 (cells + mc) (slots + ms) Q (F0 m (pc + 3) ls ((dd_ov o.2.1).toList ++ rest))) : W p l e R s m args below meth c H locs cells slots Q (F0 m pc ls st0) := by
  intro T hT X
  obtain ⟨v, st₀, t, T', L, h0, X', hL, e1, e2, ⟨-, hv, ⟨ad', tA', g1, g2, g3, g4, g5, g6, g7⟩, hF⟩, st⟩ := hr T hT X
  cases hv
  obtain ⟨k1, k2, k3⟩ := vx_keep h0 e1 hS (fun q _ h => hA q h) hA hL hF
  have hal : s.vm.Alike t.vm := by rw [← e2]; exact X'.warmed.alike
  obtain ⟨t2, a1, b1⟩ := kk T'.heap (locs ++ L) ad' tA' g1 g2 g3 (by rw [e1]; exact g4) (g5.weaken (fun _ q _ h => hA _ h)) (g6.moved hal.symm) g7 k3 T' rfl X'
  exact ⟨t2, st t2 a1, b1⟩
/-- a call that throws -/
theorem dd_goX {D : va_G} {Ln : Nat} {fI : Nat → Nat → Int32} {ad0 ad : Nat → Nat} {tA : Nat → ClassId} {M : dd_M} {o : dd_O} {a : Array Value} (ho : o.1 ≠ none) (hr : vx_Run p l e R s m args below meth c H locs cells slots mc ms (F0 m pc ls st0) rest (dd_Qo D Ln fI ad0 A1 ad tA M o a) (dd_Xo D Ln fI ad0 A1 ad tA M o) A1) (hS : va_S A0 H0 H locs) (hA : ∀ q, A1 q → A0 q)
    (kk : ∀ (k : Nat) (ce : Cell) (q9 : Addr) (H1 : Heap) (locs1 : List Loc) (ad' : Nat → Nat) (tA' : Nat → ClassId), o.1 = some k → dd_Ext ad ad' tA tA' M o.2.2 → dd_wf o.2.2 → dd_FM Ln fI o.2.2 → va_P D vwCl (dd_ws ad' tA' o.2.2) H1 → va_D A0 (dd_ws ad' tA' o.2.2) → dd_KA tA' o.2.2 s → (∀ k, 1000000 ≤ k → ad' k = ad0 k) → va_S A0 H0 H1 locs1 → H1[q9]? = some ce → ce.vm = .none → s.vm.findClass (dd_exn k) = some ce.cls → vx_W p l e R s m args below meth c H1 locs1 (cells + mc) (slots + ms) Q (F0 m pc ls rest) q9) : W p l e R s m args below meth c H locs cells slots Q (F0 m pc ls st0) := by
  intro T hT X
  rcases hr T hT X with ⟨v, st₀, t, T', L, h0, X', hL, e1, e2, ⟨hn, -⟩, -⟩ | ⟨q, st₀, t, T', L, E, ce, h0, X', hL, e1, e2, ⟨⟨k, hk, hE⟩, ⟨ad', tA', g1, g2, g3, g4, g5, g6, g7⟩, hF⟩, hce, hcv, hcl, st⟩
  · exact absurd hn ho
  · obtain ⟨k1, k2, k3⟩ := vx_keep h0 e1 hS (fun q _ h => hA q h) hA hL hF
    have hal : s.vm.Alike t.vm := by rw [← e2]; exact X'.warmed.alike
    obtain ⟨t2, a1, b1⟩ := kk k ce q T'.heap (locs ++ L) ad' tA' hk g1 g2 g3 (by rw [e1]; exact g4) (g5.weaken (fun _ q _ h => hA _ h)) (g6.moved hal.symm) g7 k3 (by rw [e1]; exact hce) hcv (by rw [← hE]; exact hcl) T' rfl X'
    exact ⟨t2, st.trans a1, b1⟩
end DCA
