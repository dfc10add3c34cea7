/-! Strings, and the runs of a text -/
def dd_sbt : List (List Int32) := [[115, 116, 97, 121], [102, 97, 114], [110, 101, 97, 114], [105, 102], [110, 111, 116], [115, 105, 108, 101, 110, 116], [102, 101, 114, 110, 121], [98, 111, 121], [112, 97, 114, 116], [101, 97, 114], [120], [121], [97, 119, 97, 121], [98, 97, 100], [98, 101, 97, 116], [97, 110, 100], [111, 114], [112, 97, 114, 116], [98, 111, 121], [97, 116], [115, 105, 110, 103, 115], [101, 97, 114], [116, 114, 101, 101, 115], [102, 101, 114, 110, 115], [102, 105, 114, 101], [108, 111, 117, 100], [115, 116, 114, 97, 121], [98, 101, 97, 116], [110, 105, 103, 104, 116], [116, 104, 101, 32, 116, 101, 120, 116, 32, 105, 115, 32, 119, 114, 111, 110, 103], [116, 104, 101, 114, 101, 32, 97, 114, 101, 32, 116, 119, 101, 108, 118, 101, 32, 116, 101, 120, 116, 115], [116, 104, 101, 114, 101, 32, 105, 115, 32, 110, 111, 32, 115, 117, 99, 104, 32, 99, 101, 108, 108], [97, 32, 99, 101, 108, 108, 32, 104, 97, 115, 32, 110, 111, 32, 115, 117, 99, 104, 32, 116, 104, 105, 110, 103], [116, 104, 101, 114, 101, 32, 105, 115, 32, 110, 111, 32, 115, 117, 99, 104, 32, 112, 97, 114, 116], [116, 104, 101, 114, 101, 32, 105, 115, 32, 110, 111, 32, 115, 117, 99, 104, 32, 98, 101, 97, 116], [116, 104, 101, 114, 101, 32, 105, 115, 32, 110, 111, 32, 115, 117, 99, 104, 32, 98, 111, 121], [97, 32, 98, 111, 121, 32, 104, 97, 115, 32, 110, 111, 32, 115, 117, 99, 104, 32, 116, 104, 105, 110, 103], [116, 104, 101, 32, 110, 117, 109, 98, 101, 114, 32, 105, 115, 32, 110, 111, 110, 101], [116, 104, 101, 114, 101, 32, 97, 114, 101, 32, 116, 114, 101, 101, 115], [116, 104, 101, 32, 102, 105, 114, 101, 32, 111, 114, 32, 97, 32, 98, 111, 121, 32, 105, 115, 32, 116, 104, 101, 114, 101], [104, 101, 32, 105, 115, 32, 105, 110], [116, 104, 101, 114, 101, 32, 97, 114, 101, 32, 116, 114, 101, 101, 115, 44, 32, 111, 114, 32, 116, 104, 101, 32, 102, 105, 114, 101], [116, 104, 101, 32, 116, 97, 112, 101, 32, 105, 115, 32, 110, 111, 116, 32, 116, 104, 97, 116, 44, 32, 111, 114, 32, 116, 104, 101, 114, 101, 32, 97, 114, 101, 32, 110, 111, 32, 112, 97, 114, 116, 115], [116, 104, 101, 32, 116, 97, 112, 101, 32, 105, 115, 32, 110, 111, 116, 32, 116, 104, 97, 116], [98, 111, 116, 104, 32, 97, 114, 101, 32, 111, 110, 101], [97, 32, 114, 111, 119, 32, 104, 97, 115, 32, 110, 111, 32, 115, 117, 99, 104, 32, 116, 104, 105, 110, 103], [112, 97, 114, 116], [98, 111, 121], [97, 116], [115, 105, 110, 103, 115], [101, 97, 114], [116, 114, 101, 101, 115], [102, 101, 114, 110, 115], [102, 105, 114, 101], [108, 111, 117, 100], [115, 116, 114, 97, 121], [98, 101, 97, 116], [110, 105, 103, 104, 116], [102, 97, 114], [110, 101, 97, 114], [115, 116, 97, 121], [105, 102], [110, 111, 116], [115, 105, 108, 101, 110, 116], [102, 101, 114, 110, 121], [120], [121], [97, 119, 97, 121], [98, 97, 100], [97, 110, 100], [111, 114]]
def wdL (w : Nat) : List Int32 := dd_sbt.getD w []
theorem wdL_len : ∀ w, w < 71 → dd_slen w = (wdL w).length := by decide +kernel
theorem wdL_l : ∀ w, w < 71 → (wdL w).length < 100 := by decide +kernel
theorem wdL_b : ∀ w, w < 71 → ∀ j, j < 100 → (0 ≤ (wdL w).getD j 0 ∧ (wdL w).getD j 0 < 128) ∧ ((((wdL w).getD j 0 &&& 255).toUInt32 % 65536).toInt32 = (wdL w).getD j 0) := by decide +kernel
/-- the strings as they lie in the memory -/
def STR (I : Nat → Nat → Int32) : Prop := ∀ w, w < 71 → I (1000000 + w) 1 = 0 ∧ ∀ j, I (2000000 + w) j = (wdL w).getD j 0
theorem STR.of {I I' : Nat → Nat → Int32} (h : STR I) (e : ∀ k, 1000000 ≤ k → I' k = I k) : STR I' := fun w hw => by
  rw [e _ (by omega), e _ (by omega)]; exact h w hw
theorem dd_rS (w : Nat) (hw : w < 71) : dd_rf0 (1000000 + w) 0 = (1999999 + w) + 1 := by
  have h1 : Nat.blt (1000000 + w) 164 = false := Bool.eq_false_iff.mpr (by rw [Ne, Nat.blt_eq]; omega)
  have h2 : Nat.blt (1000000 + w) 1000000 = false := Bool.eq_false_iff.mpr (by rw [Ne, Nat.blt_eq]; omega)
  have h4 : Nat.blt (1000000 + w) 1000071 = true := by rw [Nat.blt_eq]; omega
  simp only [dd_rf0, h1, h2, h4]
  show 1000000 + w + 1000000 = _
  omega
theorem dd_kT (Ln w : Nat) (hw : w < 71) : dd_sh0 Ln (1999999 + w + 1) = (51, dd_slen w) := by
  have h1 : Nat.blt (1999999 + w + 1) 164 = false := Bool.eq_false_iff.mpr (by rw [Ne, Nat.blt_eq]; omega)
  have h2 : Nat.blt (1999999 + w + 1) 1000000 = false := Bool.eq_false_iff.mpr (by rw [Ne, Nat.blt_eq]; omega)
  have h3 : Nat.blt (1999999 + w + 1) 2000000 = false := Bool.eq_false_iff.mpr (by rw [Ne, Nat.blt_eq]; omega)
  have h4 : Nat.blt (1999999 + w + 1) 3000000 = true := by rw [Nat.blt_eq]; omega
  have h5 : Nat.blt (1999999 + w + 1) 2000071 = true := by rw [Nat.blt_eq]; omega
  simp only [dd_sh0, h1, h2, h3, h4, h5]
  rw [show 1999999 + w + 1 - 2000000 = w by omega]
theorem dd_gS {Ln c s w : Nat} {I : Nat → Nat → Int32} {L : Nat → Nat → Int64} {pc i len : Nat} {kk : Int32} {ls st : List Value} (hw : w < 71) : dd_stp (pc, .getfield i, len, 50, 0, 2, kk) ls (.ref (1000000 + w) :: st) (sM Ln I L c s) = some (pc + len, ls, .ref (1999999 + w + 1) :: st, sM Ln I L c s) := by
  unfold dd_stp
  simp only [dd_kd, dd_r, dd_kS Ln w hw, dd_rS w hw]
  rfl
theorem dd_gC {Ln c s w : Nat} {I : Nat → Nat → Int32} {L : Nat → Nat → Int64} {pc i len : Nat} {kk : Int32} {ls st : List Value} (hw : w < 71) (hc : I (1000000 + w) 1 = 0) : dd_stp (pc, .getfield i, len, 50, 1, 0, kk) ls (.ref (1000000 + w) :: st) (sM Ln I L c s) = some (pc + len, ls, .int 0 :: st, sM Ln I L c s) := by
  unfold dd_stp
  simp only [dd_kd, dd_i, dd_kS Ln w hw, hc]
  rfl
theorem dd_aL {Ln c s w : Nat} {I : Nat → Nat → Int32} {L : Nat → Nat → Int64} {pc len x y z : Nat} {kk : Int32} {ls st : List Value} (hw : w < 71) : dd_stp (pc, .arraylength, len, x, y, z, kk) ls (.ref (1999999 + w + 1) :: st) (sM Ln I L c s) = some (pc + len, ls, .int (nI (dd_slen w)) :: st, sM Ln I L c s) := by
  unfold dd_stp
  simp only [dd_kd, dd_sz, dd_kT Ln w hw]
  rfl
theorem dd_bL {Ln c s w j : Nat} {I : Nat → Nat → Int32} {L : Nat → Nat → Int64} {pc len x y z : Nat} {kk : Int32} {ls st : List Value} (hw : w < 71) (hj : j < dd_slen w) (h31 : j < 2 ^ 31) : dd_stp (pc, .baload, len, x, y, z, kk) ls (.int (nI j) :: .ref (1999999 + w + 1) :: st) (sM Ln I L c s) = some (pc + len, ls, .int (I (1999999 + w + 1) j) :: st, sM Ln I L c s) := by
  unfold dd_stp
  have t : (nI j).toNatClampNeg = j := nI_clamp h31
  have p : (0 : Int32) ≤ nI j := nI_pos' h31
  simp only [dd_kd, dd_sz, dd_i, dd_kT Ln w hw, t, p, hj, true_and]
  rfl
theorem J_coder {d Ln c s : Nat} {I : Nat → Nat → Int32} {L : Nat → Nat → Int64} {K : Int32 → (Nat → Nat → Int32) → (Nat → Nat → Int64) → Prop} {w : Nat} (hd : 16 ≤ d) (hw : w < 71) (hc : I (1000000 + w) 1 = 0) (k : K 0 I L) : dd_Ev d m_J0_coder_7d493 [.ref (1000000 + w)] (sM Ln I L c s) (dd_RI Ln c s K) := by
  obtain ⟨e, rfl⟩ : ∃ e, d = e + 16 := ⟨d - 16, by omega⟩
  show dd_Rn (e + 16) m_J0_coder_7d493 (0, [.ref (1000000 + w)], [], sM Ln I L c s) _
  refine dd_Rn.go 3 (cf' := (7, [.ref (1000000 + w)], [.ref (1000000 + w)], sM Ln I L c s)) rfl ?_ (by omega)
  refine dd_Rn.one (e := (7, .getfield 15, 3, 50, 1, 0, 0)) rfl rfl (dd_gC hw hc) ?_
  exact dd_Rn.retK 1 (pc := 14) (ls := [.ref (1000000 + w)]) (st := [.int 0]) (M := sM Ln I L c s) (o := (none, .int 0, sM Ln I L c s)) rfl rfl (dd_qi k) (by omega)
theorem J_isLatin1 {d Ln c s : Nat} {I : Nat → Nat → Int32} {L : Nat → Nat → Int64} {K : Int32 → (Nat → Nat → Int32) → (Nat → Nat → Int64) → Prop} {w : Nat} (hd : 16 ≤ d) (hw : w < 71) (hc : I (1000000 + w) 1 = 0) (k : K 1 I L) : dd_Ev d m_J0_isLatin1_aae02 [.ref (1000000 + w)] (sM Ln I L c s) (dd_RI Ln c s K) := by
  obtain ⟨e, rfl⟩ : ∃ e, d = e + 16 := ⟨d - 16, by omega⟩
  show dd_Rn (e + 16) m_J0_isLatin1_aae02 (0, [.ref (1000000 + w)], [], sM Ln I L c s) _
  refine dd_Rn.go 3 (cf' := (7, [.ref (1000000 + w)], [.ref (1000000 + w)], sM Ln I L c s)) rfl ?_ (by omega)
  refine dd_Rn.one (e := (7, .getfield 15, 3, 50, 1, 0, 0)) rfl rfl (dd_gC hw hc) ?_
  exact dd_Rn.retK 3 (pc := 18) (ls := [.ref (1000000 + w)]) (st := [.int 1]) (M := sM Ln I L c s) (o := (none, .int 1, sM Ln I L c s)) rfl rfl (dd_qi k) (by omega)
theorem sar0 (n : Nat) : nI n >>> ((0 : Int32) &&& 31) = nI n := by
  have e : ((0 : Int32) &&& 31) = 0 := by decide
  rw [e]
  exact Int32.shiftRight_zero
theorem J_len {d Ln c s : Nat} {I : Nat → Nat → Int32} {L : Nat → Nat → Int64} {K : Int32 → (Nat → Nat → Int32) → (Nat → Nat → Int64) → Prop} {w : Nat} (hd : 20 ≤ d) (hw : w < 71) (hc : I (1000000 + w) 1 = 0) (k : K (nI (dd_slen w)) I L) : dd_Ev d m_J0_length_8abf5 [.ref (1000000 + w)] (sM Ln I L c s) (dd_RI Ln c s K) := by
  obtain ⟨e, rfl⟩ : ∃ e, d = e + 16 := ⟨d - 16, by omega⟩
  show dd_Rn (e + 16) m_J0_length_8abf5 (0, [.ref (1000000 + w)], [], sM Ln I L c s) _
  refine dd_Rn.go 1 (cf' := (1, [.ref (1000000 + w)], [.ref (1000000 + w)], sM Ln I L c s)) rfl ?_ (by omega)
  refine dd_Rn.one (e := (1, .getfield 9, 3, 50, 0, 2, 0)) rfl rfl (dd_gS hw) ?_
  refine dd_Rn.one (e := (4, .arraylength, 1, 0, 0, 0, 0)) rfl rfl (dd_aL hw) ?_
  refine dd_Rn.cI 1 (pc := 6) (ls := [.ref (1000000 + w)]) (st := [.ref (1000000 + w), .int (nI (dd_slen w))]) (x := m_J0_coder_7d493) (as := [.ref (1000000 + w)]) (rest := [.int (nI (dd_slen w))]) (K := fun x I' L' => x = 0 ∧ I' = I ∧ L' = L) rfl rfl rfl (dd_clS hw rfl rfl rfl rfl rfl rfl) (J_coder (by omega) hw hc ⟨rfl, rfl, rfl⟩) ?_
  rintro x' I' L' ⟨e1, e2, e3⟩
  rw [e1, e2, e3]
  refine dd_Rn.retK 1 (pc := 10) (ls := [.ref (1000000 + w)]) (st := [.int (nI (dd_slen w) >>> ((0 : Int32) &&& 31))]) (M := sM Ln I L c s) (o := (none, .int (nI (dd_slen w) >>> ((0 : Int32) &&& 31)), sM Ln I L c s)) rfl rfl ?_ (by omega)
  rw [sar0]
  exact dd_qi k
theorem nar_ch : ∀ w, w < 71 → ∀ j, j < 100 → vp_nar .char ((((wdL w).getD j 0 &&& 255).toUInt32 % 65536).toInt32) = ((((wdL w).getD j 0 &&& 255).toUInt32 % 65536).toInt32) := by decide +kernel
theorem dd_rtC {v : Int32} {M : dd_M} (h : vp_nar .char v = v) : dd_rt 5 [.int v] M = some (none, .int v, M) := by
  show (if vp_nar .char v = v then some (none, Value.int v, M) else none) = _
  rw [if_pos h]
theorem J_latin {d Ln c s : Nat} {I : Nat → Nat → Int32} {L : Nat → Nat → Int64} {K : Int32 → (Nat → Nat → Int32) → (Nat → Nat → Int64) → Prop} {w j : Nat} (hd : 20 ≤ d) (hw : w < 71) (hj : j < dd_slen w) (hc : ∀ j, I (2000000 + w) j = (wdL w).getD j 0) (k : K ((wdL w).getD j 0) I L) : dd_Ev d m_J1_charAt_3b067 [.ref (1999999 + w + 1), .int (nI j)] (sM Ln I L c s) (dd_RI Ln c s K) := by
  obtain ⟨e, rfl⟩ : ∃ e, d = e + 16 := ⟨d - 16, by omega⟩
  have l100 := wdL_l w hw
  have eL := wdL_len w hw
  show dd_Rn (e + 16) m_J1_charAt_3b067 (0, [.ref (1999999 + w + 1), .int (nI j)], [], sM Ln I L c s) _
  refine dd_Rn.go 2 (cf' := (2, [.ref (1999999 + w + 1), .int (nI j)], [.ref (1999999 + w + 1), .int (nI j)], sM Ln I L c s)) rfl ?_ (by omega)
  refine dd_Rn.one (e := (2, .arraylength, 1, 0, 0, 0, 0)) rfl rfl (dd_aL hw) ?_
  refine dd_Rn.chk 0 (c := 0 ≤ nI j ∧ nI j < nI (dd_slen w)) (A := (6, [.ref (1999999 + w + 1), .int (nI j)], [], sM Ln I L c s)) rfl ⟨nI_pos' (by omega), by rw [nI_ltI (by omega) (by omega)]; exact hj⟩ ?_ (by omega)
  refine dd_Rn.go 2 (cf' := (8, [.ref (1999999 + w + 1), .int (nI j)], [.int (nI j), .ref (1999999 + w + 1)], sM Ln I L c s)) rfl ?_ (by omega)
  refine dd_Rn.one (e := (8, .baload, 1, 0, 0, 0, 0)) rfl rfl (dd_bL hw hj (by omega)) ?_
  have e0 : I (1999999 + w + 1) j = (wdL w).getD j 0 := by rw [show 1999999 + w + 1 = 2000000 + w by omega]; exact hc j
  rw [e0]
  refine dd_Rn.go 3 (cf' := (14, [.ref (1999999 + w + 1), .int (nI j)], [.int ((((wdL w).getD j 0 &&& 255).toUInt32 % 65536).toInt32)], sM Ln I L c s)) rfl ?_ (by omega)
  refine dd_Rn.ret (o := (none, .int ((((wdL w).getD j 0 &&& 255).toUInt32 % 65536).toInt32), sM Ln I L c s)) (dd_rtC (nar_ch w hw j (by omega))) ?_
  rw [(wdL_b w hw j (by omega)).2]
  exact dd_qi k
theorem J_char {d Ln c s : Nat} {I : Nat → Nat → Int32} {L : Nat → Nat → Int64} {K : Int32 → (Nat → Nat → Int32) → (Nat → Nat → Int64) → Prop} {w j : Nat} (hd : 24 ≤ d) (hw : w < 71) (hj : j < dd_slen w) (hS : STR I) (k : K ((wdL w).getD j 0) I L) : dd_Ev d m_J0_charAt_5068e [.ref (1000000 + w), .int (nI j)] (sM Ln I L c s) (dd_RI Ln c s K) := by
  obtain ⟨e, rfl⟩ : ∃ e, d = e + 16 := ⟨d - 16, by omega⟩
  have l100 := wdL_l w hw
  have eL := wdL_len w hw
  show dd_Rn (e + 16) m_J0_charAt_5068e (0, [.ref (1000000 + w), .int (nI j)], [], sM Ln I L c s) _
  refine dd_Rn.cI 1 (pc := 1) (ls := [.ref (1000000 + w), .int (nI j)]) (st := [.ref (1000000 + w)]) (x := m_J0_isLatin1_aae02) (as := [.ref (1000000 + w)]) (rest := []) (K := fun x I' L' => x = 1 ∧ I' = I ∧ L' = L) rfl rfl rfl (dd_clS hw rfl rfl rfl rfl rfl rfl) (J_isLatin1 (by omega) hw (hS w hw).1 ⟨rfl, rfl, rfl⟩) ?_
  rintro x' I' L' ⟨e1, e2, e3⟩
  rw [e1, e2, e3]
  refine dd_Rn.go 2 (cf' := (8, [.ref (1000000 + w), .int (nI j)], [.ref (1000000 + w)], sM Ln I L c s)) rfl ?_ (by omega)
  refine dd_Rn.one (e := (8, .getfield 9, 3, 50, 0, 2, 0)) rfl rfl (dd_gS hw) ?_
  refine dd_Rn.cI 1 (pc := 12) (ls := [.ref (1000000 + w), .int (nI j)]) (st := [.int (nI j), .ref (1999999 + w + 1)]) (x := m_J1_charAt_3b067) (as := [.ref (1999999 + w + 1), .int (nI j)]) (rest := []) (K := fun x I' L' => x = (wdL w).getD j 0 ∧ I' = I ∧ L' = L) rfl rfl rfl rfl (J_latin (by omega) hw hj (hS w hw).2 ⟨rfl, rfl, rfl⟩) ?_
  rintro x' I' L' ⟨e1, e2, e3⟩
  rw [e1, e2, e3]
  refine dd_Rn.ret (o := (none, .int ((wdL w).getD j 0), sM Ln I L c s)) (dd_rtC ?_) (dd_qi k)
  have := nar_ch w hw j (by omega)
  rw [(wdL_b w hw j (by omega)).2] at this
  exact this
/-! runs of a text -/
def rnE (p : Nat → Bool) (tl : Nat) : Nat → Nat → Nat
  | 0, q => q
  | n + 1, q => if q < tl ∧ p q = true then rnE p tl n (q + 1) else q
def rn (p : Nat → Bool) (tl q : Nat) : Nat := rnE p tl (tl - q) q
theorem rn_y {p : Nat → Bool} {tl q : Nat} (h : q < tl) (hp : p q = true) : rn p tl q = rn p tl (q + 1) := by
  unfold rn
  obtain ⟨n, hn⟩ : ∃ n, tl - q = n + 1 := ⟨tl - q - 1, by omega⟩
  rw [hn, rnE, if_pos ⟨h, hp⟩, show tl - (q + 1) = n by omega]
theorem rn_n {p : Nat → Bool} {tl q : Nat} (h : ¬ (q < tl ∧ p q = true)) : rn p tl q = q := by
  unfold rn
  cases tl - q with
  | zero => rfl
  | succ n => rw [rnE, if_neg h]
/-- what holds by going through a run -/
theorem rn_ind {p : Nat → Bool} {tl : Nat} (P : Nat → Prop) (h0 : ∀ q, ¬ (q < tl ∧ p q = true) → rn p tl q = q → P q) (h1 : ∀ q, q < tl → p q = true → rn p tl q = rn p tl (q + 1) → P (q + 1) → P q) : ∀ q, P q := by
  have key : ∀ n q, tl - q = n → P q := by
    intro n
    induction n with
    | zero => intro q hq; exact h0 q (by omega) (rn_n (by omega))
    | succ n ih =>
      intro q hq
      by_cases z : q < tl ∧ p q = true
      · exact h1 q z.1 z.2 (rn_y z.1 z.2) (ih (q + 1) (by omega))
      · exact h0 q z (rn_n z)
  exact fun q => key _ q rfl
theorem rn_le {p : Nat → Bool} {tl : Nat} : ∀ q, q ≤ rn p tl q := by
  refine rn_ind _ (fun q _ e => by rw [e]; exact Nat.le_refl _) (fun q _ _ e h => by rw [e]; omega)
theorem rn_tl {p : Nat → Bool} {tl : Nat} : ∀ q, q ≤ tl → rn p tl q ≤ tl := by
  refine rn_ind (p := p) (tl := tl) _ (fun q _ e h => by rw [e]; exact h) (fun q h _ e ih _ => by rw [e]; exact ih (by omega))
theorem rn_end {p : Nat → Bool} {tl : Nat} : ∀ q, ¬ (rn p tl q < tl ∧ p (rn p tl q) = true) := by
  refine rn_ind (p := p) (tl := tl) _ (fun q h e => by rw [e]; exact h) (fun q h _ e ih => by rw [e]; exact ih)
theorem rn_all {p : Nat → Bool} {tl : Nat} : ∀ q, ∀ i, q ≤ i → i < rn p tl q → p i = true := by
  refine rn_ind (p := p) (tl := tl) _ (fun q h e i h1 h2 => by rw [e] at h2; omega) (fun q h hp e ih i h1 h2 => by
    rw [e] at h2
    by_cases z : i = q
    · subst z; exact hp
    · exact ih i (by omega) h2)
def isB (tp : Nat → Nat) (q : Nat) : Bool := decide (tp q = 32)
def isL (tp : Nat → Nat) (q : Nat) : Bool := decide (97 ≤ tp q) && decide (tp q ≤ 122)
def isD (tp : Nat → Nat) (q : Nat) : Bool := decide (48 ≤ tp q) && decide (tp q ≤ 57)
theorem isL_iff {tp : Nat → Nat} {q : Nat} : isL tp q = true ↔ 97 ≤ tp q ∧ tp q ≤ 122 := by unfold isL; rw [Bool.and_eq_true, decide_eq_true_eq, decide_eq_true_eq]
theorem isD_iff {tp : Nat → Nat} {q : Nat} : isD tp q = true ↔ 48 ≤ tp q ∧ tp q ≤ 57 := by unfold isD; rw [Bool.and_eq_true, decide_eq_true_eq, decide_eq_true_eq]
theorem isB_iff {tp : Nat → Nat} {q : Nat} : isB tp q = true ↔ tp q = 32 := by unfold isB; rw [decide_eq_true_eq]
/-- where what stands next begins; where its letters, where its figures end -/
def sk (tp : Nat → Nat) (tl q : Nat) : Nat := rn (isB tp) tl q
def le (tp : Nat → Nat) (tl q : Nat) : Nat := rn (isL tp) tl q
def de (tp : Nat → Nat) (tl q : Nat) : Nat := rn (isD tp) tl q
def kd (tp : Nat → Nat) (tl b : Nat) : Nat := if b < tl then (if isL tp b = true then 1 else if isD tp b = true then 2 else 3) else 0
def ek (tp : Nat → Nat) (tl b : Nat) : Nat := if kd tp tl b = 0 then b else if kd tp tl b = 1 then le tp tl b else if kd tp tl b = 2 then de tp tl b else b + 1
