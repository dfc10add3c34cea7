/-! Questions: cells, notes -/
theorem ix3 (x : Int32) {n : Nat} (hn : n < 2 ^ 30) : (x < nI 0) ∨ (¬ x < nI 0 ∧ ¬ x < nI n ∧ nI n - nI 1 < x) ∨ ∃ j, j < n ∧ x = nI j := by
  rcases pk_ix x (n := n) (by omega) with h | h | h
  · exact Or.inl h
  · refine Or.inr (Or.inl ⟨?_, ?_, ?_⟩)
    · rw [Int32.le_iff_toInt_le, nI_toInt (by omega)] at h
      rw [Int32.lt_iff_toInt_lt, nI_toInt (by omega)]
      omega
    · rw [Int32.le_iff_toInt_le, nI_toInt (by omega)] at h
      rw [Int32.lt_iff_toInt_lt, nI_toInt (by omega)]
      omega
    · rw [Int32.le_iff_toInt_le, nI_toInt (by omega)] at h
      rw [Int32.lt_iff_toInt_lt, pk_sub_toInt (by omega) (by omega)]
      omega
  · exact Or.inr (Or.inr h)
theorem ix3c (x : Int32) (m : Nat) (hn : m < 2 ^ 29) : (x < nI 0) ∨ (¬ x < nI 0 ∧ ¬ x < nI (m + 1) ∧ nI m < x) ∨ ∃ j, j < m + 1 ∧ x = nI j := by
  rcases ix3 x (n := m + 1) (by omega) with h | ⟨h1, h2, h3⟩ | h
  · exact Or.inl h
  · rw [pk_sub (by omega), show m + 1 - 1 = m by omega] at h3
    exact Or.inr (Or.inl ⟨h1, h2, h3⟩)
  · exact Or.inr (Or.inr h)
theorem ixv {j n : Nat} (hj : j < n) (hn : n < 2 ^ 30) : ¬ nI n - nI 1 < nI j := by
  rw [pk_sub (by omega), nI_ltI (by omega) (by omega)]
  omega
/-- a wrapper's end: a thing was thrown -/
theorem cs1t (c s : Nat) : cs1 c s (c + 1) (s + 6) := Or.inr ⟨rfl, rfl⟩
theorem cs1r (c s : Nat) : cs1 c s c s := Or.inl ⟨rfl, rfl⟩
theorem outL {L : Nat → Nat → Int64} {v : Int64} : dd_u L 163 (vp_updL (L 163) 0 v) 163 0 = v := by rw [dd_us, pk_uLs]
theorem thr0 {I : Nat → Nat → Int32} {v : Int32} : dd_u I 148 (upd (I 148) 0 v) 148 0 = v := by rw [dd_us, pk_us]
theorem thr1 {I : Nat → Nat → Int32} {v : Int32} : dd_u I 148 (upd (upd (I 148) 0 v) 0 1) = dd_u I 148 (upd (I 148) 0 1) := by rw [upd_uu]
theorem thr2 {I : Nat → Nat → Int32} {v : Int32} : dd_u I 148 (upd (upd (I 148) 0 v) 0 2) = dd_u I 148 (upd (I 148) 0 2) := by rw [upd_uu]
/-- what the model answers where it throws -/
theorem mqT {w : Nat → Nat} {k v : Int32} {Ln c s : Nat} {I : Nat → Nat → Int32} {L : Nat → Nat → Int64} {K : Int32 → (Nat → Nat → Int32) → (Nat → Nat → Int64) → Prop} {x : Int32} (hR : RM w I) (hk : k ≠ 0) (g : ∀ I2 x2, RM w I2 → FM I I2 → I2 148 0 = k → (k = 0 → x2 = v) → K x2 I2 L) : dd_RI Ln c s K (none, .int x, sM Ln (dd_u I 148 (upd (I 148) 0 k)) L c s) := dd_qi (g _ x (hR.of (dd_un (by decide))) (FM.th I k) thr0 (fun q => absurd q hk))
theorem mqR {w : Nat → Nat} {v : Int32} {Ln c s : Nat} {I : Nat → Nat → Int32} {L : Nat → Nat → Int64} {K : Int32 → (Nat → Nat → Int32) → (Nat → Nat → Int64) → Prop} {x : Int32} (hR : RM w I) (e : x = v) (g : ∀ I2 x2, RM w I2 → FM I I2 → I2 148 0 = 0 → (((0 : Int32) = 0) → x2 = v) → K x2 I2 L) : dd_RI Ln c s K (none, .int x, sM Ln (dd_u I 148 (upd (I 148) 0 0)) L c s) := dd_qi (g _ x (hR.of (dd_un (by decide))) (FM.th I 0) thr0 (fun _ => e))
/-- an argument that counts one of n things -/
def vld (x : Int32) (n : Nat) : Prop := ¬ x < 0 ∧ x < nI n
theorem vld_i {x : Int32} {n : Nat} (hn : n < 2 ^ 30) (h : vld x n) : ∃ j, j < n ∧ x = nI j := by
  rcases ix3 x hn with q | ⟨_, q, _⟩ | q
  · exact absurd q h.1
  · exact absurd h.2 q
  · exact q
theorem vld_n {j n : Nat} (hj : j < n) (hn : n < 2 ^ 30) : vld (nI j) n := ⟨nI_pos (by omega), nI_lt hj (by omega)⟩
theorem rqC {x y : Int32} {n : Nat} {T V : Prop} (e : y = nI n) (t : ¬ vld x n → T) (v : vld x n → V) : (x < 0 → T) ∧ (¬ x < 0 → ((x < y → V) ∧ (¬ x < y → T))) := by
  subst e
  exact ⟨fun a => t (fun q => q.1 a), fun a => ⟨fun b => v ⟨a, b⟩, fun b => t (fun q => b q.2)⟩⟩
theorem rqM {x y : Int32} {n : Nat} {T V : Prop} (e : y = nI n) (hn : n < 2 ^ 30) (t : ¬ vld x n → T) (v : vld x n → V) : (x < 0 → T) ∧ (¬ x < 0 → ((y - 1 < x → T) ∧ (¬ y - 1 < x → V))) := by
  subst e
  rcases ix3 x hn with q | ⟨q1, q2, q3⟩ | ⟨j, hj, rfl⟩
  · exact ⟨fun a => t (fun z => z.1 a), fun a => absurd q a⟩
  · exact ⟨fun a => t (fun z => z.1 a), fun _ => ⟨fun _ => t (fun z => q2 z.2), fun b => absurd q3 b⟩⟩
  · exact ⟨fun a => t (fun z => z.1 a), fun _ => ⟨fun b => absurd b (ixv hj hn), fun _ => v (vld_n hj hn)⟩⟩
theorem rqN {x y : Int32} {m : Nat} {T V : Prop} (e : y = nI m) (hn : m < 2 ^ 29) (t : ¬ vld x (m + 1) → T) (v : vld x (m + 1) → V) : (x < 0 → T) ∧ (¬ x < 0 → ((y < x → T) ∧ (¬ y < x → V))) := by
  subst e
  rcases ix3c x m hn with q | ⟨q1, q2, q3⟩ | ⟨j, hj, rfl⟩
  · exact ⟨fun a => t (fun z => z.1 a), fun a => absurd q a⟩
  · exact ⟨fun a => t (fun z => z.1 a), fun _ => ⟨fun _ => t (fun z => q2 z.2), fun b => absurd q3 b⟩⟩
  · refine ⟨fun a => t (fun z => z.1 a), fun _ => ⟨fun b => absurd b ?_, fun _ => v (vld_n hj (by omega))⟩⟩
    rw [nI_ltI (by omega) (by omega)]
    omega
/-- a call of the class's face, in its own words -/
def C10 (d mX : Nat) (aX : List Value) (o : Option Nat) (v : Int32) (Ln c s : Nat) (I : Nat → Nat → Int32) (L : Nat → Nat → Int64) : Prop :=
  ∀ (K : Int32 → (Nat → Nat → Int32) → (Nat → Nat → Int64) → Prop) (T : Nat → (Nat → Nat → Int32) → (Nat → Nat → Int64) → Prop), (o = none → ∀ I1 L1, FC I I1 L L1 → K v I1 L1) → (∀ E, o = some E → T E I L) → dd_Ev d mX aX (sM Ln I L c s) (dd_TI Ln c s K T)
def cod (e1 : Nat) (o : Option Nat) : Int32 := match o with | none => 0 | some E => if E = e1 then 1 else 2
theorem WR1 {d mL mX e1 : Nat} {aL aX : List Value} {o : Option Nat} {v : Int32} {Ln c s : Nat} {I : Nat → Nat → Int32} {L : Nat → Nat → Int64} (wl : ∀ {Q : dd_O → Prop}, dd_Ev (d - 1) mX aX (sM Ln I L c s) (dd_TI Ln c s (fun x1 I1 L1 => Q (none, .int 0, sM Ln I1 (dd_u L1 163 (vp_updL (L1 163) 0 x1.toInt64)) c s)) (fun E1 I1 L1 => (E1 = e1 ∧ Q (none, .int 1, sM Ln I1 L1 (c + 1) (s + 6))))) → dd_Ev d mL aL (sM Ln I L c s) Q) (ho : o = none ∨ o = some e1) (h : C10 (d - 1) mX aX o v Ln c s I L) : CQw d mL aL (cod e1 o) v Ln c s I L := by
  intro K g
  refine wl (h _ _ (fun e I1 L1 f => ?_) (fun E e => ?_))
  · subst e
    exact dd_qJ (g _ _ _ _ (cs1r c s) (f.trans FC.out) (fun _ => outL))
  · subst e
    rcases ho with q | q
    · cases q
    · cases q
      have e : cod e1 (some e1) = 1 := if_pos rfl
      rw [e] at g
      exact ⟨rfl, dd_qJt (g I L _ _ (cs1t c s) (FC.refl I L) (fun q => absurd q (by decide)))⟩
theorem WR2 {d mL mX e1 e2 : Nat} {aL aX : List Value} {o : Option Nat} {v : Int32} {Ln c s : Nat} {I : Nat → Nat → Int32} {L : Nat → Nat → Int64} (wl : ∀ {Q : dd_O → Prop}, dd_Ev (d - 1) mX aX (sM Ln I L c s) (dd_TI Ln c s (fun x1 I1 L1 => Q (none, .int 0, sM Ln I1 (dd_u L1 163 (vp_updL (L1 163) 0 x1.toInt64)) c s)) (fun E1 I1 L1 => (E1 = e1 ∧ Q (none, .int 1, sM Ln I1 L1 (c + 1) (s + 6))) ∨ (E1 = e2 ∧ Q (none, .int 2, sM Ln I1 L1 (c + 1) (s + 6))))) → dd_Ev d mL aL (sM Ln I L c s) Q) (ne : e1 ≠ e2) (ho : o = none ∨ o = some e1 ∨ o = some e2) (h : C10 (d - 1) mX aX o v Ln c s I L) : CQw d mL aL (cod e1 o) v Ln c s I L := by
  intro K g
  refine wl (h _ _ (fun e I1 L1 f => ?_) (fun E e => ?_))
  · subst e
    exact dd_qJ (g _ _ _ _ (cs1r c s) (f.trans FC.out) (fun _ => outL))
  · subst e
    rcases ho with q | q | q
    · cases q
    · cases q
      have e : cod e1 (some e1) = 1 := if_pos rfl
      rw [e] at g
      exact Or.inl ⟨rfl, dd_qJt (g I L _ _ (cs1t c s) (FC.refl I L) (fun q => absurd q (by decide)))⟩
    · cases q
      have e : cod e1 (some e2) = 2 := if_neg (fun z => ne z.symm)
      rw [e] at g
      exact Or.inr ⟨rfl, dd_qJt (g I L _ _ (cs1t c s) (FC.refl I L) (fun q => absurd q (by decide)))⟩
theorem A_note {d Ln c s : Nat} {I0 I : Nat → Nat → Int32} {L : Nat → Nat → Int64} {w : Nat → Nat} {im : Option (Nat → Nat)} {na od : Nat} {A : Nat → Nat → Nat} {tp : Nat → Nat} {tl : Nat} {fa : Option Nat} (hd : 60 ≤ d) (h : INV I0 w im na od A tp tl fa I L) (a b : Int32) : PW d m_L_note [.ref 0, .int a, .int b, .ref 163] m_X11_note [.ref 148, .int a, .int b] I0 Ln c s I L := by
  have w0 := h.1.1.1.1
  have hC := h.2.2.1
  by_cases hv : vld a (w 0) ∧ vld b 8
  · obtain ⟨p, hp, rfl⟩ := vld_i (by omega) hv.1
    obtain ⟨j, hj, rfl⟩ := vld_i (by omega) hv.2
    refine PW.q h _ (nI (w (139 + 8 * p + j))) (WR1 (e1 := 2) (o := none) (w_L_note_0 (by omega)) (Or.inl rfl) ?_) ?_
    · intro K T g1 g2
      refine w_X10_note_0 (by omega) (rqC hC.parts (fun z => absurd hv.1 z) fun _ => rqC (n := 8) rfl (fun z => absurd hv.2 z) fun _ => ?_)
      simp (disch := omega) only [nI_add, pk_mul, tn, nI_clamp, nI_eq, nI_leI, nI_ltI, pk_sub, pk_div, pk_rem, nI_nm, nI_nm2, nI_nle1, nI_nlt1, nI_le1, nI_lt1, li_0, li_1, li_2, li_3, li_4, li_5, li_6, li_7, li_8, li_9, li_10, li_11, li_12, li_13, li_14, li_15, li_16, li_17, li_18, li_19, li_20, li_21, li_22, li_23, li_24, li_25, li_26, li_27, li_28, li_29, li_30, li_31, li_32, li_33, li_34, li_35, li_36, li_37, li_38, li_39, li_40, li_41, li_42, li_43, li_44, li_45, li_46, li_47, li_48, li_49, li_50, li_51, li_52, li_53, li_54, li_55, li_56, li_57, li_58, li_59, li_60, li_61, li_62, li_63, li_64, li_65, li_66, li_67, li_68, li_69, li_75, li_97, li_99, li_100, li_101, li_102, li_120, li_122, li_127, li_139, li_187, li_222, li_223, li_224, li_225, li_226, li_255, li_256, li_299, li_400, li_465, li_522, li_523, li_571, li_849, li_999, li_1000, li_1100, li_1371, li_1372, li_1420, li_1984, li_2220, li_5742, li_6264, li_9999, li_10000, li_12345, li_32767, li_65536, li_1000000, li_252645135, li_858993459, li_1103515245, li_1431655765, dd_us, dd_un, dd_u_u, pk_us, pk_un, Bool.true_eq_false, Bool.false_eq_true, true_and, and_true, true_implies, false_implies, implies_true, not_true_eq_false, not_false_eq_true, ne_eq, forall_const, sdm, Nat.add_zero, Nat.zero_add, sb_m1n, nmn1, nmn2, nmn3, nmn4, nmn5, nmn6, bI_0n, bI_1n, ck_and, im_t, im_f, if_pos, if_neg, hC.note]
      rw [show 139 + (p * 8 + j) = 139 + 8 * p + j by omega]
      exact dd_qT (g1 rfl I L (FC.refl I L))
    · intro I1 L1 c1 s1 h1 K g
      have hR := h1.2.1
      refine w_X11_note_0 (by omega) (rqM (hR.g (by omega)) (by omega) (fun z => absurd hv.1 z) fun _ => rqN (m := 7) rfl (by omega) (fun z => absurd hv.2 z) fun _ => ?_)
      simp (disch := omega) only [nI_add, pk_mul, tn, nI_clamp, nI_eq, nI_leI, nI_ltI, pk_sub, pk_div, pk_rem, nI_nm, nI_nm2, nI_nle1, nI_nlt1, nI_le1, nI_lt1, li_0, li_1, li_2, li_3, li_4, li_5, li_6, li_7, li_8, li_9, li_10, li_11, li_12, li_13, li_14, li_15, li_16, li_17, li_18, li_19, li_20, li_21, li_22, li_23, li_24, li_25, li_26, li_27, li_28, li_29, li_30, li_31, li_32, li_33, li_34, li_35, li_36, li_37, li_38, li_39, li_40, li_41, li_42, li_43, li_44, li_45, li_46, li_47, li_48, li_49, li_50, li_51, li_52, li_53, li_54, li_55, li_56, li_57, li_58, li_59, li_60, li_61, li_62, li_63, li_64, li_65, li_66, li_67, li_68, li_69, li_75, li_97, li_99, li_100, li_101, li_102, li_120, li_122, li_127, li_139, li_187, li_222, li_223, li_224, li_225, li_226, li_255, li_256, li_299, li_400, li_465, li_522, li_523, li_571, li_849, li_999, li_1000, li_1100, li_1371, li_1372, li_1420, li_1984, li_2220, li_5742, li_6264, li_9999, li_10000, li_12345, li_32767, li_65536, li_1000000, li_252645135, li_858993459, li_1103515245, li_1431655765, dd_us, dd_un, dd_u_u, pk_us, pk_un, Bool.true_eq_false, Bool.false_eq_true, true_and, and_true, true_implies, false_implies, implies_true, not_true_eq_false, not_false_eq_true, ne_eq, forall_const, sdm, Nat.add_zero, Nat.zero_add, sb_m1n, nmn1, nmn2, nmn3, nmn4, nmn5, nmn6, bI_0n, bI_1n, ck_and, im_t, im_f, if_pos, if_neg, hR.g]
      exact mqR hR rfl g
  · refine PW.q h _ 0 (WR1 (e1 := 2) (o := some 2) (w_L_note_0 (by omega)) (Or.inr rfl) ?_) ?_
    · intro K T g1 g2
      exact w_X10_note_0 (by omega) (rqC hC.parts (fun _ => dd_qX (g2 2 rfl)) fun z => rqC (n := 8) rfl (fun _ => dd_qX (g2 2 rfl)) fun z2 => absurd ⟨z, z2⟩ hv)
    · intro I1 L1 c1 s1 h1 K g
      have hR := h1.2.1
      refine w_X11_note_0 (by omega) ?_
      rw [dd_u_u, upd_uu]
      exact rqM (hR.g (by omega)) (by omega) (fun _ => mqT hR (by decide) g) fun z => rqN (m := 7) rfl (by omega) (fun _ => mqT hR (by decide) g) fun z2 => absurd ⟨z, z2⟩ hv
