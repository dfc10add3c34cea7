/-! Acts: the common road -/
/-- what an act may change in the class -/
def CA (d mX : Nat) (aX : List Value) (w w' : Nat → Nat) (na od : Nat) (A : Nat → Nat → Nat) (v : Int32) (Ln c s : Nat) (I : Nat → Nat → Int32) (L : Nat → Nat → Int64) : Prop :=
  ∀ (K : Int32 → (Nat → Nat → Int32) → (Nat → Nat → Int64) → Prop) (T : Nat → (Nat → Nat → Int32) → (Nat → Nat → Int64) → Prop), (∀ I1 L1 I2 L2, acC (acN na) (acO na od) (acA na A w) I1 L1 → (∀ k, k ≠ 31 → (k < 33 ∨ 129 ≤ k) → I1 k = I k) → (∀ k, k < 33 ∨ 129 ≤ k → L1 k = L k) → RC w' I2 L2 → (∀ k, (k = 0 ∨ (17 ≤ k ∧ k < 25) ∨ k = 26 ∨ (29 ≤ k ∧ k < 130) ∨ 148 ≤ k) → I2 k = I1 k) → I2 25 1 = I1 25 1 → I2 25 2 = I1 25 2 → (∀ k, 17 ≤ k → k < 129 → L2 k = L1 k) → K v I2 L2) → dd_Ev d mX aX (sM Ln I L c s) (dd_TI Ln c s K T)
def MA (d mM : Nat) (aM : List Value) (w w' : Nat → Nat) (na : Nat) (A : Nat → Nat → Nat) (v : Int32) (Ln c s : Nat) (I : Nat → Nat → Int32) (L : Nat → Nat → Int64) : Prop :=
  ∀ K : Int32 → (Nat → Nat → Int32) → (Nat → Nat → Int64) → Prop, (∀ I3 I4, acM (acN na) (acA na A w) I3 → FR 148 [153] [7, 0] I I3 → I3 148 0 = 0 → RM w' I4 → FM I3 I4 → I4 148 0 = I3 148 0 → K v I4 L) → dd_Ev d mM aM (sM Ln I L c s) (dd_RI Ln c s K)
theorem INV.acts {I0 : Nat → Nat → Int32} {w w' : Nat → Nat} {im : Option (Nat → Nat)} {na od : Nat} {A : Nat → Nat → Nat} {tp : Nat → Nat} {tl : Nat} {fa : Option Nat} {I I1 I2 I3 I4 : Nat → Nat → Int32} {L L1 L2 : Nat → Nat → Int64} {f0 : Nat → Int64} (h : INV I0 w im na od A tp tl fa I L) (g : GOOD w') (sl : sameL w w') (c1 : acC (acN na) (acO na od) (acA na A w) I1 L1) (f1 : ∀ k, k ≠ 31 → (k < 33 ∨ 129 ≤ k) → I1 k = I k) (l1 : ∀ k, k < 33 ∨ 129 ≤ k → L1 k = L k) (r2 : RC w' I2 L2) (f2 : ∀ k, (k = 0 ∨ (17 ≤ k ∧ k < 25) ∨ k = 26 ∨ (29 ≤ k ∧ k < 130) ∨ 148 ≤ k) → I2 k = I1 k) (e1 : I2 25 1 = I1 25 1) (e2 : I2 25 2 = I1 25 2) (l2 : ∀ k, 17 ≤ k → k < 129 → L2 k = L1 k) (m3 : acM (acN na) (acA na A w) I3) (f3 : FR 148 [153] [7, 0] I2 I3) (r4 : RM w' I4) (f4 : FM I3 I4) : INV I0 w' im (acN na) (acO na od) (acA na A w) tp tl fa I4 (dd_u L2 163 f0) := by
  have lo : ∀ k, k < 148 → I4 k = I2 k := fun k hk => by
    rw [f4.1 k (by omega), f3.1 k (by simp only [List.mem_cons, List.not_mem_nil, or_false]; omega) (by omega)]
  refine h.act g r4 ?_ sl ?_ ?_ ?_ ?_ ?_ ?_ ?_ ?_ ?_
  · exact r2.of (fun j h1 h2 => lo j (by omega)) (dd_un (by omega))
  · refine c1.of (fun k h1 h2 => ?_) (fun k h1 h2 => ?_)
    · rw [lo k (by omega)]; exact f2 k (by omega)
    · rw [dd_un (by omega)]; exact l2 k (by omega) (by omega)
  · refine ⟨?_, fun i hi j hj => ?_⟩
    · rw [f4.2.2.1]; exact m3.1
    · rw [f4.1 153 (by omega)]; exact m3.2 i hi j hj
  · intro k hk
    rw [f4.1 k (by omega), f3.1 k (by simp only [List.mem_cons, List.not_mem_nil, or_false]; omega) (by omega), f2 k (by omega)]
    exact f1 k (by omega) (by omega)
  · rw [lo 25 (by omega), e1, f1 25 (by omega) (by omega)]
  · rw [lo 25 (by omega), e2, f1 25 (by omega) (by omega)]
  · rw [f4.2.1, f3.2 6 (by decide), f2 148 (by omega), f1 148 (by omega) (by omega)]
  · rw [f4.2.2.2.1, f3.2 9 (by decide), f2 148 (by omega), f1 148 (by omega) (by omega)]
  · rw [f4.2.2.2.2, f3.2 14 (by decide), f2 148 (by omega), f1 148 (by omega) (by omega)]
  · rw [dd_un (by omega), l2 17 (by omega) (by omega)]; exact l1 17 (by omega)
theorem PW.act {d mL mX mM : Nat} {aL aX aM : List Value} {I0 I : Nat → Nat → Int32} {Ln c s : Nat} {L : Nat → Nat → Int64} {w w' : Nat → Nat} {im : Option (Nat → Nat)} {na od : Nat} {A : Nat → Nat → Nat} {tp : Nat → Nat} {tl : Nat} {fa : Option Nat} {v : Int32} {T : (dd_O → Prop) → Nat → (Nat → Nat → Int32) → (Nat → Nat → Int64) → Prop} (h : INV I0 w im na od A tp tl fa I L) (wl : ∀ {Q : dd_O → Prop}, dd_Ev (d - 1) mX aX (sM Ln I L c s) (dd_TI Ln c s (fun x1 I1 L1 => Q (none, .int 0, sM Ln I1 (dd_u L1 163 (vp_updL (L1 163) 0 x1.toInt64)) c s)) (T Q)) → dd_Ev d mL aL (sM Ln I L c s) Q) (g : GOOD w') (sl : sameL w w') (hC : CA (d - 1) mX aX w w' na od A v Ln c s I L) (hM : ∀ I2 L2, RM w I2 → acM na A I2 → MA d mM aM w w' na A v Ln c s I2 L2) : PW d mL aL mM aM I0 Ln c s I L := by
  intro G k
  obtain ⟨a1, a2, a3, a4, a5, a6⟩ := h.2.2.2.2.2.1
  refine wl (hC _ _ fun I1 L1 I2 L2 c1 f1 l1 r2 f2 e1 e2 l2 => ?_)
  refine dd_qJ ⟨fun k hk => by rw [f2 k (by omega), f1 k (by omega) (by omega)]; exact h.2.2.2.2.2.2.2.2 k hk, ?_⟩
  have e149 : I2 149 = I 149 := by rw [f2 149 (by omega), f1 149 (by omega) (by omega)]
  have e148 : I2 148 = I 148 := by rw [f2 148 (by omega), f1 148 (by omega) (by omega)]
  have e153 : I2 153 = I 153 := by rw [f2 153 (by omega), f1 153 (by omega) (by omega)]
  refine hM I2 _ (h.2.1.of e149) ⟨by rw [e148]; exact a3, fun i hi j hj => by rw [e153]; exact (a6 i hi).2.2.1 j hj⟩ _ fun I3 I4 m3 f3 t3 r4 f4 t4 => ?_
  exact k 0 v I4 _ c s (cs1r c s) (t4.trans t3) (fun _ => outL) ⟨w', im, acN na, acO na od, acA na A w, tp, tl, fa, h.acts g sl c1 f1 l1 r2 f2 e1 e2 l2 m3 f3 r4 f4⟩
/-- the memory of the model, then its change -/
theorem M_remA {d Ln c s : Nat} {I : Nat → Nat → Int32} {L : Nat → Nat → Int64} {K : (Nat → Nat → Int32) → (Nat → Nat → Int64) → Prop} {w : Nat → Nat} {na : Nat} {A : Nat → Nat → Nat} (hd : 28 ≤ d) (hR : RM w I) (hn : na ≤ 12) (ha : acM na A I) (kk : ∀ I', RM w I' → acM (acN na) (acA na A w) I' → FR 148 [153] [7, 0] I I' → I' 148 0 = 0 → K I' L) : dd_Ev d m_X11_remembers [.ref 148] (sM Ln (dd_u I 148 (upd (I 148) 0 0)) L c s) (dd_RV Ln c s K) := by
  refine M_remembers (w := w) (na := na) (A := A) hd (hR.of (dd_un (by decide))) hn ⟨by rw [dd_us, pk_un (by decide)]; exact ha.1, fun i hi j hj => by rw [dd_un (by decide)]; exact ha.2 i hi j hj⟩ fun I3 r3 m3 f3 => ?_
  refine kk I3 r3 m3 ((FR.trans ((FR.refl I).v (by decide)) (f3.mono (by decide) (by decide)))) ?_
  rw [f3.2 0 (by decide), dd_us, pk_us]
theorem FC.k {A : List Nat} {I I' : Nat → Nat → Int32} (h : FR 25 A [3, 4] I I') (hA : ∀ x, x ∈ A → x ∈ [1, 2, 3, 4, 5, 6, 7, 8, 9, 10, 11, 12, 13, 14, 15, 16, 27, 28, 130, 131, 132, 133, 134, 135, 136, 137, 138, 139, 140, 141, 142, 143, 144, 145, 146, 147]) : (∀ k, (k = 0 ∨ (17 ≤ k ∧ k < 25) ∨ k = 26 ∨ (29 ≤ k ∧ k < 130) ∨ 148 ≤ k) → I' k = I k) ∧ I' 25 1 = I 25 1 ∧ I' 25 2 = I 25 2 := by
  refine ⟨fun k hk => h.1 k (fun q => ?_) (by omega), h.2 1 (by decide), h.2 2 (by decide)⟩
  have := hA k q
  simp only [List.mem_cons, List.not_mem_nil, or_false] at this
  omega
/-- the class's memory, then its change -/
theorem C_remA {d Ln c s : Nat} {I : Nat → Nat → Int32} {L : Nat → Nat → Int64} {K : (Nat → Nat → Int32) → (Nat → Nat → Int64) → Prop} {I0 : Nat → Nat → Int32} {w : Nat → Nat} {im : Option (Nat → Nat)} {na od : Nat} {A : Nat → Nat → Nat} {tp : Nat → Nat} {tl : Nat} {fa : Option Nat} (hd : 29 ≤ d) (h : INV I0 w im na od A tp tl fa I L) (kk : ∀ I' L', RC w I' L' → RLw w I' → acC (acN na) (acO na od) (acA na A w) I' L' → (∀ k, k ≠ 31 → (k < 33 ∨ 129 ≤ k) → I' k = I k) → (∀ k, k < 33 ∨ 129 ≤ k → L' k = L k) → K I' L') : dd_Ev d m_X0_remember [.ref 31, .ref 1] (sM Ln I L c s) (dd_RV Ln c s K) := by
  obtain ⟨a1, a2, a3, a4, a5, a6⟩ := h.2.2.2.2.2.1
  refine C_remember (w := w) (na := na) (od := od) (A := A) hd h.2.2.1 h.1.1.1.2.2.2.2.2.2.2.2.1 a1 a2 ⟨a4, a5, fun i hi => (a6 i hi).2.2.2⟩ fun I1 L1 c1 r1 f1 l1 => ?_
  refine kk I1 L1 r1 (h.2.2.2.1.of ?_ ?_ ?_) c1 f1 l1
  · rw [f1 25 (by omega) (by omega)]
  · rw [f1 25 (by omega) (by omega)]
  · exact f1 26 (by omega) (by omega)
/-! tune -/
theorem A_tune {d Ln c s : Nat} {I0 I : Nat → Nat → Int32} {L : Nat → Nat → Int64} {w : Nat → Nat} {im : Option (Nat → Nat)} {na od : Nat} {A : Nat → Nat → Nat} {tp : Nat → Nat} {tl : Nat} {fa : Option Nat} (hd : 60 ≤ d) (h : INV I0 w im na od A tp tl fa I L) (a a2 a3 : Int32) : PW d m_L_tune [.ref 0, .int a, .int a2, .int a3, .ref 163] m_X11_tune [.ref 148, .int a, .int a2, .int a3] I0 Ln c s I L := by
  have hO := h.1.1
  have hC := h.2.2.1
  have w0 := hO.1.1
  have na12 := h.2.2.2.2.2.1.1
  by_cases hv : vld a (w 0) ∧ vld a2 8
  · by_cases hv3 : vld a3 8
    · obtain ⟨p, hp, rfl⟩ := vld_i (by omega) hv.1
      obtain ⟨j, hj, rfl⟩ := vld_i (by omega) hv.2
      obtain ⟨n, hn, rfl⟩ := vld_i (by omega) hv3
      have oU : OKW (upw w (139 + 8 * p + j) n) := okW_n hO (by omega) (by omega) (by omega)
      refine PW.act (v := nI (w (139 + 8 * p + j))) (w' := upw w (139 + 8 * p + j) n) h (w_L_tune_0 (by omega)) (GOOD_up h.1 oU (by omega) (by omega) (by omega) (by omega) (by omega) (fun b => by omega)) (sameL_upw (by omega) (by omega)) ?_ ?_
      · intro K T g
        refine w_X10_tune_0 (by omega) (rqC hC.parts (fun z => absurd hv.1 z) fun _ => rqC (n := 8) rfl (fun z => absurd hv.2 z) fun _ => rqL (m := 7) rfl (by omega) (fun z => absurd hv3 z) fun _ => ?_)
        refine C_remA (by omega) h fun I1 L1 r1 _ c1 f1 l1 => ?_
        simp (disch := omega) only [nI_add, pk_mul, tn, nI_clamp, nI_eq, nI_leI, nI_ltI, pk_sub, pk_div, pk_rem, nI_nm, nI_nm2, nI_nle1, nI_nlt1, nI_le1, nI_lt1, li_0, li_1, li_2, li_3, li_4, li_5, li_6, li_7, li_8, li_9, li_10, li_11, li_12, li_13, li_14, li_15, li_16, li_17, li_18, li_19, li_20, li_21, li_22, li_23, li_24, li_25, li_26, li_27, li_28, li_29, li_30, li_31, li_32, li_33, li_34, li_35, li_36, li_37, li_38, li_39, li_40, li_41, li_42, li_43, li_44, li_45, li_46, li_47, li_48, li_49, li_50, li_51, li_52, li_53, li_54, li_55, li_56, li_57, li_58, li_59, li_60, li_61, li_62, li_63, li_64, li_65, li_66, li_67, li_68, li_69, li_75, li_97, li_99, li_100, li_101, li_102, li_120, li_122, li_127, li_139, li_187, li_222, li_223, li_224, li_225, li_226, li_255, li_256, li_299, li_400, li_465, li_522, li_523, li_571, li_849, li_999, li_1000, li_1100, li_1371, li_1372, li_1420, li_1984, li_2220, li_5742, li_6264, li_9999, li_10000, li_12345, li_32767, li_65536, li_1000000, li_252645135, li_858993459, li_1103515245, li_1431655765, dd_us, dd_un, dd_u_u, pk_us, pk_un, Bool.true_eq_false, Bool.false_eq_true, true_and, and_true, true_implies, false_implies, implies_true, not_true_eq_false, not_false_eq_true, ne_eq, forall_const, sdm, Nat.add_zero, Nat.zero_add, sb_m1n, nmn1, nmn2, nmn3, nmn4, nmn5, nmn6, bI_0n, bI_1n, ck_and, im_t, im_f, if_pos, if_neg, r1.note]
        have e : 139 + (p * 8 + j) = 139 + 8 * p + j := by omega
        have r2 := r1.uNote (v := n) (j := p * 8 + j) (by omega)
        rw [e] at r2 ⊢
        refine dd_qT (g I1 L1 _ L1 c1 f1 l1 r2 (fun k hk => dd_un (by omega)) ?_ ?_ (fun _ _ _ => rfl))
        · rw [dd_un (by decide)]
        · rw [dd_un (by decide)]
      · intro I2 L2 hR ha K g
        refine w_X11_tune_0 (by omega) (rqM (hR.g (by omega)) (by omega) (fun z => absurd hv.1 z) fun _ => rqN (m := 7) rfl (by omega) (fun z => absurd hv.2 z) fun _ => rqN (m := 7) rfl (by omega) (fun z => absurd hv3 z) fun _ => ?_)
        refine w_X11_isNow_0 (by omega) ?_
        refine M_remA (w := w) (na := na) (A := A) (by omega) hR na12 ha fun I3 r3 m3 f3 t3 => ?_
        simp (disch := omega) only [nI_add, pk_mul, tn, nI_clamp, nI_eq, nI_leI, nI_ltI, pk_sub, pk_div, pk_rem, nI_nm, nI_nm2, nI_nle1, nI_nlt1, nI_le1, nI_lt1, li_0, li_1, li_2, li_3, li_4, li_5, li_6, li_7, li_8, li_9, li_10, li_11, li_12, li_13, li_14, li_15, li_16, li_17, li_18, li_19, li_20, li_21, li_22, li_23, li_24, li_25, li_26, li_27, li_28, li_29, li_30, li_31, li_32, li_33, li_34, li_35, li_36, li_37, li_38, li_39, li_40, li_41, li_42, li_43, li_44, li_45, li_46, li_47, li_48, li_49, li_50, li_51, li_52, li_53, li_54, li_55, li_56, li_57, li_58, li_59, li_60, li_61, li_62, li_63, li_64, li_65, li_66, li_67, li_68, li_69, li_75, li_97, li_99, li_100, li_101, li_102, li_120, li_122, li_127, li_139, li_187, li_222, li_223, li_224, li_225, li_226, li_255, li_256, li_299, li_400, li_465, li_522, li_523, li_571, li_849, li_999, li_1000, li_1100, li_1371, li_1372, li_1420, li_1984, li_2220, li_5742, li_6264, li_9999, li_10000, li_12345, li_32767, li_65536, li_1000000, li_252645135, li_858993459, li_1103515245, li_1431655765, dd_us, dd_un, dd_u_u, pk_us, pk_un, Bool.true_eq_false, Bool.false_eq_true, true_and, and_true, true_implies, false_implies, implies_true, not_true_eq_false, not_false_eq_true, ne_eq, forall_const, sdm, Nat.add_zero, Nat.zero_add, sb_m1n, nmn1, nmn2, nmn3, nmn4, nmn5, nmn6, bI_0n, bI_1n, ck_and, im_t, im_f, if_pos, if_neg, r3.g]
        refine dd_qi (dd_qi (g I3 _ m3 f3 t3 (RM.set (nu r3 _ n)) (FM.fr (A := [149]) (B := []) ((FR.refl I3).u (by decide) (by decide)) (by decide) (by decide)) (by rw [dd_un (by decide)])))
    · refine PW.q h _ 0 (WR2 (e1 := 2) (e2 := 0) (o := some 0) (w_L_tune_0 (by omega)) (by decide) (Or.inr (Or.inr rfl)) ?_) ?_
      · intro K T g1 g2
        exact w_X10_tune_0 (by omega) (rqC hC.parts (fun z => absurd hv.1 z) fun _ => rqC (n := 8) rfl (fun z => absurd hv.2 z) fun _ => rqL (m := 7) rfl (by omega) (fun _ => dd_qX (g2 0 rfl)) fun z => absurd z hv3)
      · intro I1 L1 c1 s1 h1 K g
        have hR := h1.2.1
        refine w_X11_tune_0 (by omega) ?_
        simp only [dd_u_u, upd_uu]
        exact rqM (hR.g (by omega)) (by omega) (fun z => absurd hv.1 z) fun _ => rqN (m := 7) rfl (by omega) (fun z => absurd hv.2 z) fun _ => rqN (m := 7) rfl (by omega) (fun _ => mqT hR (by decide) g) fun z => absurd z hv3
  · refine PW.q h _ 0 (WR2 (e1 := 2) (e2 := 0) (o := some 2) (w_L_tune_0 (by omega)) (by decide) (Or.inr (Or.inl rfl)) ?_) ?_
    · intro K T g1 g2
      exact w_X10_tune_0 (by omega) (rqC hC.parts (fun _ => dd_qX (g2 2 rfl)) fun z => rqC (n := 8) rfl (fun _ => dd_qX (g2 2 rfl)) fun z2 => absurd ⟨z, z2⟩ hv)
    · intro I1 L1 c1 s1 h1 K g
      have hR := h1.2.1
      refine w_X11_tune_0 (by omega) ?_
      simp only [dd_u_u, upd_uu]
      exact rqM (hR.g (by omega)) (by omega) (fun _ => mqT hR (by decide) g) fun z => rqN (m := 7) rfl (by omega) (fun _ => mqT hR (by decide) g) fun z2 => absurd ⟨z, z2⟩ hv
