/-! wood: what a line says -/
theorem nmX {n : Nat} (h : n < 2 ^ 31) : ¬ nI n = -1 := by rw [nI_nm h]; exact id
abbrev LR : Type := Nat ⊕ ((Nat → Nat) × Nat)
def wrdS (tp : Nat → Nat) (tl p v : Nat) (f : Nat → LR) : LR := if isW tp tl (sk tp tl p) v = true then f (ek tp tl (sk tp tl p)) else .inl (sk tp tl p)
def numS (tp : Nat → Nat) (tl p m : Nat) (f : Nat → Nat → LR) : LR := match numA tp tl (sk tp tl p) m with
  | none => .inl (sk tp tl p)
  | some v => f v (ek tp tl (sk tp tl p))
theorem wrdS_t {tp : Nat → Nat} {tl p v : Nat} {f : Nat → LR} (h : isW tp tl (sk tp tl p) v = true) : wrdS tp tl p v f = f (ek tp tl (sk tp tl p)) := if_pos h
theorem wrdS_f {tp : Nat → Nat} {tl p v : Nat} {f : Nat → LR} (h : isW tp tl (sk tp tl p) v = false) : wrdS tp tl p v f = .inl (sk tp tl p) := if_neg (by rw [h]; decide)
theorem numS_s {tp : Nat → Nat} {tl p m v : Nat} {f : Nat → Nat → LR} (h : numA tp tl (sk tp tl p) m = some v) : numS tp tl p m f = f v (ek tp tl (sk tp tl p)) := by unfold numS; rw [h]
theorem numS_n {tp : Nat → Nat} {tl p m : Nat} {f : Nat → Nat → LR} (h : numA tp tl (sk tp tl p) m = none) : numS tp tl p m f = .inl (sk tp tl p) := by unfold numS; rw [h]
/-- one part more, one boy more -/
def ptA (w f : Nat → Nat) : Nat → (Nat → Nat) := lpf (fun i u => upw u (139 + 8 * w 0 + i) (f i)) w
def ptW (w f : Nat → Nat) : Nat → Nat := upw (ptA w f 8) 0 (w 0 + 1)
def nbU (w : Nat → Nat) (p e : Nat) : Nat → Nat := upw (upw (upw (upw w 1 (w 1 + 1)) (187 + 5 * w 1 + 1) p) (187 + 5 * w 1 + 2) e) (187 + 5 * w 1 + 4) 0
def nbW (w : Nat → Nat) (x p e : Nat) : Nat → Nat := pbw (nbU w p e) (w 1) x
def ptD (tp : Nat → Nat) (b : Nat) : Bool := allN (fun i => decide (tp (b + i) < 56)) 8
def ptR (tp : Nat → Nat) (tl : Nat) (w : Nat → Nat) (q : Nat) : LR := if de tp tl (sk tp tl q) - sk tp tl q = 8 ∧ ptD tp (sk tp tl q) = true then .inr (ptW w (fun i => tp (sk tp tl q + i) - 48), ek tp tl (sk tp tl q)) else .inl (sk tp tl q)
def byR (tp : Nat → Nat) (tl : Nat) (w : Nat → Nat) (q : Nat) : LR := wrdS tp tl q 48 fun q1 => numS tp tl q1 64 fun x q2 => if w (11 + x) = 1 then .inl (sk tp tl q1) else wrdS tp tl q2 49 fun q3 => numS tp tl q3 (w 0) fun pt q4 => wrdS tp tl q4 50 fun q5 => numS tp tl q5 16 fun e q6 => .inr (nbW w x pt e, q6)
def trR (tp : Nat → Nat) (tl : Nat) (w : Nat → Nat) (q : Nat) : LR := numS tp tl q 64 fun x q1 => if x = w 4 ∨ anyN (lostP w x) (w 1) = true then .inl (sk tp tl q) else .inr (upw w (11 + x) 1, q1)
def feR (tp : Nat → Nat) (tl : Nat) (w : Nat → Nat) (q : Nat) : LR := numS tp tl q 64 fun x q1 => numS tp tl q1 10 fun v q2 => .inr (upw w (75 + x) v, q2)
def fiR (tp : Nat → Nat) (tl : Nat) (w : Nat → Nat) (q : Nat) : LR := numS tp tl q 64 fun x q1 => if w (11 + x) = 1 then .inl (sk tp tl q) else .inr (fireA w x (w 1), q1)
def stR (tp : Nat → Nat) (tl : Nat) (w : Nat → Nat) (j m q : Nat) : LR := numS tp tl q m fun v q1 => .inr (upw w j v, q1)
def lnW (tp : Nat → Nat) (tl : Nat) (w : Nat → Nat) (p : Nat) : LR :=
  if isW tp tl (sk tp tl p) 46 = true then (if w 0 = 6 then .inl (sk tp tl p) else ptR tp tl w (ek tp tl (sk tp tl p)))
  else if isW tp tl (sk tp tl p) 47 = true then (if w 1 = 6 then .inl (sk tp tl p) else byR tp tl w (ek tp tl (sk tp tl p)))
  else if isW tp tl (sk tp tl p) 51 = true then trR tp tl w (ek tp tl (sk tp tl p))
  else if isW tp tl (sk tp tl p) 52 = true then feR tp tl w (ek tp tl (sk tp tl p))
  else if isW tp tl (sk tp tl p) 53 = true then fiR tp tl w (ek tp tl (sk tp tl p))
  else if isW tp tl (sk tp tl p) 54 = true then stR tp tl w 5 16 (ek tp tl (sk tp tl p))
  else if isW tp tl (sk tp tl p) 55 = true then stR tp tl w 6 101 (ek tp tl (sk tp tl p))
  else if isW tp tl (sk tp tl p) 56 = true then stR tp tl w 7 8 (ek tp tl (sk tp tl p))
  else if isW tp tl (sk tp tl p) 57 = true then stR tp tl w 8 1000 (ek tp tl (sk tp tl p))
  else .inl (sk tp tl p)
/-! the class -/
/-- what reading may change -/
def FQ (I I' : Nat → Nat → Int32) (L L' : Nat → Nat → Int64) : Prop := (∀ k, (k = 0 ∨ 9 ≤ k) → k ≠ 130 → I' k = I k) ∧ I' 130 1 = I 130 1 ∧ ∀ k, k ≠ 1 → L' k = L k
theorem FQ.trans {I J K : Nat → Nat → Int32} {L M N : Nat → Nat → Int64} (h : FQ I J L M) (h2 : FQ J K M N) : FQ I K L N := ⟨fun k a b => (h2.1 k a b).trans (h.1 k a b), h2.2.1.trans h.2.1, fun k a => (h2.2.2 k a).trans (h.2.2 k a)⟩
theorem FQ.b {I I' : Nat → Nat → Int32} {L : Nat → Nat → Int64} (h : FR 130 [] [2, 3, 4, 5] I I') : FQ I I' L L := ⟨fun k _ b => h.1 k List.not_mem_nil b, h.2 1 (by decide), fun _ _ => rfl⟩
theorem FQ.a {I I' : Nat → Nat → Int32} {L : Nat → Nat → Int64} (h : FR 130 [] [2, 3, 4] I I') : FQ I I' L L := FQ.b (h.mono (by decide) (by decide))
theorem FQ.w {I I' : Nat → Nat → Int32} {L L' : Nat → Nat → Int64} (h : ∀ k, k = 0 ∨ 9 ≤ k → I' k = I k) (hL : ∀ k, k ≠ 1 → L' k = L k) : FQ I I' L L' := ⟨fun k a _ => h k a, by rw [h 130 (by omega)], hL⟩
theorem FQ.s {I I' : Nat → Nat → Int32} {L L' : Nat → Nat → Int64} (f : FQ I I' L L') (h : STR I) : STR I' := h.of fun k hk => f.1 k (by omega) (by omega)
theorem FQ.x {I I' : Nat → Nat → Int32} {L L' : Nat → Nat → Int64} {tp : Nat → Nat} (f : FQ I I' L L') (h : TXc tp I) : TXc tp I' := fun j hj => by rw [f.1 129 (by omega) (by omega)]; exact h j hj
theorem RW.r {w : Nat → Nat} {I I' : Nat → Nat → Int32} {L : Nat → Nat → Int64} {B : List Nat} (h : RC w I L) (f : FR 130 [] B I I') : RC w I' L := h.of (fun j _ _ => f.1 j List.not_mem_nil (by omega)) rfl
theorem RW.fk {w : Nat → Nat} {I I' : Nat → Nat → Int32} {L : Nat → Nat → Int64} {B : List Nat} (h : RC w I L) (f : FR 131 [] B I I') : RC w I' L := h.of (fun j _ _ => f.1 j List.not_mem_nil (by omega)) rfl
/-- both ends of a line -/
def CK (tp : Nat → Nat) (tl : Nat) (r : LR) (I : Nat → Nat → Int32) (L : Nat → Nat → Int64) (K : Int32 → (Nat → Nat → Int32) → (Nat → Nat → Int64) → Prop) : Prop :=
  (∀ f, r = .inl f → ∀ I' L', I' 130 5 = nI f → FQ I I' L L' → K 0 I' L') ∧ (∀ w' p', r = .inr (w', p') → ∀ I' L', RC w' I' L' → TK tp tl 130 I' p' → I' 130 5 = I 130 5 → FQ I I' L L' → K 1 I' L')
theorem CK.g {tp : Nat → Nat} {tl : Nat} {r : LR} {I J : Nat → Nat → Int32} {L M : Nat → Nat → Int64} {K : Int32 → (Nat → Nat → Int32) → (Nat → Nat → Int64) → Prop} (h : CK tp tl r I L K) (f : FQ I J L M) (f5 : J 130 5 = I 130 5) : CK tp tl r J M K :=
  ⟨fun a e I' L' h5 g => h.1 a e I' L' h5 (f.trans g), fun w' p' e I' L' rc tk h5 g => h.2 w' p' e I' L' rc tk (h5.trans f5) (f.trans g)⟩
theorem C_openCell {d Ln c s : Nat} {I : Nat → Nat → Int32} {L : Nat → Nat → Int64} {K : Int32 → (Nat → Nat → Int32) → (Nat → Nat → Int64) → Prop} {tp : Nat → Nat} {tl p : Nat} {w : Nat → Nat} (hd : 34 ≤ d) (hl : tl ≤ 400) (hp : p ≤ tl) (ht : TK tp tl 130 I p) (hx : TXc tp I) (h6 : ∀ j, tp j < 256) (hC : RC w I L) (kf : numA tp tl (sk tp tl p) 64 = none → ∀ I', I' 130 5 = nI (sk tp tl p) → FR 130 [] [2, 3, 4, 5] I I' → K (-1) I' L) (kt : ∀ x, numA tp tl (sk tp tl p) 64 = some x → w (11 + x) = 1 → ∀ I', I' 130 5 = nI (sk tp tl p) → FR 130 [] [2, 3, 4, 5] I I' → K (-1) I' L) (ko : ∀ x, numA tp tl (sk tp tl p) 64 = some x → ¬ w (11 + x) = 1 → ∀ I', TK tp tl 130 I' (ek tp tl (sk tp tl p)) → FR 130 [] [2, 3, 4] I I' → K (nI x) I' L) : dd_Ev d m_X9_takeOpenCell [.ref 130] (sM Ln I L c s) (dd_RI Ln c s K) := by
  refine w_X9_takeOpenCell_0 (by omega) ?_
  refine C_numberUpTo (tp := tp) (m := 64) (by omega) (Or.inl rfl) (by omega) rfl hl hp ht hx h6 ?_
  cases q : numA tp tl (sk tp tl p) 64 with
  | none =>
    refine C_isOpenM (by omega) (by decide) ⟨fun _ => ?_, fun z => absurd rfl z⟩
    exact C_refuse (by omega) (Or.inl rfl) ht.2.2.1 fun I' h5 f _ => dd_qi (kf q I' h5 f)
  | some x =>
    have hx64 := numA_s q
    refine C_isOpen (w := w) (by omega) hC (show x < 2 ^ 31 by omega) ?_
    have hop : opn w x = !decide (w (11 + x) = 1) := by unfold opn; rw [decide_eq_true hx64.1]; rfl
    rw [bI_z, hop]
    by_cases z : w (11 + x) = 1
    · rw [decide_eq_true z]
      refine ⟨fun _ => ?_, fun y => absurd rfl y⟩
      exact C_refuse (by omega) (Or.inl rfl) ht.2.2.1 fun I' h5 f _ => dd_qi (kt x q z I' h5 f)
    · rw [decide_eq_false z]
      refine ⟨fun y => (by cases y), fun _ => ?_⟩
      refine C_takeNumber (tp := tp) (m := 64) (by omega) (Or.inl rfl) (by omega) rfl hl hp ht hx h6 (fun en => by rw [q] at en; cases en) (fun v en I' tk f => ?_)
      rw [q] at en
      cases en
      exact dd_qi (ko x q z I' tk f)
/-- a case of CK.1 -/
theorem CK.f {tp : Nat → Nat} {tl : Nat} {r : LR} {I I' : Nat → Nat → Int32} {L : Nat → Nat → Int64} {K : Int32 → (Nat → Nat → Int32) → (Nat → Nat → Int64) → Prop} (h : CK tp tl r I L K) {f : Nat} (e : r = .inl f) (h5 : I' 130 5 = nI f) (g : FR 130 [] [2, 3, 4, 5] I I') : K 0 I' L := h.1 f e I' L h5 (FQ.b g)
theorem C_figs {d Ln c s : Nat} {I : Nat → Nat → Int32} {L : Nat → Nat → Int64} {K : Int32 → (Nat → Nat → Int32) → (Nat → Nat → Int64) → Prop} {tp : Nat → Nat} {tl q : Nat} {w : Nat → Nat} (hd : 30 ≤ d) (hl : tl ≤ 400) (hp : q ≤ tl) (ht : TK tp tl 130 I q) (hx : TXc tp I) (h6 : ∀ j, tp j < 256) (hC : RC w I L) (h0 : w 0 < 6) (kf : ¬ (de tp tl (sk tp tl q) - sk tp tl q = 8 ∧ ptD tp (sk tp tl q) = true) → ∀ I', FR 130 [3] [] I I' → K 0 I' L) (kt : (de tp tl (sk tp tl q) - sk tp tl q = 8 ∧ ptD tp (sk tp tl q) = true) → ∀ I', FR 130 [3] [] I I' → RC (ptA w (fun i => tp (sk tp tl q + i) - 48) 8) I' L → K 1 I' L) : dd_Ev d m_X4_copyFigures [.ref 130, .ref 3, .int (nI (w 0) * 8), .int 8, .int 7] (sM Ln I L c s) (dd_RI Ln c s K) := by
  obtain ⟨t1, t2, t3, t4⟩ := ht
  have hb := sk_tl (tp := tp) hp
  generalize sk tp tl q = b at *
  have hd1 : de tp tl b ≤ tl := rn_tl (p := isD tp) (tl := tl) b hb
  have hd2 : b ≤ de tp tl b := rn_le (p := isD tp) (tl := tl) b
  have k4 := kd_lt tp tl b
  have e8 : nI (w 0) * 8 = nI (8 * w 0) := by rw [li_8, pk_mul, Nat.mul_comm]
  rw [e8]
  refine w_X4_copyFigures_0 (by omega) ?_
  rw [t2, li_2, nI_eq (by omega) (by omega), t3, t4]
  refine ⟨fun z => ?_, fun z => dd_qi (kf (fun y => z (kd2.mpr (by omega))) I (FR.refl I))⟩
  have eE : ek tp tl b = de tp tl b := by unfold ek; rw [z]; rfl
  rw [eE, pk_sub (by omega), li_8, nI_eq (by omega) (by omega), nI_add, li_48, nI_leI (by omega) (by omega)]
  refine ⟨fun y => ⟨fun _ => ?_, fun u => absurd (by omega) u⟩, fun y => dd_qi (kf (fun u => y u.1) I (FR.refl I))⟩
  have key : ∀ I' a6, FR 130 [3] [] I I' → RC (ptA w (fun i => tp (b + i) - 48) 0) I' L → allN (fun i => decide (tp (b + i) < 56)) 0 = true → dd_Rn d m_X4_copyFigures (34, [.ref 130, .ref 3, .int (nI (8 * w 0)), .int (nI 8), .int 7, .int (nI 0), a6], [], sM Ln I' L c s) (dd_RI Ln c s K) := by
    refine dd_lp (fun i => ∀ I' a6, FR 130 [3] [] I I' → RC (ptA w (fun i => tp (b + i) - 48) i) I' L → allN (fun i => decide (tp (b + i) < 56)) i = true → dd_Rn d m_X4_copyFigures (34, [.ref 130, .ref 3, .int (nI (8 * w 0)), .int (nI 8), .int 7, .int (nI i), a6], [], sM Ln I' L c s) (dd_RI Ln c s K)) 8 ?_ ?_
    · intro I' a6 fr rc al
      refine w_X4_copyFigures_34 (by omega) ?_
      rw [nI_leI (by omega) (by omega)]
      exact ⟨fun _ => dd_qi (kt ⟨y, al⟩ I' fr rc), fun u => absurd (Nat.le_refl _) u⟩
    · intro i hi ih I' a6 fr rc al
      refine w_X4_copyFigures_34 (by omega) ?_
      have dg := isD_iff.mp (de_all (tp := tp) (tl := tl) (b := b) i (by omega))
      have tb : tn (nI (b + i)) = b + i := nI_clamp (by omega)
      have tw : tn (nI (8 * w 0 + i)) = 8 * w 0 + i := nI_clamp (by omega)
      have e3 : I' 130 3 = nI b := by rw [fr.2 3 (by decide)]; exact t3
      have e9 : I' 129 (b + i) = nI (tp (b + i)) := by rw [fr.1 129 (by decide) (by decide)]; exact hx _ (by omega)
      rw [nI_leI (by omega) (by omega), e3, nI_add, tb, e9, li_48, pk_sub (by omega), li_7, nI_leI (by omega) (by omega), nI_add, tw, nI_1]
      refine ⟨fun u => absurd u (by omega), fun _ => ⟨⟨nI_pos' (by omega), by omega⟩, fun u => ⟨⟨nI_pos' (by omega), by omega⟩, ?_⟩, fun u => dd_qi (kf (fun v => ?_) I' fr)⟩⟩
      · refine ih _ _ (fr.u (by decide) (by decide)) ?_ ?_
        · have := rc.uNote (j := 8 * w 0 + i) (v := tp (b + i) - 48) (by omega)
          rw [show 139 + (8 * w 0 + i) = 139 + 8 * w 0 + i by omega] at this
          exact this
        · rw [allN, al]; exact decide_eq_true (by omega)
      · have := v.2
        unfold ptD at this
        rw [allN_iff] at this
        have := of_decide_eq_true (this i hi)
        omega
  exact key I _ (FR.refl I) hC rfl
theorem C_readPart {d Ln c s : Nat} {I : Nat → Nat → Int32} {L : Nat → Nat → Int64} {K : Int32 → (Nat → Nat → Int32) → (Nat → Nat → Int64) → Prop} {tp : Nat → Nat} {tl p : Nat} {w : Nat → Nat} (hd : 40 ≤ d) (hl : tl ≤ 400) (hp : p ≤ tl) (ht : TK tp tl 130 I p) (hx : TXc tp I) (h6 : ∀ j, tp j < 256) (hC : RC w I L) (hg : GOOD w) (ck : CK tp tl (if w 0 = 6 then .inl (sk tp tl p) else ptR tp tl w (ek tp tl (sk tp tl p))) I L K) : dd_Ev d m_X9_readPart [.ref 130] (sM Ln I L c s) (dd_RI Ln c s K) := by
  have w0 := hg.1.1.1
  have hb := ek_tl tp tl _ (sk_tl (tp := tp) hp)
  refine w_X9_readPart_0 (by omega) ?_
  rw [hC.parts, li_6, nI_ltI (by omega) (by omega)]
  refine ⟨fun z => ?_, fun z => ?_⟩
  · rw [if_neg (by omega)] at ck
    refine C_advance (tp := tp) (by omega) (Or.inl rfl) hl hb ht.1 ht.2.2.2 hx h6 fun I1 t1 f1 => ?_
    have hb2 := ek_tl tp tl _ (sk_tl (tp := tp) hb)
    have r1 := hC.r f1
    rw [r1.parts]
    have x1 := (FQ.a (L := L) f1).x hx
    refine C_figs (tp := tp) (w := w) (by omega) hl hb t1 x1 h6 r1 z (fun nz I2 f2 => ?_) (fun yz I2 f2 r2 => ?_)
    · refine ⟨fun _ => ?_, fun u => absurd rfl u⟩
      refine C_refuse (f := sk tp tl (ek tp tl (sk tp tl p))) (by omega) (Or.inl rfl) (by rw [f2.2 3 (by decide)]; exact t1.2.2.1) fun I3 h5 f3 _ => ⟨Or.inl rfl, dd_qi ?_⟩
      refine ck.1 (sk tp tl (ek tp tl (sk tp tl p))) (by unfold ptR; rw [if_neg nz]) I3 L h5 ((FQ.a f1).trans (FQ.trans ?_ (FQ.b f3)))
      exact ⟨fun k a b => f2.1 k (by simp only [List.mem_cons, List.not_mem_nil, or_false]; omega) b, f2.2 1 (by decide), fun _ _ => rfl⟩
    · refine ⟨fun u => absurd u (by decide), fun _ => ?_⟩
      refine C_advance (tp := tp) (p := ek tp tl (sk tp tl (ek tp tl (sk tp tl p)))) (by omega) (Or.inl rfl) hl hb2 (by rw [f2.2 1 (by decide)]; exact t1.1) (by rw [f2.2 4 (by decide)]; exact t1.2.2.2) (fun j hj => by rw [f2.1 129 (by decide) (by decide)]; exact x1 j hj) h6 fun I3 t3 f3 => dd_qi ?_
      have r3 := r2.r f3
      have e9 : I3 1 9 + 1 = nI (w 0 + 1) := by
        have : I3 1 9 = nI (w 0) := by
          rw [f3.1 1 List.not_mem_nil (by decide), f2.1 1 (by decide) (by decide)]; exact r1.parts
        rw [this, nI_1]
      rw [e9]
      refine ck.2 _ _ (by unfold ptR; rw [if_pos yz]; rfl) _ _ (r3.uParts (v := w 0 + 1)) (t3.of (dd_un (by decide))) ?_ ?_
      · rw [dd_un (by decide), f3.2 5 (by decide), f2.2 5 (by decide), f1.2 5 (by decide)]
      · refine (FQ.a f1).trans (FQ.trans ?_ ((FQ.a f3).trans (FQ.w (fun k hk => dd_un (by omega)) (fun _ _ => rfl))))
        exact ⟨fun k a b => f2.1 k (by simp only [List.mem_cons, List.not_mem_nil, or_false]; omega) b, f2.2 1 (by decide), fun _ _ => rfl⟩
  · rw [if_pos (by omega)] at ck
    exact C_refuse (by omega) (Or.inl rfl) ht.2.2.1 fun I3 h5 f3 _ => ⟨Or.inl rfl, dd_qi (ck.f rfl h5 f3)⟩
theorem C_readTrees {d Ln c s : Nat} {I : Nat → Nat → Int32} {L : Nat → Nat → Int64} {K : Int32 → (Nat → Nat → Int32) → (Nat → Nat → Int64) → Prop} {tp : Nat → Nat} {tl p : Nat} {w : Nat → Nat} (hd : 40 ≤ d) (hl : tl ≤ 400) (hp : p ≤ tl) (ht : TK tp tl 130 I p) (hx : TXc tp I) (h6 : ∀ j, tp j < 256) (hC : RC w I L) (hg : GOOD w) (ck : CK tp tl (trR tp tl w (ek tp tl (sk tp tl p))) I L K) : dd_Ev d m_X9_readTrees [.ref 130] (sM Ln I L c s) (dd_RI Ln c s K) := by
  have hb := ek_tl tp tl _ (sk_tl (tp := tp) hp)
  have w4 := hg.1.1.2.2.2.1
  refine w_X9_readTrees_0 (by omega) ?_
  refine C_advance (tp := tp) (by omega) (Or.inl rfl) hl hb ht.1 ht.2.2.2 hx h6 fun I1 t1 f1 => ?_
  have hb2 := ek_tl tp tl _ (sk_tl (tp := tp) hb)
  have ck := ck.g (FQ.a (L := L) f1) (f1.2 5 (by decide))
  have r1 := hC.r f1
  have x1 := (FQ.a (L := L) f1).x hx
  clear ht hx hC
  generalize ek tp tl (sk tp tl p) = q at *
  refine C_numberUpTo (tp := tp) (m := 64) (by omega) (Or.inl rfl) (by omega) rfl hl hb t1 x1 h6 ?_
  rw [oI_nm (fun n hn => by have := numA_s hn; omega)]
  have no : trR tp tl w q = .inl (sk tp tl q) → dd_Ev (d - 1) m_X4_refuse [.ref 130] (sM Ln I1 L c s) (dd_RI Ln c s (fun x3 I3 L3 => ((x3 = 0 ∨ x3 = 1) ∧ dd_RI Ln c s K (none, .int x3, sM Ln I3 L3 c s)))) := fun e => C_refuse (by omega) (Or.inl rfl) t1.2.2.1 fun I3 h5 f3 _ => ⟨Or.inl rfl, dd_qi (ck.f e h5 f3)⟩
  cases en : numA tp tl (sk tp tl q) 64 with
  | none => exact ⟨fun _ => no (numS_n en), fun z => absurd rfl z⟩
  | some x =>
    have hx64 := numA_s en
    have et : trR tp tl w q = if x = w 4 ∨ anyN (lostP w x) (w 1) = true then .inl (sk tp tl q) else .inr (upw w (11 + x) 1, ek tp tl (sk tp tl q)) := numS_s en
    refine ⟨fun z => (by cases z), fun _ => ?_⟩
    refine w_X8_canPlant_0 (by omega) ?_
    show ((nI x = I1 1 13 → _) ∧ (¬ (nI x = I1 1 13) → _))
    rw [r1.fire, nI_eq (by omega) (by omega)]
    refine ⟨fun z => dd_qi ⟨fun _ => no (by rw [et, if_pos (Or.inl z)]), fun y => absurd rfl y⟩, fun z => ?_⟩
    refine C_isLostAt (w := w) (by omega) r1 hg.1 hx64.1 ?_
    rw [bI_z]
    cases ea : anyN (lostP w x) (w 1) with
    | true => exact ⟨fun y => (by cases y), fun _ => dd_qi ⟨fun _ => no (by rw [et, if_pos (Or.inr ea)]), fun y => absurd rfl y⟩⟩
    | false =>
      refine ⟨fun _ => dd_qi ⟨fun y => absurd y (by decide), fun _ => ?_⟩, fun y => absurd rfl y⟩
      refine C_advance (tp := tp) (by omega) (Or.inl rfl) hl hb2 t1.1 t1.2.2.2 x1 h6 fun I3 t3 f3 => dd_qi ?_
      refine ck.2 _ _ (by rw [et, if_neg (by rw [ea]; rintro (u | u); exact z u; cases u)]) _ _ ?_ t3 (f3.2 5 (by decide)) ((FQ.w (fun _ _ => rfl) (fun k hk => dd_un hk)).trans (FQ.a f3))
      refine RW.r ?_ f3
      refine r1.uTree (v := 1) hx64.1 (fun i hi => ?_)
      show bL (L 1 0 ||| (Int64.ofNat 1 <<< ((nI x).toInt64 &&& 63))) i = _
      rw [bL_or, bL_one hx64.1 hi]
      by_cases u : i = x
      · rw [if_pos u, decide_eq_true u, Bool.or_true]; rfl
      · rw [if_neg u, decide_eq_false u, Bool.or_false]
theorem C_readFerns {d Ln c s : Nat} {I : Nat → Nat → Int32} {L : Nat → Nat → Int64} {K : Int32 → (Nat → Nat → Int32) → (Nat → Nat → Int64) → Prop} {tp : Nat → Nat} {tl p : Nat} {w : Nat → Nat} (hd : 40 ≤ d) (hl : tl ≤ 400) (hp : p ≤ tl) (ht : TK tp tl 130 I p) (hx : TXc tp I) (h6 : ∀ j, tp j < 256) (hC : RC w I L) (ck : CK tp tl (feR tp tl w (ek tp tl (sk tp tl p))) I L K) : dd_Ev d m_X9_readFerns [.ref 130] (sM Ln I L c s) (dd_RI Ln c s K) := by
  have hb := ek_tl tp tl _ (sk_tl (tp := tp) hp)
  refine w_X9_readFerns_0 (by omega) ?_
  refine C_advance (tp := tp) (by omega) (Or.inl rfl) hl hb ht.1 ht.2.2.2 hx h6 fun I1 t1 f1 => ?_
  have hb2 := ek_tl tp tl _ (sk_tl (tp := tp) hb)
  have ck := ck.g (FQ.a (L := L) f1) (f1.2 5 (by decide))
  have r1 := hC.r f1
  have x1 := (FQ.a (L := L) f1).x hx
  clear ht hx hC
  generalize ek tp tl (sk tp tl p) = q at *
  refine C_takeNumber (tp := tp) (m := 64) (by omega) (Or.inl rfl) (by omega) rfl hl hb t1 x1 h6 (fun en I2 h5 f2 => ?_) (fun x en I2 t2 f2 => ?_)
  · exact ⟨fun _ => dd_qi (ck.f (numS_n en) h5 f2), fun z => absurd rfl z⟩
  · have et : feR tp tl w q = numS tp tl (ek tp tl (sk tp tl q)) 10 fun v q2 => .inr (upw w (75 + x) v, q2) := numS_s en
    have hx64 := numA_s en
    have ck := ck.g (FQ.a (L := L) f2) (f2.2 5 (by decide))
    rw [et] at ck
    refine ⟨fun z => absurd z (nmX (by omega)), fun _ => ?_⟩
    refine C_takeNumber (tp := tp) (m := 10) (by omega) (Or.inl rfl) (by omega) rfl hl hb2 t2 ((FQ.a (L := L) f2).x x1) h6 (fun en I3 h5 f3 => ?_) (fun v en3 I3 t3 f3 => ?_)
    · exact ⟨fun _ => dd_qi (ck.f (numS_n en) h5 f3), fun z => absurd rfl z⟩
    · have hv := numA_s en3
      have tx : tn (nI x) = x := nI_clamp (by omega)
      refine ⟨fun z => absurd z (nmX (by omega)), fun _ => ⟨⟨nI_pos' (by omega), by rw [tx]; exact hx64.1⟩, dd_qi ?_⟩⟩
      rw [tx]
      exact ck.2 _ _ (numS_s en3) _ _ (((r1.r f2).r f3).uFern hx64.1) (t3.of (dd_un (by decide))) (by rw [dd_un (by decide)]; exact f3.2 5 (by decide)) ((FQ.a f3).trans (FQ.w (fun k hk => dd_un (by omega)) (fun _ _ => rfl)))
theorem C_readFire {d Ln c s : Nat} {I : Nat → Nat → Int32} {L : Nat → Nat → Int64} {K : Int32 → (Nat → Nat → Int32) → (Nat → Nat → Int64) → Prop} {tp : Nat → Nat} {tl p : Nat} {w : Nat → Nat} (hd : 40 ≤ d) (hl : tl ≤ 400) (hp : p ≤ tl) (ht : TK tp tl 130 I p) (hx : TXc tp I) (h6 : ∀ j, tp j < 256) (hC : RC w I L) (hg : GOOD w) (ck : CK tp tl (fiR tp tl w (ek tp tl (sk tp tl p))) I L K) : dd_Ev d m_X9_readFire [.ref 130] (sM Ln I L c s) (dd_RI Ln c s K) := by
  have hb := ek_tl tp tl _ (sk_tl (tp := tp) hp)
  refine w_X9_readFire_0 (by omega) ?_
  refine C_advance (tp := tp) (by omega) (Or.inl rfl) hl hb ht.1 ht.2.2.2 hx h6 fun I1 t1 f1 => ?_
  have ck := ck.g (FQ.a (L := L) f1) (f1.2 5 (by decide))
  have r1 := hC.r f1
  have x1 := (FQ.a (L := L) f1).x hx
  clear ht hx hC
  generalize ek tp tl (sk tp tl p) = q at *
  refine C_openCell (tp := tp) (w := w) (by omega) hl hb t1 x1 h6 r1 (fun en I2 h5 f2 => ?_) (fun x en tx I2 h5 f2 => ?_) (fun x en tx I2 t2 f2 => ?_)
  · exact ⟨fun _ => dd_qi (ck.f (numS_n en) h5 f2), fun z => absurd rfl z⟩
  · exact ⟨fun _ => dd_qi (ck.f ((numS_s en).trans (if_pos tx)) h5 f2), fun z => absurd rfl z⟩
  · have hx64 := numA_s en
    refine ⟨fun z => absurd z (nmX (by omega)), fun _ => ?_⟩
    refine C_putFire (w := w) (by omega) (r1.r f2) hg.1 hg.2.2.1 hx64.1 tx fun I3 r3 f3 => dd_qi ?_
    refine ck.2 _ _ ((numS_s en).trans (if_neg tx)) _ _ r3 (t2.of (f3.1 130 (by decide) (by decide))) ?_ ((FQ.a f2).trans (FQ.w (fun k hk => ?_) (fun _ _ => rfl)))
    · rw [f3.1 130 (by decide) (by decide)]; exact f2.2 5 (by decide)
    · by_cases e : k = 25
      · subst e; funext j; exact f3.2 j List.not_mem_nil
      · exact f3.1 k (by simp only [List.mem_cons, List.not_mem_nil, or_false]; omega) e
theorem C_readBoy {d Ln c s : Nat} {I : Nat → Nat → Int32} {L : Nat → Nat → Int64} {K : Int32 → (Nat → Nat → Int32) → (Nat → Nat → Int64) → Prop} {tp : Nat → Nat} {tl p : Nat} {w : Nat → Nat} (hd : 40 ≤ d) (hS : STR I) (hl : tl ≤ 400) (hp : p ≤ tl) (ht : TK tp tl 130 I p) (hx : TXc tp I) (h6 : ∀ j, tp j < 256) (hC : RC w I L) (hg : GOOD w) (ck : CK tp tl (if w 1 = 6 then .inl (sk tp tl p) else byR tp tl w (ek tp tl (sk tp tl p))) I L K) : dd_Ev d m_X9_readBoy [.ref 130] (sM Ln I L c s) (dd_RI Ln c s K) := by
  have w1 := hg.1.1.2.1
  have w0 := hg.1.1.1
  have w4 := hg.1.1.2.2.2.1
  have hb := ek_tl tp tl _ (sk_tl (tp := tp) hp)
  refine w_X9_readBoy_0 (by omega) ?_
  rw [hC.boys, li_6, nI_ltI (by omega) (by omega)]
  refine ⟨fun z => ?_, fun z => ?_⟩
  · rw [if_neg (by omega)] at ck
    refine C_advance (tp := tp) (by omega) (Or.inl rfl) hl hb ht.1 ht.2.2.2 hx h6 fun I1 t1 f1 => ?_
    have ck := ck.g (FQ.a (L := L) f1) (f1.2 5 (by decide))
    have r1 := hC.r f1
    have x1 := (FQ.a (L := L) f1).x hx
    have s1 := (FQ.a (L := L) f1).s hS
    clear ht hx hC hS f1
    generalize ek tp tl (sk tp tl p) = q at *
    have hb2 := ek_tl tp tl _ (sk_tl (tp := tp) hb)
    refine C_takeWord (tp := tp) (w := 19) (by omega) (Or.inl rfl) (by omega) s1 hl hb t1 x1 h6 (fun ew I2 h5 f2 => ?_) (fun ew I2 t2 f2 => ?_)
    · exact ⟨fun _ => dd_qi (ck.f (wrdS_f ((isW_c rfl).trans ew)) h5 f2), fun u => absurd rfl u⟩
    have ck := ck.g (FQ.a (L := L) f2) (f2.2 5 (by decide))
    have r2 := r1.r f2
    have x2 := (FQ.a (L := L) f2).x x1
    have s2 := (FQ.a (L := L) f2).s s1
    unfold byR at ck
    rw [wrdS_t (v := 48) ((isW_c (w' := 19) rfl).trans ew)] at ck
    refine ⟨fun u => absurd u (by decide), fun _ => ?_⟩
    clear ew r1 x1 s1 t1 f2
    generalize ek tp tl (sk tp tl q) = q1 at *
    have hb3 := ek_tl tp tl _ (sk_tl (tp := tp) hb2)
    refine C_openCell (tp := tp) (w := w) (by omega) hl hb2 t2 x2 h6 r2 (fun en I3 h5 f3 => ?_) (fun x en tx I3 h5 f3 => ?_) (fun x en tx I3 t3 f3 => ?_)
    · exact ⟨fun _ => dd_qi (ck.f (numS_n en) h5 f3), fun u => absurd rfl u⟩
    · exact ⟨fun _ => dd_qi (ck.f ((numS_s en).trans (if_pos tx)) h5 f3), fun u => absurd rfl u⟩
    have ck := ck.g (FQ.a (L := L) f3) (f3.2 5 (by decide))
    have r3 := r2.r f3
    have x3 := (FQ.a (L := L) f3).x x2
    have s3 := (FQ.a (L := L) f3).s s2
    have hx64 := numA_s en
    rw [numS_s en, if_neg tx] at ck
    refine ⟨fun u => absurd u (nmX (by omega)), fun _ => ?_⟩
    clear en r2 x2 s2 t2 f3
    generalize ek tp tl (sk tp tl q1) = q2 at *
    have hb4 := ek_tl tp tl _ (sk_tl (tp := tp) hb3)
    refine C_takeWord (tp := tp) (w := 20) (by omega) (Or.inl rfl) (by omega) s3 hl hb3 t3 x3 h6 (fun ew I4 h5 f4 => ?_) (fun ew I4 t4 f4 => ?_)
    · exact ⟨fun _ => dd_qi (ck.f (wrdS_f ((isW_c rfl).trans ew)) h5 f4), fun u => absurd rfl u⟩
    have ck := ck.g (FQ.a (L := L) f4) (f4.2 5 (by decide))
    have r4 := r3.r f4
    have x4 := (FQ.a (L := L) f4).x x3
    have s4 := (FQ.a (L := L) f4).s s3
    rw [wrdS_t (v := 49) ((isW_c (w' := 20) rfl).trans ew)] at ck
    refine ⟨fun u => absurd u (by decide), fun _ => ?_⟩
    clear ew r3 x3 s3 t3 f4
    generalize ek tp tl (sk tp tl q2) = q3 at *
    have hb5 := ek_tl tp tl _ (sk_tl (tp := tp) hb4)
    rw [r4.parts]
    refine C_takeNumber (tp := tp) (m := w 0) (by omega) (Or.inl rfl) (by omega) rfl hl hb4 t4 x4 h6 (fun en I5 h5 f5 => ?_) (fun pt en I5 t5 f5 => ?_)
    · exact ⟨fun _ => dd_qi (ck.f (numS_n en) h5 f5), fun u => absurd rfl u⟩
    have ck := ck.g (FQ.a (L := L) f5) (f5.2 5 (by decide))
    have r5 := r4.r f5
    have x5 := (FQ.a (L := L) f5).x x4
    have s5 := (FQ.a (L := L) f5).s s4
    have hpt := numA_s en
    rw [numS_s en] at ck
    refine ⟨fun u => absurd u (nmX (by omega)), fun _ => ?_⟩
    clear en r4 x4 s4 t4 f5
    generalize ek tp tl (sk tp tl q3) = q4 at *
    have hb6 := ek_tl tp tl _ (sk_tl (tp := tp) hb5)
    refine C_takeWord (tp := tp) (w := 21) (by omega) (Or.inl rfl) (by omega) s5 hl hb5 t5 x5 h6 (fun ew I6 h5 f6 => ?_) (fun ew I6 t6 f6 => ?_)
    · exact ⟨fun _ => dd_qi (ck.f (wrdS_f ((isW_c rfl).trans ew)) h5 f6), fun u => absurd rfl u⟩
    have ck := ck.g (FQ.a (L := L) f6) (f6.2 5 (by decide))
    have r6 := r5.r f6
    have x6 := (FQ.a (L := L) f6).x x5
    have s6 := (FQ.a (L := L) f6).s s5
    rw [wrdS_t (v := 50) ((isW_c (w' := 21) rfl).trans ew)] at ck
    refine ⟨fun u => absurd u (by decide), fun _ => ?_⟩
    clear ew r5 x5 s5 t5 f6
    generalize ek tp tl (sk tp tl q4) = q5 at *
    refine C_takeNumber (tp := tp) (m := 16) (by omega) (Or.inl rfl) (by omega) rfl hl hb6 t6 x6 h6 (fun en I7 h5 f7 => ?_) (fun er en I7 t7 f7 => ?_)
    · exact ⟨fun _ => dd_qi (ck.f (numS_n en) h5 f7), fun u => absurd rfl u⟩
    have ck := ck.g (FQ.a (L := L) f7) (f7.2 5 (by decide))
    have r7 := r6.r f7
    have her := numA_s en
    rw [numS_s en] at ck
    refine ⟨fun u => absurd u (nmX (by omega)), fun _ => ?_⟩
    have tb : tn (nI (w 1)) = w 1 := nI_clamp (by omega)
    rw [r7.boys, tb, nI_1]
    have ckb : (0 : Int32) ≤ nI (w 1) ∧ w 1 < 6 := ⟨nI_pos' (by omega), z⟩
    refine ⟨ckb, ckb, ckb, ?_⟩
    have r8 : RC (nbU w pt er) (dd_u (dd_u (dd_u (dd_u I7 1 (upd (I7 1) 10 (nI (w 1 + 1)))) 5 (upd (I7 5) (w 1) (nI pt))) 6 (upd (I7 6) (w 1) (nI er))) 7 (upd (I7 7) (w 1) 0)) L := by
      have a1 := r7.uBoys (v := w 1 + 1)
      have a2 := a1.uSung (b := w 1) (v := pt) z
      have a3 := a2.uEar (b := w 1) (v := er) z
      have a4 := a3.uBad (b := w 1) (v := 0) z
      exact a4
    refine C_putBoy (w := nbU w pt er) (by omega) r8 ?_ z hx64.1 fun I8 r9 f8 => dd_qi ?_
    · unfold nbU
      rw [upw_ne (by omega), upw_ne (by omega), upw_ne (by omega), upw_ne (by omega)]; exact w4
    have e130 : I8 130 = I7 130 := by
      rw [f8.1 130 (by decide) (by decide), dd_un (by decide), dd_un (by decide), dd_un (by decide), dd_un (by decide)]
    refine ck.2 _ _ rfl _ _ r9 (t7.of e130) (by rw [e130]) (FQ.w (fun k hk => ?_) (fun _ _ => rfl))
    have e8 : I8 k = (dd_u (dd_u (dd_u (dd_u I7 1 (upd (I7 1) 10 (nI (w 1 + 1)))) 5 (upd (I7 5) (w 1) (nI pt))) 6 (upd (I7 6) (w 1) (nI er))) 7 (upd (I7 7) (w 1) 0)) k := by
      by_cases e : k = 25
      · subst e; funext j; exact f8.2 j List.not_mem_nil
      · exact f8.1 k (by simp only [List.mem_cons, List.not_mem_nil, or_false]; omega) e
    rw [e8, dd_un (by omega), dd_un (by omega), dd_un (by omega), dd_un (by omega)]
  · rw [if_pos (by omega)] at ck
    exact C_refuse (by omega) (Or.inl rfl) ht.2.2.1 fun I3 h5 f3 _ => ⟨Or.inl rfl, dd_qi (ck.f rfl h5 f3)⟩
/-- a setting -/
theorem C_setting {d Ln c s : Nat} {I : Nat → Nat → Int32} {L : Nat → Nat → Int64} {K : Int32 → (Nat → Nat → Int32) → (Nat → Nat → Int64) → Prop} {tp : Nat → Nat} {tl p : Nat} {w : Nat → Nat} {j j' m : Nat} {a1 : Int32} (hd : 39 ≤ d) (hl : tl ≤ 400) (hp : p ≤ tl) (ht : TK tp tl 130 I p) (hx : TXc tp I) (h6 : ∀ j, tp j < 256) (hC : RC w I L) (hm : m ≤ 1000) (ha : a1 = nI m - 1) (hr : ∀ (I : Nat → Nat → Int32) v, RC w I L → RC (upw w j v) (dd_u I 1 (upd (I 1) j' (nI v))) L) (ck : CK tp tl (stR tp tl w j m (ek tp tl (sk tp tl p))) I L K) : dd_Ev d m_X4_advance [.ref 130] (sM Ln I L c s) (dd_RV Ln c s (fun I6 L6 => dd_Ev d m_X4_takeNumber [.ref 130, .int a1] (sM Ln I6 L6 c s) (dd_RI Ln c s (fun x7 I7 L7 => ((x7 = (-1) → dd_RI Ln c s K (none, .int 0, sM Ln (dd_u I7 1 (upd (I7 1) j' x7)) L7 c s)) ∧ (¬ (x7 = (-1)) → dd_RI Ln c s K (none, .int 1, sM Ln (dd_u I7 1 (upd (I7 1) j' x7)) L7 c s))))))) := by
  have hb := ek_tl tp tl _ (sk_tl (tp := tp) hp)
  refine C_advance (tp := tp) (by omega) (Or.inl rfl) hl hb ht.1 ht.2.2.2 hx h6 fun I1 t1 f1 => ?_
  have ck := ck.g (FQ.a (L := L) f1) (f1.2 5 (by decide))
  have r1 := hC.r f1
  have x1 := (FQ.a (L := L) f1).x hx
  clear ht hx hC
  generalize ek tp tl (sk tp tl p) = q at *
  refine C_takeNumber (tp := tp) (m := m) (by omega) (Or.inl rfl) hm ha hl hb t1 x1 h6 (fun en I2 h5 f2 => ?_) (fun v en I2 t2 f2 => ?_)
  · refine ⟨fun _ => dd_qi (ck.1 _ (numS_n en) _ _ (by rw [dd_un (by decide)]; exact h5) ((FQ.b f2).trans (FQ.w (fun k hk => dd_un (by omega)) (fun _ _ => rfl)))), fun z => absurd rfl z⟩
  · have hv := numA_s en
    refine ⟨fun z => absurd z (nmX (by omega)), fun _ => dd_qi ?_⟩
    exact ck.2 _ _ (numS_s en) _ _ (hr I2 v (r1.r f2)) (t2.of (dd_un (by decide))) (by rw [dd_un (by decide)]; exact f2.2 5 (by decide)) ((FQ.a f2).trans (FQ.w (fun k hk => dd_un (by omega)) (fun _ _ => rfl)))
theorem C_readSetting {d Ln c s : Nat} {I : Nat → Nat → Int32} {L : Nat → Nat → Int64} {K : Int32 → (Nat → Nat → Int32) → (Nat → Nat → Int64) → Prop} {tp : Nat → Nat} {tl p : Nat} {w : Nat → Nat} (hd : 40 ≤ d) (hS : STR I) (hl : tl ≤ 400) (hp : p ≤ tl) (ht : TK tp tl 130 I p) (hx : TXc tp I) (h6 : ∀ j, tp j < 256) (hC : RC w I L) (ck : CK tp tl (if isW tp tl (sk tp tl p) 54 = true then stR tp tl w 5 16 (ek tp tl (sk tp tl p))
  else if isW tp tl (sk tp tl p) 55 = true then stR tp tl w 6 101 (ek tp tl (sk tp tl p))
  else if isW tp tl (sk tp tl p) 56 = true then stR tp tl w 7 8 (ek tp tl (sk tp tl p))
  else if isW tp tl (sk tp tl p) 57 = true then stR tp tl w 8 1000 (ek tp tl (sk tp tl p))
  else .inl (sk tp tl p)) I L K) : dd_Ev d m_X9_readSetting [.ref 130] (sM Ln I L c s) (dd_RI Ln c s K) := by
  refine w_X9_readSetting_0 (by omega) ?_
  refine C_isWord (tp := tp) (w := 25) (by omega) (Or.inl rfl) (by omega) hS hl hp ht hx h6 ?_
  rw [bI_z, isW_c (w := 25) (w' := 54) rfl]
  cases e1 : isW tp tl (sk tp tl p) 54 with
  | true =>
    rw [e1, if_pos rfl] at ck
    exact ⟨fun z => (by cases z), fun _ => C_setting (j := 5) (j' := 14) (m := 16) (by omega) hl hp ht hx h6 hC (by omega) rfl (fun I v h => h.uLoud) ck⟩
  | false =>
  rw [e1, if_neg (by decide)] at ck
  refine ⟨fun _ => ?_, fun z => absurd rfl z⟩
  refine C_isWord (tp := tp) (w := 26) (by omega) (Or.inl rfl) (by omega) hS hl hp ht hx h6 ?_
  rw [bI_z, isW_c (w := 26) (w' := 55) rfl]
  cases e2 : isW tp tl (sk tp tl p) 55 with
  | true =>
    rw [e2, if_pos rfl] at ck
    exact ⟨fun z => (by cases z), fun _ => C_setting (j := 6) (j' := 15) (m := 101) (by omega) hl hp ht hx h6 hC (by omega) rfl (fun I v h => h.uStray) ck⟩
  | false =>
  rw [e2, if_neg (by decide)] at ck
  refine ⟨fun _ => ?_, fun z => absurd rfl z⟩
  refine C_isWord (tp := tp) (w := 27) (by omega) (Or.inl rfl) (by omega) hS hl hp ht hx h6 ?_
  rw [bI_z, isW_c (w := 27) (w' := 56) rfl]
  cases e3 : isW tp tl (sk tp tl p) 56 with
  | true =>
    rw [e3, if_pos rfl] at ck
    exact ⟨fun z => (by cases z), fun _ => C_setting (j := 7) (j' := 16) (m := 8) (by omega) hl hp ht hx h6 hC (by omega) rfl (fun I v h => h.uBeat) ck⟩
  | false =>
  rw [e3, if_neg (by decide)] at ck
  refine ⟨fun _ => ?_, fun z => absurd rfl z⟩
  refine C_isWord (tp := tp) (w := 28) (by omega) (Or.inl rfl) (by omega) hS hl hp ht hx h6 ?_
  rw [bI_z, isW_c (w := 28) (w' := 57) rfl]
  cases e4 : isW tp tl (sk tp tl p) 57 with
  | true =>
    rw [e4, if_pos rfl] at ck
    exact ⟨fun z => (by cases z), fun _ => C_setting (j := 8) (j' := 17) (m := 1000) (by omega) hl hp ht hx h6 hC (by omega) rfl (fun I v h => h.uNight) ck⟩
  | false =>
  rw [e4, if_neg (by decide)] at ck
  refine ⟨fun _ => ?_, fun z => absurd rfl z⟩
  exact C_refuse (by omega) (Or.inl rfl) ht.2.2.1 fun I3 h5 f3 _ => ⟨Or.inl rfl, dd_qi (ck.f rfl h5 f3)⟩
theorem C_woodLine {d Ln c s : Nat} {I : Nat → Nat → Int32} {L : Nat → Nat → Int64} {K : Int32 → (Nat → Nat → Int32) → (Nat → Nat → Int64) → Prop} {tp : Nat → Nat} {tl p : Nat} {w : Nat → Nat} (hd : 42 ≤ d) (hS : STR I) (hl : tl ≤ 400) (hp : p ≤ tl) (ht : TK tp tl 130 I p) (hx : TXc tp I) (h6 : ∀ j, tp j < 256) (hC : RC w I L) (hg : GOOD w) (ck : CK tp tl (lnW tp tl w p) I L K) : dd_Ev d m_X9_readLine [.ref 130] (sM Ln I L c s) (dd_RI Ln c s K) := by
  have k2 : ∀ r, CK tp tl r I L K → CK tp tl r I L (fun x6 I6 L6 => ((x6 = 0 ∨ x6 = 1) ∧ dd_RI Ln c s K (none, .int x6, sM Ln I6 L6 c s))) := fun r h => ⟨fun f e I' L' h5 g => ⟨Or.inl rfl, dd_qi (h.1 f e I' L' h5 g)⟩, fun w' p' e I' L' rc tk h5 g => ⟨Or.inr rfl, dd_qi (h.2 w' p' e I' L' rc tk h5 g)⟩⟩
  have ck := k2 _ ck
  unfold lnW at ck
  refine w_X9_readLine_0 (by omega) ?_
  refine C_isWord (tp := tp) (w := 17) (by omega) (Or.inl rfl) (by omega) hS hl hp ht hx h6 ?_
  rw [bI_z, isW_c (w := 17) (w' := 46) rfl]
  cases e1 : isW tp tl (sk tp tl p) 46 with
  | true =>
    rw [e1, if_pos rfl] at ck
    exact ⟨fun z => (by cases z), fun _ => C_readPart (by omega) hl hp ht hx h6 hC hg ck⟩
  | false =>
  rw [e1, if_neg (by decide)] at ck
  refine ⟨fun _ => ?_, fun z => absurd rfl z⟩
  refine C_isWord (tp := tp) (w := 18) (by omega) (Or.inl rfl) (by omega) hS hl hp ht hx h6 ?_
  rw [bI_z, isW_c (w := 18) (w' := 47) rfl]
  cases e2 : isW tp tl (sk tp tl p) 47 with
  | true =>
    rw [e2, if_pos rfl] at ck
    exact ⟨fun z => (by cases z), fun _ => C_readBoy (by omega) hS hl hp ht hx h6 hC hg ck⟩
  | false =>
  rw [e2, if_neg (by decide)] at ck
  refine ⟨fun _ => ?_, fun z => absurd rfl z⟩
  refine C_isWord (tp := tp) (w := 22) (by omega) (Or.inl rfl) (by omega) hS hl hp ht hx h6 ?_
  rw [bI_z, isW_c (w := 22) (w' := 51) rfl]
  cases e3 : isW tp tl (sk tp tl p) 51 with
  | true =>
    rw [e3, if_pos rfl] at ck
    exact ⟨fun z => (by cases z), fun _ => C_readTrees (by omega) hl hp ht hx h6 hC hg ck⟩
  | false =>
  rw [e3, if_neg (by decide)] at ck
  refine ⟨fun _ => ?_, fun z => absurd rfl z⟩
  refine C_isWord (tp := tp) (w := 23) (by omega) (Or.inl rfl) (by omega) hS hl hp ht hx h6 ?_
  rw [bI_z, isW_c (w := 23) (w' := 52) rfl]
  cases e4 : isW tp tl (sk tp tl p) 52 with
  | true =>
    rw [e4, if_pos rfl] at ck
    exact ⟨fun z => (by cases z), fun _ => C_readFerns (by omega) hl hp ht hx h6 hC ck⟩
  | false =>
  rw [e4, if_neg (by decide)] at ck
  refine ⟨fun _ => ?_, fun z => absurd rfl z⟩
  refine C_isWord (tp := tp) (w := 24) (by omega) (Or.inl rfl) (by omega) hS hl hp ht hx h6 ?_
  rw [bI_z, isW_c (w := 24) (w' := 53) rfl]
  cases e5 : isW tp tl (sk tp tl p) 53 with
  | true =>
    rw [e5, if_pos rfl] at ck
    exact ⟨fun z => (by cases z), fun _ => C_readFire (by omega) hl hp ht hx h6 hC hg ck⟩
  | false =>
  rw [e5, if_neg (by decide)] at ck
  refine ⟨fun _ => ?_, fun z => absurd rfl z⟩
  exact C_readSetting (by omega) hS hl hp ht hx h6 hC ck
