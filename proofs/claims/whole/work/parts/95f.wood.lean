/-! wood: lines, and the whole -/
theorem M_woodLine {d Ln c s : Nat} {I : Nat → Nat → Int32} {L : Nat → Nat → Int64} {K : Int32 → (Nat → Nat → Int32) → (Nat → Nat → Int64) → Prop} {tp : Nat → Nat} {tl p : Nat} {w : Nat → Nat} (hd : 42 ≤ d) (hS : STR I) (hl : tl ≤ 400) (hp : p ≤ tl) (h10 : I 148 10 = nI (le tp tl (sk tp tl p))) (h12 : I 148 12 = nI (sk tp tl p)) (h11 : I 148 11 = nI tl) (hx : TXm tp I) (h6 : ∀ j, tp j < 256) (hR : RM w I) (hg : GOOD w) (ck : MK (lnW tp tl w p) I L K) : dd_Ev d m_X11_readWoodLine [.ref 148] (sM Ln I L c s) (dd_RI Ln c s K) := by
  have k2 : ∀ r, MK r I L K → MK r I L (fun x6 I6 L6 => ((x6 = 0 ∨ x6 = 1) ∧ dd_RI Ln c s K (none, .int x6, sM Ln I6 L6 c s))) := fun r h => ⟨fun f e I' h5 g => ⟨Or.inl rfl, dd_qi (h.1 f e I' h5 g)⟩, fun w' p' e I' rm h5 g => ⟨Or.inr rfl, dd_qi (h.2 w' p' e I' rm h5 g)⟩⟩
  have k3 : ∀ r, MK r I L K → MK r I L (fun x6 I6 L6 => ((x6 = 0 → dd_RI Ln c s K (none, .int 0, sM Ln I6 L6 c s)) ∧ (¬ (x6 = 0) → dd_RI Ln c s K (none, .int 1, sM Ln I6 L6 c s)))) := fun r h => ⟨fun f e I' h5 g => ⟨fun _ => dd_qi (h.1 f e I' h5 g), fun z => absurd rfl z⟩, fun w' p' e I' rm h5 g => ⟨fun z => absurd z (by decide), fun _ => dd_qi (h.2 w' p' e I' rm h5 g)⟩⟩
  have hb := sk_tl (tp := tp) hp
  have hq := ek_tl tp tl _ hb
  have w0 := hg.1.1.1
  have w1 := hg.1.1.2.1
  have at10 : ∀ v, v < 71 → isW tp tl (sk tp tl p) v = true → I 148 10 = nI (ek tp tl (sk tp tl p)) := fun v hv e => by rw [(isW_k hv e).2]; exact h10
  have fR := FR.refl (z := 148) (A := [149]) (B := [10, 12]) I
  unfold lnW at ck
  refine w_X11_readWoodLine_0 (by omega) ?_
  refine M_isWord (tp := tp) (w := 46) (by omega) (by omega) hS hl hb h10 h12 hx h6 ?_
  rw [bI_z]
  cases e1 : isW tp tl (sk tp tl p) 46 with
  | true =>
    rw [e1, if_pos rfl] at ck
    refine ⟨fun z => (by cases z), fun _ => ?_⟩
    by_cases z : w 0 = 6
    · rw [if_pos z] at ck
      refine w_X11_readPartLine_0 (by omega) ?_
      rw [hR.g (by omega), li_6, nI_eq (by omega) (by omega)]
      exact ⟨fun _ => dd_qi ⟨Or.inl rfl, dd_qi (ck.1 _ rfl I h12 fR)⟩, fun y => absurd z y⟩
    · rw [if_neg z] at ck
      exact M_readPart (by omega) hl hq (at10 46 (by omega) e1) h11 hx h6 hR hg z (k2 _ ck)
  | false =>
  rw [e1, if_neg (by decide)] at ck
  refine ⟨fun _ => ?_, fun z => absurd rfl z⟩
  refine M_isWord (tp := tp) (w := 47) (by omega) (by omega) hS hl hb h10 h12 hx h6 ?_
  rw [bI_z]
  cases e2 : isW tp tl (sk tp tl p) 47 with
  | true =>
    rw [e2, if_pos rfl] at ck
    refine ⟨fun z => (by cases z), fun _ => ?_⟩
    by_cases z : w 1 = 6
    · rw [if_pos z] at ck
      refine w_X11_readBoy_0 (by omega) ?_
      rw [hR.g (by omega), li_6, nI_eq (by omega) (by omega)]
      exact ⟨fun _ => dd_qi ⟨Or.inl rfl, dd_qi (ck.1 _ rfl I h12 fR)⟩, fun y => absurd z y⟩
    · rw [if_neg z] at ck
      exact M_readBoy (by omega) hS hl hq (at10 47 (by omega) e2) h11 hx h6 hR hg z (k2 _ ck)
  | false =>
  rw [e2, if_neg (by decide)] at ck
  refine ⟨fun _ => ?_, fun z => absurd rfl z⟩
  refine M_isWord (tp := tp) (w := 51) (by omega) (by omega) hS hl hb h10 h12 hx h6 ?_
  rw [bI_z]
  cases e3 : isW tp tl (sk tp tl p) 51 with
  | true =>
    rw [e3, if_pos rfl] at ck
    exact ⟨fun z => (by cases z), fun _ => M_readTrees (by omega) hl hq (at10 51 (by omega) e3) h11 hx h6 hR hg (k2 _ ck)⟩
  | false =>
  rw [e3, if_neg (by decide)] at ck
  refine ⟨fun _ => ?_, fun z => absurd rfl z⟩
  refine M_isWord (tp := tp) (w := 52) (by omega) (by omega) hS hl hb h10 h12 hx h6 ?_
  rw [bI_z]
  cases e4 : isW tp tl (sk tp tl p) 52 with
  | true =>
    rw [e4, if_pos rfl] at ck
    exact ⟨fun z => (by cases z), fun _ => M_readFerns (by omega) hl hq (at10 52 (by omega) e4) h11 hx h6 hR (k2 _ ck)⟩
  | false =>
  rw [e4, if_neg (by decide)] at ck
  refine ⟨fun _ => ?_, fun z => absurd rfl z⟩
  refine M_isWord (tp := tp) (w := 53) (by omega) (by omega) hS hl hb h10 h12 hx h6 ?_
  rw [bI_z]
  cases e5 : isW tp tl (sk tp tl p) 53 with
  | true =>
    rw [e5, if_pos rfl] at ck
    exact ⟨fun z => (by cases z), fun _ => M_readFire (by omega) hl hq (at10 53 (by omega) e5) h11 hx h6 hR hg (k2 _ ck)⟩
  | false =>
  rw [e5, if_neg (by decide)] at ck
  refine ⟨fun _ => ?_, fun z => absurd rfl z⟩
  refine M_isWord (tp := tp) (w := 54) (by omega) (by omega) hS hl hb h10 h12 hx h6 ?_
  rw [bI_z]
  cases e6 : isW tp tl (sk tp tl p) 54 with
  | true =>
    rw [e6, if_pos rfl] at ck
    exact ⟨fun z => (by cases z), fun _ => M_readNumber (j := 5) (m := 16) (by omega) hl hq (at10 54 (by omega) e6) h11 hx h6 hR (by omega) (by omega) rfl (k2 _ ck)⟩
  | false =>
  rw [e6, if_neg (by decide)] at ck
  refine ⟨fun _ => ?_, fun z => absurd rfl z⟩
  refine M_isWord (tp := tp) (w := 55) (by omega) (by omega) hS hl hb h10 h12 hx h6 ?_
  rw [bI_z]
  cases e7 : isW tp tl (sk tp tl p) 55 with
  | true =>
    rw [e7, if_pos rfl] at ck
    exact ⟨fun z => (by cases z), fun _ => M_readNumber (j := 6) (m := 101) (by omega) hl hq (at10 55 (by omega) e7) h11 hx h6 hR (by omega) (by omega) rfl (k2 _ ck)⟩
  | false =>
  rw [e7, if_neg (by decide)] at ck
  refine ⟨fun _ => ?_, fun z => absurd rfl z⟩
  refine M_isWord (tp := tp) (w := 56) (by omega) (by omega) hS hl hb h10 h12 hx h6 ?_
  rw [bI_z]
  cases e8 : isW tp tl (sk tp tl p) 56 with
  | true =>
    rw [e8, if_pos rfl] at ck
    exact ⟨fun z => (by cases z), fun _ => M_readNumber (j := 7) (m := 8) (by omega) hl hq (at10 56 (by omega) e8) h11 hx h6 hR (by omega) (by omega) rfl (k2 _ ck)⟩
  | false =>
  rw [e8, if_neg (by decide)] at ck
  refine ⟨fun _ => ?_, fun z => absurd rfl z⟩
  refine M_isWord (tp := tp) (w := 57) (by omega) (by omega) hS hl hb h10 h12 hx h6 ?_
  rw [bI_z]
  cases e9 : isW tp tl (sk tp tl p) 57 with
  | true =>
    rw [e9, if_pos rfl] at ck
    exact ⟨fun z => (by cases z), fun _ => M_readNumber (j := 8) (m := 1000) (by omega) hl hq (at10 57 (by omega) e9) h11 hx h6 hR (by omega) (by omega) rfl (k3 _ ck)⟩
  | false =>
  rw [e9, if_neg (by decide)] at ck
  exact ⟨fun _ => dd_qi (ck.1 _ rfl I h12 fR), fun z => absurd rfl z⟩
/-! what a line leaves good -/
theorem numS_r {tp : Nat → Nat} {tl p m : Nat} {f : Nat → Nat → LR} {r} (h : numS tp tl p m f = .inr r) : ∃ v, v < m ∧ f v (ek tp tl (sk tp tl p)) = .inr r := by
  cases e : numA tp tl (sk tp tl p) m with
  | none => rw [numS_n e] at h; cases h
  | some v => rw [numS_s e] at h; exact ⟨v, (numA_s e).1, h⟩
theorem wrdS_r {tp : Nat → Nat} {tl p v : Nat} {f : Nat → LR} {r} (h : wrdS tp tl p v f = .inr r) : f (ek tp tl (sk tp tl p)) = .inr r := by
  cases e : isW tp tl (sk tp tl p) v with
  | false => rw [wrdS_f e] at h; cases h
  | true => rw [wrdS_t e] at h; exact h
def GL (tl : Nat) (w : Nat → Nat) (r : LR) : Prop := ∀ w' p', r = .inr (w', p') → GOOD w' ∧ sameL w w' ∧ w' 2 = w 2 ∧ p' ≤ tl
theorem GL_st {tp : Nat → Nat} {tl : Nat} {w : Nat → Nat} {j m q : Nat} (hq : q ≤ tl) (hg : GOOD w) (hj : (j = 5 ∧ m = 16) ∨ (j = 6 ∧ m = 101) ∨ (j = 7 ∧ m = 8) ∨ (j = 8 ∧ m = 1000)) : GL tl w (stR tp tl w j m q) := by
  intro w' p' h
  obtain ⟨v, hv, e⟩ := numS_r h
  cases e
  have oU : OKW (upw w j v) := okW_s hg.1 (by omega) (by omega) (by omega)
  exact ⟨GOOD_up hg oU (by omega) (by omega) (by omega) (by omega) (by omega) (fun b => by omega), sameL_upw (by omega) (by omega), upw_ne (by omega), ek_tl tp tl _ (sk_tl hq)⟩
theorem GL_fe {tp : Nat → Nat} {tl : Nat} {w : Nat → Nat} {q : Nat} (hq : q ≤ tl) (hg : GOOD w) : GL tl w (feR tp tl w q) := by
  intro w' p' h
  obtain ⟨x, hx, e⟩ := numS_r h
  obtain ⟨v, hv, e⟩ := numS_r e
  cases e
  have oU : OKW (upw w (75 + x) v) := okW_f hg.1 hx (by omega)
  exact ⟨GOOD_up hg oU (by omega) (by omega) (by omega) (by omega) (by omega) (fun b => by omega), sameL_upw (by omega) (by omega), upw_ne (by omega), ek_tl tp tl _ (sk_tl (ek_tl tp tl _ (sk_tl hq)))⟩
theorem GL_tr {tp : Nat → Nat} {tl : Nat} {w : Nat → Nat} {q : Nat} (hq : q ≤ tl) (hg : GOOD w) : GL tl w (trR tp tl w q) := by
  intro w' p' h
  obtain ⟨x, hx, e⟩ := numS_r h
  by_cases z : x = w 4 ∨ anyN (lostP w x) (w 1) = true
  · rw [if_pos z] at e; cases e
  · rw [if_neg z] at e
    cases e
    have z1 : ¬ x = w 4 := fun u => z (Or.inl u)
    have z2 : anyN (lostP w x) (w 1) = false := by
      cases hh : anyN (lostP w x) (w 1) with
      | false => rfl
      | true => exact absurd (Or.inr hh) z
    exact ⟨GOOD_tree hg hx (by omega) (fun _ => ⟨z1, lostP_all hg.2.1 z1 z2⟩), sameL_upw (by omega) (by omega), upw_ne (by omega), ek_tl tp tl _ (sk_tl hq)⟩
theorem GL_fi {tp : Nat → Nat} {tl : Nat} {w : Nat → Nat} {q : Nat} (hq : q ≤ tl) (hg : GOOD w) : GL tl w (fiR tp tl w q) := by
  intro w' p' h
  obtain ⟨x, hx, e⟩ := numS_r h
  by_cases z : w (11 + x) = 1
  · rw [if_pos z] at e; cases e
  · rw [if_neg z] at e
    cases e
    obtain ⟨q1, q2, q3, q4, q5, q6⟩ := fireA_ok hg.1 hg.2.2.1 hx z (w 1) (Nat.le_refl _)
    exact ⟨GOOD_fire hg hx z, ⟨q3 3 (by omega), fun j hj => q3 j (by omega)⟩, q3 2 (by omega), ek_tl tp tl _ (sk_tl hq)⟩
theorem GL_pt {tp : Nat → Nat} {tl : Nat} {w : Nat → Nat} {q : Nat} (hq : q ≤ tl) (hg : GOOD w) (h0 : ¬ w 0 = 6) : GL tl w (ptR tp tl w q) := by
  intro w' p' h
  have w0 := hg.1.1.1
  unfold ptR at h
  by_cases z : de tp tl (sk tp tl q) - sk tp tl q = 8 ∧ ptD tp (sk tp tl q) = true
  · rw [if_pos z] at h
    cases h
    have hF : ∀ i, i < 8 → (fun i => tp (sk tp tl q + i) - 48) i ≤ 9 := fun i hi => by
      show tp (sk tp tl q + i) - 48 ≤ 9
      have := z.2
      unfold ptD at this
      rw [allN_iff] at this
      have := of_decide_eq_true (this i hi)
      omega
    generalize (fun i => tp (sk tp tl q + i) - 48) = F at *
    have key : ∀ n, n ≤ 8 → GOOD (ptA w F n) ∧ sameL w (ptA w F n) := by
      intro n
      induction n with
      | zero => intro _; exact ⟨hg, sameL.refl w⟩
      | succ n ih =>
        intro hn
        have ih := ih (by omega)
        have e : ptA w F (n + 1) = upw (ptA w F n) (139 + 8 * w 0 + n) (F n) := rfl
        rw [e]
        have oU : OKW (upw (ptA w F n) (139 + 8 * w 0 + n) (F n)) := okW_n ih.1.1 (by omega) (by omega) (hF n (by omega))
        exact ⟨GOOD_up ih.1 oU (by omega) (by omega) (by omega) (by omega) (by omega) (fun b => by omega), ih.2.trans (sameL_upw (by omega) (by omega))⟩
    have k8 := key 8 (Nat.le_refl _)
    have oU : OKW (upw (ptA w F 8) 0 (w 0 + 1)) := okW_s k8.1.1 (by omega) (by omega) (by omega)
    refine ⟨GOOD_up k8.1 oU (by omega) (by omega) (by omega) (by omega) (by omega) (fun b => by omega), k8.2.trans (sameL_upw (by omega) (by omega)), ?_, ek_tl tp tl _ (sk_tl hq)⟩
    unfold ptW
    rw [upw_ne (by omega), ptA_o _ (by omega)]
  · rw [if_neg z] at h; cases h
theorem nbW_o {w : Nat → Nat} {x p e j : Nat} (h1 : j ≠ 1) (h : j < 187 + 5 * w 1 ∨ 187 + 5 * w 1 + 5 ≤ j) : nbW w x p e j = w j := by
  unfold nbW nbU
  rw [pbw_o (by omega) (by omega), upw_ne (by omega), upw_ne (by omega), upw_ne (by omega), upw_ne h1]
theorem nbW_1 {w : Nat → Nat} {x p e : Nat} : nbW w x p e 1 = w 1 + 1 := by
  unfold nbW nbU
  rw [pbw_o (by omega) (by omega), upw_ne (by omega), upw_ne (by omega), upw_ne (by omega), upw_eq]
theorem GL_by {tp : Nat → Nat} {tl : Nat} {w : Nat → Nat} {q : Nat} (hq : q ≤ tl) (hg : GOOD w) (h1 : ¬ w 1 = 6) : GL tl w (byR tp tl w q) := by
  intro w' p' h
  have e1 := wrdS_r h
  obtain ⟨x, hx, e⟩ := numS_r e1
  by_cases z : w (11 + x) = 1
  · rw [if_pos z] at e; cases e
  rw [if_neg z] at e
  have e := wrdS_r e
  obtain ⟨pt, hpt, e⟩ := numS_r e
  have e := wrdS_r e
  obtain ⟨er, her, e⟩ := numS_r e
  cases e
  have q1 := ek_tl tp tl _ (sk_tl (tp := tp) hq)
  have q2 := ek_tl tp tl _ (sk_tl (tp := tp) q1)
  have q3 := ek_tl tp tl _ (sk_tl (tp := tp) q2)
  have q4 := ek_tl tp tl _ (sk_tl (tp := tp) q3)
  have q5 := ek_tl tp tl _ (sk_tl (tp := tp) q4)
  have q6 := ek_tl tp tl _ (sk_tl (tp := tp) q5)
  obtain ⟨g1, g2, ⟨g3, g4⟩, g5, g6⟩ := hg
  have w4 := g1.1.2.2.2.1
  have w1 := g1.1.2.1
  have w0 := g1.1.1
  have oU : OKW (nbU w pt er) := by
    unfold nbU
    have o1 : OKW (upw w 1 (w 1 + 1)) := okW_s g1 (by omega) (by omega) (by omega)
    have o2 : OKW (upw (upw w 1 (w 1 + 1)) (187 + 5 * w 1 + 1) pt) := okW_b o1 (by omega) (by omega) (by omega)
    have o3 : OKW (upw (upw (upw w 1 (w 1 + 1)) (187 + 5 * w 1 + 1) pt) (187 + 5 * w 1 + 2) er) := okW_b o2 (by omega) (by omega) (by omega)
    exact okW_b o3 (by omega) (by omega) (by omega)
  have n4 : nbW w x pt er 4 = w 4 := nbW_o (by omega) (by omega)
  refine ⟨⟨okW_pb oU (by omega) hx, ?_, ⟨?_, ?_⟩, ?_, ?_⟩, ⟨nbW_o (by omega) (by omega), fun j hj => nbW_o (by omega) (by omega)⟩, nbW_o (by omega) (by omega), q6⟩
  · intro b hb
    rw [nbW_1] at hb
    by_cases u : b = w 1
    · subst u; exact inb_pb
    · unfold inb
      rw [nbW_o (by omega) (by omega), nbW_o (by omega) (by omega), n4]
      exact g2 b (by omega)
  · rw [n4, nbW_o (by omega) (by omega)]; exact g3
  · intro b hb
    rw [nbW_1] at hb
    by_cases u : b = w 1
    · subst u
      have : nbW w x pt er (187 + 5 * w 1) = x := pbw_c
      rw [this, nbW_o (by omega) (by omega)]; exact z
    · have b1 := (g1.2.2.2.1 b (by omega)).2.1
      rw [nbW_o (j := 187 + 5 * b) (by omega) (by omega), nbW_o (by omega) (by omega)]
      exact g4 b (by omega)
  · intro a ha
    rw [nbW_o (by omega) (by omega)] at ha
    rw [nbW_o (by omega) (by omega), nbW_o (by omega) (by omega), nbW_o (by omega) (by omega), nbW_o (by omega) (by omega), nbW_o (by omega) (by omega)]
    exact g5 a ha
  · intro b hb h6
    rw [nbW_1] at hb
    rw [nbW_o (by omega) (by omega)]
    exact g6 b (by omega) h6
theorem GL_ln {tp : Nat → Nat} {tl p : Nat} {w : Nat → Nat} (hp : p ≤ tl) (hg : GOOD w) : GL tl w (lnW tp tl w p) := by
  have hq := ek_tl tp tl _ (sk_tl (tp := tp) hp)
  have no : ∀ f, GL tl w (.inl f) := fun f w' p' h => by cases h
  unfold lnW
  split
  · split
    · exact no _
    · rename_i z; exact GL_pt hq hg z
  split
  · split
    · exact no _
    · rename_i z; exact GL_by hq hg z
  split
  · exact GL_tr hq hg
  split
  · exact GL_fe hq hg
  split
  · exact GL_fi hq hg
  split
  · exact GL_st hq hg (by omega)
  split
  · exact GL_st hq hg (by omega)
  split
  · exact GL_st hq hg (by omega)
  split
  · exact GL_st hq hg (by omega)
  exact no _
/-- the lines of a wood's text -/
def rdW (tp : Nat → Nat) (tl : Nat) : Nat → (Nat → Nat) → Nat → Nat ⊕ (Nat → Nat)
  | 0, _, p => .inl (sk tp tl p)
  | k + 1, w, p => match lnW tp tl w p with
    | .inl f => .inl f
    | .inr (w', p') => if kd tp tl (sk tp tl p') = 0 then .inr w' else if isS tp tl (sk tp tl p') 59 = true then rdW tp tl k w' (ek tp tl (sk tp tl p')) else .inl (sk tp tl p')
def rdA (tp : Nat → Nat) (tl : Nat) (w : Nat → Nat) : Nat ⊕ (Nat → Nat) := if kd tp tl (sk tp tl 0) = 0 then .inr w else rdW tp tl 14 w 0
theorem rdW_ok {tp : Nat → Nat} {tl : Nat} : ∀ k w p, p ≤ tl → GOOD w → ∀ w', rdW tp tl k w p = .inr w' → GOOD w' ∧ sameL w w' ∧ w' 2 = w 2 := by
  intro k
  induction k with
  | zero => intro w p _ _ w' h; cases h
  | succ k ih =>
    intro w p hp hg w' h
    unfold rdW at h
    cases e : lnW tp tl w p with
    | inl f => rw [e] at h; cases h
    | inr r =>
      obtain ⟨w1, p1⟩ := r
      rw [e] at h
      obtain ⟨a1, a2, a3, a4⟩ := GL_ln hp hg w1 p1 e
      simp only at h
      by_cases z : kd tp tl (sk tp tl p1) = 0
      · rw [if_pos z] at h; cases h; exact ⟨a1, a2, a3⟩
      · rw [if_neg z] at h
        by_cases y : isS tp tl (sk tp tl p1) 59 = true
        · rw [if_pos y] at h
          obtain ⟨b1, b2, b3⟩ := ih w1 _ (ek_tl tp tl _ (sk_tl a4)) a1 w' h
          exact ⟨b1, a2.trans b2, b3.trans a3⟩
        · rw [if_neg y] at h; cases h
theorem rdA_ok {tp : Nat → Nat} {tl : Nat} {w w' : Nat → Nat} (hg : GOOD w) (h : rdA tp tl w = .inr w') : GOOD w' ∧ sameL w w' ∧ w' 2 = w 2 := by
  unfold rdA at h
  by_cases z : kd tp tl (sk tp tl 0) = 0
  · rw [if_pos z] at h; cases h; exact ⟨hg, sameL.refl _, rfl⟩
  · rw [if_neg z] at h; exact rdW_ok 14 w 0 (Nat.zero_le _) hg w' h
/-! the class's lines -/
theorem kd0 {tp : Nat → Nat} {tl b : Nat} : kd tp tl b = 0 ↔ ¬ b < tl := by
  rcases kd_c tp tl b with ⟨z, e⟩ | ⟨z, _, e⟩ | ⟨z, _, e⟩ | ⟨z, _, _, e⟩ <;> constructor <;> intro h <;> omega
theorem C_woodLoop {K : Int32 → (Nat → Nat → Int32) → (Nat → Nat → Int64) → Prop} {d Ln c s : Nat} {tp : Nat → Nat} {tl : Nat} {a1 : Int32} (hd : 44 ≤ d) (hl : tl ≤ 400) (h6 : ∀ j, tp j < 256) {I0 : Nat → Nat → Int32} {L0 : Nat → Nat → Int64} (r : Nat ⊕ (Nat → Nat)) (kf : ∀ f, r = .inl f → ∀ I' L', I' 130 5 = nI f → FQ I0 I' L0 L' → K (-1) I' L') (kt : ∀ w', r = .inr w' → ∀ n, n < 100 → ∀ I' L', RC w' I' L' → I' 130 5 = -1 → FQ I0 I' L0 L' → K (nI n) I' L') : ∀ k n, n + k = 14 → ∀ w p I L, r = rdW tp tl k w p → p ≤ tl → STR I → TK tp tl 130 I p → TXc tp I → RC w I L → GOOD w → I 130 5 = -1 → FQ I0 I L0 L → dd_Rn d m_X4_readLines (38, [.ref 130, .int a1, .int 14, .int (nI (n + 1))], [], sM Ln I L c s) (dd_RI Ln c s K) := by
  intro k
  induction k with
  | zero =>
    intro n hn w p I L er hp hS ht hx hC hg h5 fq
    refine w_X4_readLines_130_38 (by omega) ?_
    rw [li_14, nI_ltI (by omega) (by omega)]
    refine ⟨fun _ => ?_, fun z => absurd (by omega) z⟩
    exact C_refuse (by omega) (Or.inl rfl) ht.2.2.1 fun I' h5' f _ => dd_qi (kf _ er I' L h5' (fq.trans (FQ.b f)))
  | succ k ih =>
    intro n hn w p I L er hp hS ht hx hC hg h5 fq
    refine w_X4_readLines_130_38 (by omega) ?_
    rw [li_14, nI_ltI (by omega) (by omega)]
    refine ⟨fun z => absurd z (by omega), fun _ => ?_⟩
    refine C_woodLine (tp := tp) (by omega) hS hl hp ht hx h6 hC hg ⟨fun f e I' L' h5' g => ?_, fun w' p' e I' L' rc tk h5' g => ?_⟩
    · refine ⟨fun _ => dd_qi (kf f (by rw [er, rdW, e]) I' L' h5' (fq.trans g)), fun z => absurd rfl z⟩
    · obtain ⟨a1', a2, a3, a4⟩ := GL_ln hp hg w' p' e
      have er2 : r = if kd tp tl (sk tp tl p') = 0 then .inr w' else if isS tp tl (sk tp tl p') 59 = true then rdW tp tl k w' (ek tp tl (sk tp tl p')) else .inl (sk tp tl p') := by rw [er, rdW, e]
      have k4 := kd_lt tp tl (sk tp tl p')
      refine ⟨fun z => absurd z (by decide), fun _ => ?_⟩
      rw [tk.2.1, li_0, nI_eq (by omega) (by omega)]
      refine ⟨fun z => dd_qi (kt w' (by rw [er2, if_pos z]) _ (by omega) I' L' rc (h5'.trans h5) (fq.trans g)), fun z => ?_⟩
      refine C_takeSign (tp := tp) (v := 59) (by omega) (Or.inl rfl) (by omega) hl a4 tk (g.x hx) h6 (fun ns I2 h52 f2 => ?_) (fun ns I2 t2 f2 => ?_)
      · exact ⟨fun _ => dd_qi (kf _ (by rw [er2, if_neg z, if_neg (by rw [ns]; decide)]) I2 L' h52 (fq.trans (g.trans (FQ.b f2)))), fun z => absurd rfl z⟩
      · refine ⟨fun z => absurd z (by decide), fun _ => ?_⟩
        rw [nI_1]
        exact ih (n + 1) (by omega) w' (ek tp tl (sk tp tl p')) I2 L' (by rw [er2, if_neg z, if_pos ns]) (ek_tl tp tl _ (sk_tl a4)) ((FQ.a (L := L') f2).s (g.s hS)) t2 ((FQ.a (L := L') f2).x (g.x hx)) (rc.r f2) a1' (by rw [f2.2 5 (by decide), h5', h5]) (fq.trans (g.trans (FQ.a f2)))
theorem C_woodLines {d Ln c s : Nat} {I : Nat → Nat → Int32} {L : Nat → Nat → Int64} {K : Int32 → (Nat → Nat → Int32) → (Nat → Nat → Int64) → Prop} {tp : Nat → Nat} {tl : Nat} {w : Nat → Nat} (hd : 44 ≤ d) (hS : STR I) (hl : tl ≤ 400) (hx : TXc tp I) (h6 : ∀ j, tp j < 256) (hC : RC w I L) (hg : GOOD w) (kf : ∀ f, rdA tp tl w = .inl f → ∀ I' L', I' 130 5 = nI f → (∀ k, (k = 0 ∨ 9 ≤ k) → k ≠ 130 → I' k = I k) → (∀ k, k ≠ 1 → L' k = L k) → K (-1) I' L') (kt : ∀ w', rdA tp tl w = .inr w' → ∀ n, n < 100 → ∀ I' L', RC w' I' L' → I' 130 5 = -1 → (∀ k, (k = 0 ∨ 9 ≤ k) → k ≠ 130 → I' k = I k) → (∀ k, k ≠ 1 → L' k = L k) → K (nI n) I' L') : dd_Ev d m_X4_readLines [.ref 130, .int (nI tl), .int 14] (sM Ln I L c s) (dd_RI Ln c s K) := by
  refine w_X4_readLines_130_0 (by omega) ?_
  have em : (if (400 : Int32) < nI tl then 400 else nI tl) = nI tl := if_neg (fun z => by rw [li_400, nI_ltI (by omega) (by omega)] at z; omega)
  rw [em]
  simp only [dd_u_u]
  have hf : ∀ k, k ≠ 130 → dd_u I 130 (upd (upd (upd (I 130) 1 (nI tl)) 4 0) 5 (-1)) k = I k := fun k hk => dd_un hk
  have j1 : dd_u I 130 (upd (upd (upd (I 130) 1 (nI tl)) 4 0) 5 (-1)) 130 1 = nI tl := by rw [dd_us, pk_un (by decide), pk_un (by decide), pk_us]
  have j4 : dd_u I 130 (upd (upd (upd (I 130) 1 (nI tl)) 4 0) 5 (-1)) 130 4 = nI 0 := by rw [dd_us, pk_un (by decide), pk_us]; rfl
  have j5 : dd_u I 130 (upd (upd (upd (I 130) 1 (nI tl)) 4 0) 5 (-1)) 130 5 = -1 := by rw [dd_us, pk_us]
  generalize dd_u I 130 (upd (upd (upd (I 130) 1 (nI tl)) 4 0) 5 (-1)) = J at *
  have hxJ : TXc tp J := fun j hj => by rw [hf 129 (by decide)]; exact hx j hj
  have hSJ : STR J := hS.of fun k hk => hf k (by omega)
  have hCJ : RC w J L := hC.of (fun j _ _ => hf j (by omega)) rfl
  refine C_advance (tp := tp) (p := 0) (by omega) (Or.inl rfl) hl (Nat.zero_le _) j1 j4 hxJ h6 fun I1 t1 f1 => ?_
  have fq := FQ.a (L := L) f1
  have k4 := kd_lt tp tl (sk tp tl 0)
  rw [t1.2.1, li_0, nI_eq (by omega) (by omega)]
  refine ⟨fun z => ?_, fun z => ?_⟩
  · exact dd_qi (kt w (by unfold rdA; rw [if_pos z]) 0 (by omega) I1 L (hCJ.r f1) (by rw [f1.2 5 (by decide)]; exact j5) (fun k a b => by rw [fq.1 k a b, hf k b]) (fun _ _ => rfl))
  · refine C_woodLoop (tp := tp) (tl := tl) (I0 := J) (L0 := L) (by omega) hl h6 (rdA tp tl w) (fun f e I' L' h5 g => kf f e I' L' h5 (fun k a b => by rw [g.1 k a b, hf k b]) g.2.2) (fun w' e n hn I' L' rc h5 g => kt w' e n hn I' L' rc h5 (fun k a b => by rw [g.1 k a b, hf k b]) g.2.2) 14 0 rfl w 0 I1 L (by unfold rdA; rw [if_neg z]) (Nat.zero_le _) (fq.s hSJ) t1 (fq.x hxJ) (hCJ.r f1) hg (by rw [f1.2 5 (by decide)]; exact j5) fq
/-! the model's lines -/
abbrev BR : List Nat := [0, 9, 10, 11, 12, 16]
theorem M_woodLoop {K : Int32 → (Nat → Nat → Int32) → (Nat → Nat → Int64) → Prop} {d Ln c s : Nat} {L : Nat → Nat → Int64} {tp : Nat → Nat} {tl : Nat} (hd : 46 ≤ d) (hl : tl ≤ 400) (h6 : ∀ j, tp j < 256) {I0 : Nat → Nat → Int32} (r : Nat ⊕ (Nat → Nat)) (kf : ∀ f, r = .inl f → ∀ I', I' 148 12 = nI f → FR 148 [149] [10, 12] I0 I' → K (-1) I' L) (kt : ∀ w', r = .inr w' → ∀ n, n < 100 → ∀ I', RM w' I' → FR 148 [149] [10, 12] I0 I' → K (nI n) I' L) : ∀ k n, n + k = 14 → ∀ w p I, r = rdW tp tl k w p → p ≤ tl → STR I → I 148 10 = nI p → I 148 11 = nI tl → TXm tp I → RM w I → GOOD w → FR 148 [149] [10, 12] I0 I → dd_Rn d m_X11_readAll (28, [.ref 148, .int 1, .int (nI n)], [], sM Ln I L c s) (dd_RI Ln c s K) := by
  intro k
  induction k with
  | zero =>
    intro n hn w p I er hp hS h10 h11 hx hR hg fr
    refine w_X11_readAll_28 (by omega) ?_
    refine w_X11_readLine_0 (by omega) ?_
    refine M_letters (tp := tp) (by omega) hl hp h10 h11 hx h6 fun J j10 j12 fj => ?_
    rw [li_14, nI_leI (by omega) (by omega)]
    refine ⟨fun z => absurd z (by decide), fun _ => ⟨fun _ => dd_qi ⟨fun _ => dd_qi (kf _ er J j12 (fr.trans (FRa fj))), fun z => absurd rfl z⟩, fun z => absurd (by omega) z⟩⟩
  | succ k ih =>
    intro n hn w p I er hp hS h10 h11 hx hR hg fr
    refine w_X11_readAll_28 (by omega) ?_
    refine w_X11_readLine_0 (by omega) ?_
    refine M_letters (tp := tp) (by omega) hl hp h10 h11 hx h6 fun J j10 j12 fj => ?_
    rw [li_14, nI_leI (by omega) (by omega)]
    refine ⟨fun z => absurd z (by decide), fun _ => ⟨fun z => absurd z (by omega), fun _ => ⟨fun z => absurd z (by decide), fun _ => ?_⟩⟩⟩
    have a11 : J 148 11 = nI tl := by rw [fj.2 11 (by decide)]; exact h11
    refine M_woodLine (tp := tp) (p := p) (by omega) (hS.f fj (by simp)) hl hp j10 j12 a11 (hx.f fj (by decide)) h6 (hR.r fj) hg ⟨fun f e I' h5' g => ?_, fun w' p' e I' rm b10 g => ?_⟩
    · exact ⟨fun _ => dd_qi ⟨fun _ => dd_qi (kf f (by rw [er, rdW, e]) I' h5' (fr.trans ((FRa fj).trans g))), fun z => absurd rfl z⟩, fun z => absurd rfl z⟩
    · obtain ⟨a1', a2, a3, a4⟩ := GL_ln hp hg w' p' e
      have er2 : r = if kd tp tl (sk tp tl p') = 0 then .inr w' else if isS tp tl (sk tp tl p') 59 = true then rdW tp tl k w' (ek tp tl (sk tp tl p')) else .inl (sk tp tl p') := by rw [er, rdW, e]
      have g' := (FRa fj).trans g
      refine ⟨fun z => absurd z (by decide), fun _ => dd_qi ⟨fun z => absurd z (by decide), fun _ => ?_⟩⟩
      have x' := hx.f g' (by decide)
      have b11 : I' 148 11 = nI tl := by rw [g'.2 11 (by decide)]; exact h11
      refine M_blanks (tp := tp) (by omega) hl a4 b10 b11 x' h6 fun I2 c10 c12 f2 => ?_
      have hs := sk_tl (tp := tp) a4
      have c11 : I2 148 11 = nI tl := by rw [f2.2 11 (by decide)]; exact b11
      have fr2 := fr.trans (g'.trans (FRa f2))
      rw [c10, c11, nI_eq (by omega) (by omega), nI_1]
      refine ⟨fun z => dd_qi (kt w' (by rw [er2, if_pos (kd0.mpr (by omega))]) _ (by omega) I2 (rm.r f2) fr2), fun z => ?_⟩
      have z0 : ¬ kd tp tl (sk tp tl p') = 0 := fun u => by have := kd0.mp u; omega
      refine M_isAt (tp := tp) (tl := tl) (q := sk tp tl p') (lo := 59) (hi := 59) (by omega) hl (by omega) c10 c11 (x'.f f2 (by decide)) h6 (by omega) (by omega) (by omega) ?_
      rw [isR_S, bI_z]
      cases ns : isS tp tl (sk tp tl p') 59 with
      | false => exact ⟨fun _ => dd_qi (kf _ (by rw [er2, if_neg z0, if_neg (by rw [ns]; decide)]) I2 c12 fr2), fun z => absurd rfl z⟩
      | true =>
        refine ⟨fun z => (by cases z), fun _ => ?_⟩
        rw [c10, nI_1, ← (isS_k (by omega) ns).2.1]
        have f3 : FR 148 [] [10, 12] I2 (dd_u I2 148 (upd (I2 148) 10 (nI (ek tp tl (sk tp tl p'))))) := (FR.refl I2).v (by decide)
        exact ih (n + 1) (by omega) w' (ek tp tl (sk tp tl p')) _ (by rw [er2, if_neg z0, if_pos ns]) (ek_tl tp tl _ hs) (((hS.f g' (by decide)).f f2 (by simp)).f f3 (by simp)) (by rw [dd_us, pk_us]) (by rw [f3.2 11 (by decide)]; exact c11) ((x'.f f2 (by decide)).f f3 (by decide)) ((rm.r f2).r f3) a1' (fr2.trans (FRa f3))
theorem M_woodLines {d Ln c s : Nat} {I : Nat → Nat → Int32} {L : Nat → Nat → Int64} {K : Int32 → (Nat → Nat → Int32) → (Nat → Nat → Int64) → Prop} {tp : Nat → Nat} {tl : Nat} {w : Nat → Nat} (hd : 48 ≤ d) (hS : STR I) (hl : tl ≤ 400) (h9 : I 148 9 = nI tl) (hx : TXm tp I) (h6 : ∀ j, tp j < 256) (hR : RM w I) (hg : GOOD w) (kf : ∀ f, rdA tp tl w = .inl f → ∀ I', I' 148 12 = nI f → I' 148 0 = 0 → I' 148 9 = 0 → FR 148 [149] BR I I' → K (-1) I' L) (kt : ∀ w', rdA tp tl w = .inr w' → ∀ n, n < 100 → ∀ I', RM w' I' → I' 148 0 = 0 → I' 148 9 = 0 → FR 148 [149] BR I I' → K (nI n) I' L) : dd_Ev d m_X11_readAll [.ref 148, .int 1] (sM Ln I L c s) (dd_RI Ln c s K) := by
  refine w_X11_readAll_0 (by omega) ?_
  simp only [dd_u_u]
  rw [h9]
  have j0 : dd_u I 148 (upd (upd (upd (upd (upd (I 148) 0 0) 11 (nI tl)) 9 0) 10 0) 16 0) 148 0 = 0 := by rw [dd_us, pk_un (by decide), pk_un (by decide), pk_un (by decide), pk_un (by decide), pk_us]
  have j9 : dd_u I 148 (upd (upd (upd (upd (upd (I 148) 0 0) 11 (nI tl)) 9 0) 10 0) 16 0) 148 9 = 0 := by rw [dd_us, pk_un (by decide), pk_un (by decide), pk_us]
  have j10 : dd_u I 148 (upd (upd (upd (upd (upd (I 148) 0 0) 11 (nI tl)) 9 0) 10 0) 16 0) 148 10 = nI 0 := by rw [dd_us, pk_un (by decide), pk_us]; rfl
  have j11 : dd_u I 148 (upd (upd (upd (upd (upd (I 148) 0 0) 11 (nI tl)) 9 0) 10 0) 16 0) 148 11 = nI tl := by rw [dd_us, pk_un (by decide), pk_un (by decide), pk_un (by decide), pk_us]
  have fJ : FR 148 [] BR I (dd_u I 148 (upd (upd (upd (upd (upd (I 148) 0 0) 11 (nI tl)) 9 0) 10 0) 16 0)) := by
    refine ⟨fun k _ z => dd_un z, fun j hj => ?_⟩
    simp only [List.mem_cons, List.not_mem_nil, or_false, not_or] at hj
    rw [dd_us, pk_un (by omega), pk_un (by omega), pk_un (by omega), pk_un (by omega), pk_un (by omega)]
  generalize dd_u I 148 (upd (upd (upd (upd (upd (I 148) 0 0) 11 (nI tl)) 9 0) 10 0) 16 0) = J at *
  refine M_blanks (tp := tp) (p := 0) (by omega) hl (Nat.zero_le _) j10 j11 (hx.f fJ (by decide)) h6 fun I1 b10 b12 f1 => ?_
  have hs := sk_tl (tp := tp) (Nat.zero_le tl)
  have b11 : I1 148 11 = nI tl := by rw [f1.2 11 (by decide)]; exact j11
  have fin : ∀ I', FR 148 [149] [10, 12] I1 I' → I' 148 0 = 0 ∧ I' 148 9 = 0 ∧ FR 148 [149] BR I I' := fun I' f => by
    have g := (FRa f1).trans f
    refine ⟨by rw [g.2 0 (by decide)]; exact j0, by rw [g.2 9 (by decide)]; exact j9, (fJ.mono (by decide) (fun _ q => q)).trans (g.mono (fun _ q => q) (by decide))⟩
  rw [b10, b11, nI_eq (by omega) (by omega)]
  have sk_2 : sk tp tl (sk tp tl 0) = sk tp tl 0 := rn_n (rn_end (p := isB tp) (tl := tl) 0)
  refine ⟨fun z => ?_, fun z => ?_⟩
  · have f := fin I1 (FR.refl I1)
    exact dd_qi (kt w (by unfold rdA; rw [if_pos (kd0.mpr (by omega))]) 0 (by omega) I1 ((hR.r fJ).r f1) f.1 f.2.1 f.2.2)
  · have z0 : ¬ kd tp tl (sk tp tl 0) = 0 := fun u => by have := kd0.mp u; omega
    have er : rdA tp tl w = rdW tp tl 14 w (sk tp tl 0) := by
      unfold rdA
      rw [if_neg z0]
      have : lnW tp tl w (sk tp tl 0) = lnW tp tl w 0 := by unfold lnW; rw [sk_2]
      rw [rdW, rdW, this]
    refine M_woodLoop (tp := tp) (tl := tl) (I0 := I1) (by omega) hl h6 (rdA tp tl w) (fun f e I' h5 g => ?_) (fun w' e n hn I' rm g => ?_) 14 0 rfl w (sk tp tl 0) I1 er hs ((hS.f fJ (by simp)).f f1 (by simp)) b10 b11 ((hx.f fJ (by decide)).f f1 (by decide)) ((hR.r fJ).r f1) hg (FR.refl I1)
    · have q := fin I' g
      exact kf f e I' h5 q.1 q.2.1 q.2.2
    · have q := fin I' g
      exact kt w' e n hn I' rm q.1 q.2.1 q.2.2
