/-! law: the class's sums and atoms -/
def pT (tp : Nat → Nat) (tl n : Nat) (g : Nat × Nat → List (Nat × Nat)) (cc : List Int32) (p : Nat) : PR := match tmA tp tl (sk tp tl p) with
  | none => .inl (sk tp tl p)
  | some (t, x) => pS tp tl n (g t) (cc ++ [x]) (ek tp tl (sk tp tl p))
theorem pT_n {tp : Nat → Nat} {tl n : Nat} {g : Nat × Nat → List (Nat × Nat)} {cc : List Int32} {p : Nat} (h : tmA tp tl (sk tp tl p) = none) : pT tp tl n g cc p = .inl (sk tp tl p) := by unfold pT; rw [h]
theorem pT_s {tp : Nat → Nat} {tl n : Nat} {g : Nat × Nat → List (Nat × Nat)} {cc : List Int32} {p : Nat} {t : Nat × Nat} {x : Int32} (h : tmA tp tl (sk tp tl p) = some (t, x)) : pT tp tl n g cc p = pS tp tl n (g t) (cc ++ [x]) (ek tp tl (sk tp tl p)) := by unfold pT; rw [h]
theorem pM_T (tp : Nat → Nat) (tl p : Nat) : pM tp tl p = pT tp tl 401 (fun t => [t]) [] p := by
  unfold pM pT
  cases tmA tp tl (sk tp tl p) with
  | none => rfl
  | some tx => rfl
theorem pS_T {tp : Nat → Nat} {tl n p : Nat} {m : List (Nat × Nat)} {cc : List Int32} (h : isS tp tl (sk tp tl p) 43 = true) : pS tp tl (n + 1) m cc p = pT tp tl n (fun t => m ++ [t, (11, 0)]) cc (ek tp tl (sk tp tl p)) := by
  rw [pS, if_pos h]
  unfold pT
  cases tmA tp tl (sk tp tl (ek tp tl (sk tp tl p))) with
  | none => rfl
  | some tx => rfl
def tmX (tp : Nat → Nat) (tl b : Nat) : Int32 := match tmA tp tl b with
  | none => -1
  | some tx => tx.2
theorem tmX_n {tp : Nat → Nat} {tl b : Nat} (h : tmA tp tl b = none) : tmX tp tl b = -1 := by unfold tmX; rw [h]
theorem tmX_s {tp : Nat → Nat} {tl b : Nat} {t : Nat × Nat} {x : Int32} (h : tmA tp tl b = some (t, x)) : tmX tp tl b = x := by unfold tmX; rw [h]
theorem tmA_m {tp : Nat → Nat} {tl b : Nat} {t : Nat × Nat} {x : Int32} (h : tmA tp tl b = some (t, x)) : ¬ x = -1 := by
  by_cases k : kd tp tl b = 1
  · cases e : tmW tp tl b with
    | none => rw [tmA_0 k e] at h; cases h
    | some i =>
      rw [tmA_i k e] at h
      cases h
      have hi := tmW_lt e
      have e : i = 0 ∨ i = 1 ∨ i = 2 ∨ i = 3 ∨ i = 4 ∨ i = 5 ∨ i = 6 ∨ i = 7 := by omega
      rcases e with e | e | e | e | e | e | e | e <;> subst e <;> decide
  · cases e : numA tp tl b 1000 with
    | none => rw [tmA_n k e] at h; cases h
    | some v =>
      rw [tmA_v k e] at h
      cases h
      have := numA_s e
      exact nmX (by omega)
theorem C_term {d Ln c s : Nat} {I : Nat → Nat → Int32} {L : Nat → Nat → Int64} {Q : dd_O → Prop} {tp : Nat → Nat} {tl p t : Nat} {a2 : Value} (hd : 34 ≤ d) (hl : tl ≤ 400) (hp : p ≤ tl) (h6 : ∀ j, tp j < 256) (ht : TK tp tl 131 I p) (hx : TXc tp I) (hS : STR I) (h4 : t ≤ 400) (kk : dd_Rn d m_X3_readSum (139, [.ref 131, .int (nI t), a2], [.int (tmX tp tl (sk tp tl p))], sM Ln I L c s) Q) : dd_Rn d m_X3_readSum (2, [.ref 131, .int (nI t), a2], [], sM Ln I L c s) Q := by
  have hb := sk_tl (tp := tp) hp
  have k4 := kd_lt tp tl (sk tp tl p)
  refine w_X3_readSum_2 (by omega) ?_
  rw [li_400, nI_ltI (by omega) (by omega)]
  refine ⟨fun z => absurd z (by omega), fun _ => ?_⟩
  rw [ht.2.1, li_2, nI_eq (by omega) (by omega)]
  refine ⟨fun z => ?_, fun z => ?_⟩
  · refine C_numberUpTo (tp := tp) (m := 1000) (by omega) (Or.inr rfl) (by omega) rfl hl hp ht hx h6 ?_
    have k1 : ¬ kd tp tl (sk tp tl p) = 1 := by omega
    cases e : numA tp tl (sk tp tl p) 1000 with
    | none => rw [tmX_n (tmA_n k1 e)] at kk; exact kk
    | some v => rw [tmX_s (tmA_v k1 e)] at kk; exact kk
  · have eX : tmX tp tl (sk tp tl p) = match tmW tp tl (sk tp tl p) with | none => -1 | some i => -20 - nI i := by
      by_cases k1 : kd tp tl (sk tp tl p) = 1
      · cases e : tmW tp tl (sk tp tl p) with
        | none => rw [tmX_n (tmA_0 k1 e)]
        | some i => rw [tmX_s (tmA_i k1 e)]
      · have no : ∀ v, v < 71 → isW tp tl (sk tp tl p) v = false := fun v hv => by
          cases q : isW tp tl (sk tp tl p) v with
          | false => rfl
          | true => exact absurd (isW_k hv q).1 k1
        have e0 : tmW tp tl (sk tp tl p) = none := by
          unfold tmW
          rw [no 47 (by omega), no 46 (by omega), no 50 (by omega), no 65 (by omega), no 66 (by omega), no 67 (by omega), no 68 (by omega), no 56 (by omega)]
          rfl
        have e1 : numA tp tl (sk tp tl p) 1000 = none := by
          cases q : numA tp tl (sk tp tl p) 1000 with
          | none => rfl
          | some v => exact absurd (numA_s q).2.2.1 z
        rw [tmX_n (tmA_n k1 e1), e0]
    rw [eX] at kk
    unfold tmW at kk
    refine C_isWord (tp := tp) (w := 7) (by omega) (Or.inr rfl) (by omega) hS hl hp ht hx h6 ?_
    rw [bI_z, isW_c (w := 7) (w' := 47) rfl]
    cases e1 : isW tp tl (sk tp tl p) 47 with
    | true => rw [if_pos e1] at kk; exact ⟨fun y => (by cases y), fun _ => kk⟩
    | false =>
    rw [if_neg (by rw [e1]; decide)] at kk
    refine ⟨fun _ => ?_, fun y => absurd rfl y⟩
    refine C_isWord (tp := tp) (w := 8) (by omega) (Or.inr rfl) (by omega) hS hl hp ht hx h6 ?_
    rw [bI_z, isW_c (w := 8) (w' := 46) rfl]
    cases e2 : isW tp tl (sk tp tl p) 46 with
    | true => rw [if_pos e2] at kk; exact ⟨fun y => (by cases y), fun _ => kk⟩
    | false =>
    rw [if_neg (by rw [e2]; decide)] at kk
    refine ⟨fun _ => ?_, fun y => absurd rfl y⟩
    refine C_isWord (tp := tp) (w := 9) (by omega) (Or.inr rfl) (by omega) hS hl hp ht hx h6 ?_
    rw [bI_z, isW_c (w := 9) (w' := 50) rfl]
    cases e3 : isW tp tl (sk tp tl p) 50 with
    | true => rw [if_pos e3] at kk; exact ⟨fun y => (by cases y), fun _ => kk⟩
    | false =>
    rw [if_neg (by rw [e3]; decide)] at kk
    refine ⟨fun _ => ?_, fun y => absurd rfl y⟩
    refine C_isWord (tp := tp) (w := 10) (by omega) (Or.inr rfl) (by omega) hS hl hp ht hx h6 ?_
    rw [bI_z, isW_c (w := 10) (w' := 65) rfl]
    cases e4 : isW tp tl (sk tp tl p) 65 with
    | true => rw [if_pos e4] at kk; exact ⟨fun y => (by cases y), fun _ => kk⟩
    | false =>
    rw [if_neg (by rw [e4]; decide)] at kk
    refine ⟨fun _ => ?_, fun y => absurd rfl y⟩
    refine C_isWord (tp := tp) (w := 11) (by omega) (Or.inr rfl) (by omega) hS hl hp ht hx h6 ?_
    rw [bI_z, isW_c (w := 11) (w' := 66) rfl]
    cases e5 : isW tp tl (sk tp tl p) 66 with
    | true => rw [if_pos e5] at kk; exact ⟨fun y => (by cases y), fun _ => kk⟩
    | false =>
    rw [if_neg (by rw [e5]; decide)] at kk
    refine ⟨fun _ => ?_, fun y => absurd rfl y⟩
    refine C_isWord (tp := tp) (w := 12) (by omega) (Or.inr rfl) (by omega) hS hl hp ht hx h6 ?_
    rw [bI_z, isW_c (w := 12) (w' := 67) rfl]
    cases e6 : isW tp tl (sk tp tl p) 67 with
    | true => rw [if_pos e6] at kk; exact ⟨fun y => (by cases y), fun _ => kk⟩
    | false =>
    rw [if_neg (by rw [e6]; decide)] at kk
    refine ⟨fun _ => ?_, fun y => absurd rfl y⟩
    refine C_isWord (tp := tp) (w := 13) (by omega) (Or.inr rfl) (by omega) hS hl hp ht hx h6 ?_
    rw [bI_z, isW_c (w := 13) (w' := 68) rfl]
    cases e7 : isW tp tl (sk tp tl p) 68 with
    | true => rw [if_pos e7] at kk; exact ⟨fun y => (by cases y), fun _ => kk⟩
    | false =>
    rw [if_neg (by rw [e7]; decide)] at kk
    refine ⟨fun _ => ?_, fun y => absurd rfl y⟩
    refine C_isWord (tp := tp) (w := 14) (by omega) (Or.inr rfl) (by omega) hS hl hp ht hx h6 ?_
    rw [bI_z, isW_c (w := 14) (w' := 56) rfl]
    cases e8 : isW tp tl (sk tp tl p) 56 with
    | true => rw [if_pos e8] at kk; exact ⟨fun y => (by cases y), fun _ => kk⟩
    | false =>
    rw [if_neg (by rw [e8]; decide)] at kk
    exact ⟨fun _ => kk, fun y => absurd rfl y⟩
/-- both ends of a sum: l0 was out before -/
def CR (tp : Nat → Nat) (tl e br : Nat) (st l0 : List Int32) (r : PR) (I : Nat → Nat → Int32) (L : Nat → Nat → Int64) (K : Int32 → (Nat → Nat → Int32) → (Nat → Nat → Int64) → Prop) : Prop :=
  (∀ f, r = .inl f → ∀ I', I' 131 5 = nI f → FYl I I' → K 0 I' L) ∧ (∀ m cc q, r = .inr (m, cc, q) → ∀ I', CX tp tl I' q e br st (l0 ++ cc) → FYl I I' → K 1 I' L)
theorem CR.g {tp : Nat → Nat} {tl e br : Nat} {st l0 : List Int32} {r : PR} {I J : Nat → Nat → Int32} {L : Nat → Nat → Int64} {K : Int32 → (Nat → Nat → Int32) → (Nat → Nat → Int64) → Prop} (h : CR tp tl e br st l0 r I L K) (f : FYl I J) : CR tp tl e br st l0 r J L K :=
  ⟨fun a x I' h5 g => h.1 a x I' h5 (f.trans g), fun m cc q x I' mx g => h.2 m cc q x I' mx (f.trans g)⟩
theorem C_sumLoop {K : Int32 → (Nat → Nat → Int32) → (Nat → Nat → Int64) → Prop} {Ln c s : Nat} {L : Nat → Nat → Int64} {tp : Nat → Nat} {tl e br : Nat} {st l0 : List Int32} (hl : tl ≤ 400) (h6 : ∀ j, tp j < 256) : ∀ n d t g cc p I a2, 36 ≤ d → p ≤ tl → tl ≤ p + n → t ≤ p → CX tp tl I p e br st (l0 ++ cc) → (l0 ++ cc).length < p → CR tp tl e br st l0 (pT tp tl n g cc p) I L K → dd_Rn d m_X3_readSum (2, [.ref 131, .int (nI t), a2], [], sM Ln I L c s) (dd_RI Ln c s K) := by
  intro n
  induction n with
  | zero =>
    intro d t g cc p I a2 hd hp ht htp h hm mr
    have hb := sk_tl (tp := tp) hp
    refine C_term (tp := tp) (by omega) hl hp h6 h.1 h.2.1 h.2.2.1 (by omega) ?_
    refine w_X3_readSum_139 (by omega) ?_
    have k0 : kd tp tl (sk tp tl p) = 0 := kd0.mpr (by have := sk_le (tp := tp) (tl := tl) (p := p); omega)
    have en : tmA tp tl (sk tp tl p) = none := by
      cases e : tmA tp tl (sk tp tl p) with
      | none => rfl
      | some tx => obtain ⟨t, x⟩ := tx; have := (tmA_ok e).1; omega
    rw [tmX_n en]
    refine ⟨fun _ => ?_, fun z => absurd rfl z⟩
    exact C_refuse (by omega) (Or.inr rfl) h.1.2.2.1 fun I' h5 f _ => ⟨Or.inl rfl, dd_qi (mr.1 _ (pT_n en) I' h5 (FYl.b f))⟩
  | succ n ih =>
    intro d t g cc p I a2 hd hp ht htp h hm mr
    refine C_term (tp := tp) (by omega) hl hp h6 h.1 h.2.1 h.2.2.1 (by omega) ?_
    refine w_X3_readSum_139 (by omega) ?_
    cases en : tmA tp tl (sk tp tl p) with
    | none =>
      rw [tmX_n en]
      refine ⟨fun _ => ?_, fun z => absurd rfl z⟩
      exact C_refuse (by omega) (Or.inr rfl) h.1.2.2.1 fun I' h5 f _ => ⟨Or.inl rfl, dd_qi (mr.1 _ (pT_n en) I' h5 (FYl.b f))⟩
    | some tx =>
      obtain ⟨tt, x⟩ := tx
      have ok := tmA_ok en
      have s1 := stepP hp (show ¬ kd tp tl (sk tp tl p) = 0 by omega)
      rw [pT_s en] at mr
      rw [tmX_s en]
      refine ⟨fun z => absurd z (tmA_m en), fun _ => ?_⟩
      have lc : (l0 ++ cc).length = l0.length + cc.length := List.length_append
      refine C_add (by omega) h (by omega) fun I1 h1 f1 => ?_
      refine C_advance (tp := tp) (by omega) (Or.inr rfl) hl s1.2 h1.1.1 h1.1.2.2.2 h1.2.1 h6 fun I2 t2 f2 => ?_
      have h2 := h1.a f2 t2
      have eL : l0 ++ cc ++ [x] = l0 ++ (cc ++ [x]) := by rw [List.append_assoc]
      have lL : (l0 ++ (cc ++ [x])).length = (l0 ++ cc).length + 1 := by rw [← eL, List.length_append]; rfl
      rw [eL] at h2
      have fy := f1.trans (FYl.a f2)
      refine C_isSign (tp := tp) (v := 43) (by omega) (Or.inr rfl) (by omega) hl s1.2 t2 h2.2.1 h6 ?_
      rw [bI_z]
      cases z : isS tp tl (sk tp tl (ek tp tl (sk tp tl p))) 43 with
      | false =>
        have e0 : pS tp tl (n + 1) (g tt) (cc ++ [x]) (ek tp tl (sk tp tl p)) = .inr (g tt, cc ++ [x], ek tp tl (sk tp tl p)) := by rw [pS, if_neg (by rw [z]; decide)]
        exact ⟨fun _ => dd_qi (mr.2 _ _ _ e0 I2 h2 fy), fun y => absurd rfl y⟩
      | true =>
        refine ⟨fun y => (by cases y), fun _ => ?_⟩
        rw [pS_T z] at mr
        have s3 := stepS s1.2 (by omega) z
        refine C_advance (tp := tp) (by omega) (Or.inr rfl) hl s3.2 h2.1.1 h2.1.2.2.2 h2.2.1 h6 fun I3 t3 f3 => ?_
        rw [nI_1]
        exact ih d (t + 1) _ (cc ++ [x]) _ I3 (.int x) hd s3.2 (by omega) (by omega) (h2.a f3 t3) (by omega) (mr.g (fy.trans (FYl.a f3)))
theorem C_sum {d Ln c s : Nat} {I : Nat → Nat → Int32} {L : Nat → Nat → Int64} {K : Int32 → (Nat → Nat → Int32) → (Nat → Nat → Int64) → Prop} {tp : Nat → Nat} {tl e br p : Nat} {st l0 : List Int32} (hd : 37 ≤ d) (hl : tl ≤ 400) (h6 : ∀ j, tp j < 256) (hp : p ≤ tl) (h : CX tp tl I p e br st l0) (hm : l0.length < p) (mr : CR tp tl e br st l0 (pM tp tl p) I L K) : dd_Ev d m_X3_readSum [.ref 131] (sM Ln I L c s) (dd_RI Ln c s K) := by
  refine w_X3_readSum_0 (by omega) ?_
  rw [pM_T] at mr
  have e0 : l0 ++ [] = l0 := List.append_nil l0
  exact C_sumLoop (l0 := l0) hl h6 401 d 0 _ [] p I .null (by omega) hp (by omega) (Nat.zero_le _) (by rw [e0]; exact h) (by rw [e0]; exact hm) mr
/-- an atom without not and bracket, and the nots ahead of it -/
theorem C_leaf {d Ln c s : Nat} {I : Nat → Nat → Int32} {L : Nat → Nat → Int64} {K : Int32 → (Nat → Nat → Int32) → (Nat → Nat → Int64) → Prop} {tp : Nat → Nat} {tl e br p k : Nat} {S l : List Int32} (hd : 40 ≤ d) (hl : tl ≤ 400) (h6 : ∀ j, tp j < 256) (hp : p ≤ tl) (h : CX tp tl I p e br (nots k ++ S) l) (hk : k ≤ e) (he : e ≤ 6) (h4 : ¬ S.head? = some (-4)) (hS : k + S.length ≤ 21) (hm : l.length + k + 2 ≤ p) (kf : ∀ f, pF tp tl p = .inl f → ∀ I', I' 131 5 = nI f → FYl I I' → K 0 I' L) (kt : ∀ m cc q, pF tp tl p = .inr (m, cc, q) → ∀ I', CX tp tl I' q (e - k) br S (l ++ cc ++ nots k) → FYl I I' → K 1 I' L) : dd_Ev d m_X3_readAtom [.ref 131] (sM Ln I L c s) (dd_RI Ln c s K) := by
  have fin : ∀ d I' m cc q, 30 ≤ d → pF tp tl p = .inr (m, cc, q) → CX tp tl I' q e br (nots k ++ S) (l ++ cc) → FYl I I' → dd_Ev d m_X3_addNots [.ref 131] (sM Ln I' L c s) (dd_RV Ln c s (fun I2 L2 => dd_RI Ln c s K (none, .int 1, sM Ln I2 L2 c s))) := by
    intro d I' m cc q hd er c1 f1
    refine w_X3_addNots_0 (by omega) ?_
    obtain ⟨a1, a2, a3, a4, a5⟩ := pF_ok hl hp er
    have lc : (l ++ cc).length = l.length + cc.length := List.length_append
    exact C_addNots (by omega) h4 k e _ I' hk (by omega) hS (by omega) c1 fun I2 c2 f2 => dd_qi (kt m cc q er I2 c2 (f1.trans f2))
  have ht := h.1
  have hx := h.2.1
  have hSt := h.2.2.1
  refine w_X3_readAtom_0 (by omega) ?_
  refine C_isWord (tp := tp) (w := 5) (by omega) (Or.inr rfl) (by omega) hSt hl hp ht hx h6 ?_
  rw [bI_z, isW_c (w := 5) (w' := 63) rfl]
  cases e1 : isW tp tl (sk tp tl p) 63 with
  | true =>
    have s1 := stepW hp (by omega) e1
    refine ⟨fun z => (by cases z), fun _ => ?_⟩
    refine C_isWord (tp := tp) (w := 5) (by omega) (Or.inr rfl) (by omega) hSt hl hp ht hx h6 ?_
    rw [bI_z, isW_c (w := 5) (w' := 63) rfl, e1]
    refine ⟨fun z => (by cases z), fun _ => ?_⟩
    refine C_add (by omega) h (by omega) fun I1 h1 f1 => ?_
    refine C_advance (tp := tp) (by omega) (Or.inr rfl) hl s1.2 h1.1.1 h1.1.2.2.2 h1.2.1 h6 fun I2 t2 f2 => ?_
    exact fin (d - 1) I2 [(8, 0)] [-2] _ (by omega) (by unfold pF; rw [if_pos e1]) (h1.a f2 t2) (f1.trans (FYl.a f2))
  | false =>
  refine ⟨fun _ => ?_, fun z => absurd rfl z⟩
  refine C_isWord (tp := tp) (w := 6) (by omega) (Or.inr rfl) (by omega) hSt hl hp ht hx h6 ?_
  rw [bI_z, isW_c (w := 6) (w' := 64) rfl]
  cases e2 : isW tp tl (sk tp tl p) 64 with
  | true =>
    have s1 := stepW hp (by omega) e2
    refine ⟨fun z => (by cases z), fun _ => ?_⟩
    refine C_isWord (tp := tp) (w := 5) (by omega) (Or.inr rfl) (by omega) hSt hl hp ht hx h6 ?_
    rw [bI_z, isW_c (w := 5) (w' := 63) rfl, e1]
    refine ⟨fun _ => ?_, fun z => absurd rfl z⟩
    refine C_add (by omega) h (by omega) fun I1 h1 f1 => ?_
    refine C_advance (tp := tp) (by omega) (Or.inr rfl) hl s1.2 h1.1.1 h1.1.2.2.2 h1.2.1 h6 fun I2 t2 f2 => ?_
    exact fin (d - 1) I2 [(9, 0)] [-3] _ (by omega) (by unfold pF; rw [if_neg (by rw [e1]; decide), if_pos e2]) (h1.a f2 t2) (f1.trans (FYl.a f2))
  | false =>
  have eF : pF tp tl p = bnd (pM tp tl p) fun m cc q => if isS tp tl (sk tp tl q) 60 = true then bnd (pM tp tl (ek tp tl (sk tp tl q))) (fun m2 c2 q2 => .inr (m ++ m2 ++ [(12, 0)], cc ++ [-7] ++ c2 ++ [-8], q2)) else if isS tp tl (sk tp tl q) 62 = true then bnd (pM tp tl (ek tp tl (sk tp tl q))) (fun m2 c2 q2 => .inr (m ++ m2 ++ [(13, 0)], cc ++ [-7] ++ c2 ++ [-9], q2)) else .inl (sk tp tl q) := by
    unfold pF
    rw [if_neg (by rw [e1]; decide), if_neg (by rw [e2]; decide)]
  refine ⟨fun _ => ?_, fun z => absurd rfl z⟩
  refine C_sum (tp := tp) (by omega) hl h6 hp h (by omega) ⟨fun f ef I1 b5 f1 => ?_, fun m cc q er I1 h1 f1 => ?_⟩
  · exact ⟨fun _ => dd_qi (kf f (by rw [eF]; exact bnd_l ef) I1 b5 f1), fun z => absurd rfl z⟩
  rw [bnd_r er] at eF
  obtain ⟨a1, a2, a3, a4, a5⟩ := pM_ok hp er
  have lc : (l ++ cc).length = l.length + cc.length := List.length_append
  refine ⟨fun z => absurd z (by decide), fun _ => ?_⟩
  -- the second sum
  have sec : ∀ (d : Nat) (I3 : Nat → Nat → Int32) (ls : Bool), 38 ≤ d → isS tp tl (sk tp tl q) (if ls = true then 60 else 62) = true → (∀ r, bnd (pM tp tl (ek tp tl (sk tp tl q))) (fun m2 c2 q2 => .inr (m ++ m2 ++ [(if ls = true then 12 else 13, 0)], cc ++ [-7] ++ c2 ++ [if ls = true then -8 else -9], q2)) = r → pF tp tl p = r) → CX tp tl I3 q e br (nots k ++ S) (l ++ cc) → FYl I I3 → dd_Ev d m_X2_add [.ref 27, .int (-7)] (sM Ln I3 L c s) (dd_RV Ln c s (fun I8 L8 => dd_Ev d m_X4_advance [.ref 131] (sM Ln I8 L8 c s) (dd_RV Ln c s (fun I9 L9 => dd_Ev d m_X3_readSum [.ref 131] (sM Ln I9 L9 c s) (dd_RI Ln c s (fun x10 I10 L10 => ((x10 = 0 → dd_RI Ln c s K (none, .int 0, sM Ln I10 L10 c s)) ∧ (¬ (x10 = 0) → dd_Ev d m_X2_add [.ref 27, .int (if ls = true then -8 else -9)] (sM Ln I10 L10 c s) (dd_RV Ln c s (fun I11 L11 => dd_Ev d m_X3_addNots [.ref 131] (sM Ln I11 L11 c s) (dd_RV Ln c s (fun I12 L12 => dd_RI Ln c s K (none, .int 1, sM Ln I12 L12 c s))))))))))))) := by
    intro d I3 ls hd zS eP h3 f3
    have s1 : q < ek tp tl (sk tp tl q) ∧ ek tp tl (sk tp tl q) ≤ tl := stepS a2 (by cases ls <;> decide) zS
    refine C_add (by omega) h3 (by omega) fun I4 h4' f4 => ?_
    refine C_advance (tp := tp) (by omega) (Or.inr rfl) hl s1.2 h4'.1.1 h4'.1.2.2.2 h4'.2.1 h6 fun I5 t5 f5 => ?_
    have h5 := h4'.a f5 t5
    have l7 : (l ++ cc ++ [-7]).length = l.length + cc.length + 1 := by rw [List.length_append, lc]; rfl
    refine C_sum (tp := tp) (by omega) hl h6 s1.2 h5 (by omega) ⟨fun f ef I6 b5 f6 => ?_, fun m2 c2 q2 er2 I6 h6' f6 => ?_⟩
    · exact ⟨fun _ => dd_qi (kf f (eP _ (bnd_l ef)) I6 b5 (f3.trans (f4.trans ((FYl.a f5).trans f6)))), fun z => absurd rfl z⟩
    obtain ⟨b1, b2, b3, b4, b5⟩ := pM_ok s1.2 er2
    have l8 : (l ++ cc ++ [-7] ++ c2).length = l.length + cc.length + 1 + c2.length := by rw [List.length_append, l7]
    refine ⟨fun z => absurd z (by decide), fun _ => ?_⟩
    refine C_add (by omega) h6' (by omega) fun I7 h7 f7 => ?_
    have eL : l ++ cc ++ [-7] ++ c2 ++ [if ls = true then -8 else -9] = l ++ (cc ++ [-7] ++ c2 ++ [if ls = true then -8 else -9]) := by rw [List.append_assoc, List.append_assoc, List.append_assoc, List.append_assoc, List.append_assoc]
    rw [eL] at h7
    exact fin d I7 _ _ q2 (by omega) (eP _ (bnd_r er2)) h7 (f3.trans (f4.trans ((FYl.a f5).trans (f6.trans f7))))
  refine C_isSign (tp := tp) (v := 60) (by omega) (Or.inr rfl) (by omega) hl a2 h1.1 h1.2.1 h6 ?_
  rw [bI_z]
  cases z1 : isS tp tl (sk tp tl q) 60 with
  | false =>
    rw [if_neg (by rw [z1]; decide)] at eF
    refine ⟨fun _ => ?_, fun y => absurd rfl y⟩
    refine C_isSign (tp := tp) (v := 62) (by omega) (Or.inr rfl) (by omega) hl a2 h1.1 h1.2.1 h6 ?_
    rw [bI_z]
    cases z2 : isS tp tl (sk tp tl q) 62 with
    | false =>
      rw [if_neg (by rw [z2]; decide)] at eF
      refine ⟨fun _ => ?_, fun y => absurd rfl y⟩
      exact C_refuse (by omega) (Or.inr rfl) h1.1.2.2.1 fun I' h5 f _ => ⟨Or.inl rfl, dd_qi (kf _ eF I' h5 (f1.trans (FYl.b f)))⟩
    | true =>
      rw [if_pos z2] at eF
      refine ⟨fun y => (by cases y), fun _ => ?_⟩
      refine C_isSign (tp := tp) (v := 60) (by omega) (Or.inr rfl) (by omega) hl a2 h1.1 h1.2.1 h6 ?_
      rw [bI_z, z1]
      exact ⟨fun _ => sec (d - 1) I1 false (by omega) z2 (fun r er2 => by rw [eF]; exact er2) h1 f1, fun y => absurd rfl y⟩
  | true =>
    rw [if_pos z1] at eF
    refine ⟨fun y => (by cases y), fun _ => ?_⟩
    refine C_isSign (tp := tp) (v := 60) (by omega) (Or.inr rfl) (by omega) hl a2 h1.1 h1.2.1 h6 ?_
    rw [bI_z, z1]
    exact ⟨fun y => (by cases y), fun _ => sec (d - 1) I1 true (by omega) z1 (fun r er2 => by rw [eF]; exact er2) h1 f1⟩
