/-! wood: the model -/
def MK (r : LR) (I : Nat → Nat → Int32) (L : Nat → Nat → Int64) (K : Int32 → (Nat → Nat → Int32) → (Nat → Nat → Int64) → Prop) : Prop :=
  (∀ f, r = .inl f → ∀ I', I' 148 12 = nI f → FR 148 [149] [10, 12] I I' → K 0 I' L) ∧ (∀ w' p', r = .inr (w', p') → ∀ I', RM w' I' → I' 148 10 = nI p' → FR 148 [149] [10, 12] I I' → K 1 I' L)
theorem FRa {I I' : Nat → Nat → Int32} (h : FR 148 [] [10, 12] I I') : FR 148 [149] [10, 12] I I' := h.mono (by decide) (by decide)
theorem MK.g {r : LR} {I J : Nat → Nat → Int32} {L : Nat → Nat → Int64} {K : Int32 → (Nat → Nat → Int32) → (Nat → Nat → Int64) → Prop} (h : MK r I L K) (f : FR 148 [149] [10, 12] I J) : MK r J L K :=
  ⟨fun a e I' h5 g => h.1 a e I' h5 (f.trans g), fun w' p' e I' rm h10 g => h.2 w' p' e I' rm h10 (f.trans g)⟩
theorem RM.r {w : Nat → Nat} {I I' : Nat → Nat → Int32} {B : List Nat} (h : RM w I) (f : FR 148 [] B I I') : RM w I' := h.of (f.1 149 List.not_mem_nil (by decide))
theorem nneg {n : Nat} (h : n < 2 ^ 31) : ¬ nI n < 0 := nI_pos h
theorem M_readNumber {d Ln c s : Nat} {I : Nat → Nat → Int32} {L : Nat → Nat → Int64} {K : Int32 → (Nat → Nat → Int32) → (Nat → Nat → Int64) → Prop} {tp : Nat → Nat} {tl p : Nat} {w : Nat → Nat} {j m : Nat} {a2 : Int32} (hd : 32 ≤ d) (hl : tl ≤ 400) (hp : p ≤ tl) (h10 : I 148 10 = nI p) (h11 : I 148 11 = nI tl) (hx : TXm tp I) (h6 : ∀ j, tp j < 256) (hR : RM w I) (hj : j < 1371) (hm : m ≤ 1000) (ha : a2 = nI m - 1) (ck : MK (stR tp tl w j m p) I L K) : dd_Ev d m_X11_readNumber [.ref 148, .int (nI j), .int 0, .int a2] (sM Ln I L c s) (dd_RI Ln c s K) := by
  refine w_X11_readNumber_0 (by omega) ?_
  have tj : tn (nI j) = j := nI_clamp (by omega)
  have ckj : (0 : Int32) ≤ nI j ∧ j < 2220 := ⟨nI_pos' (by omega), by omega⟩
  refine M_number (tp := tp) (by omega) hm ha hl hp h10 h11 hx h6 (fun en I1 b12 f1 => ?_) (fun v en I1 b10 b12 f1 => ?_)
  · rw [tj]
    refine ⟨fun z => absurd z (by decide), fun _ => ⟨ckj, ckj, fun _ => dd_qi ?_, fun z => absurd (by decide) z⟩⟩
    exact ck.1 _ (numS_n en) _ (by rw [dd_un (by decide)]; exact b12) ((FRa f1).u (by decide) (by decide))
  · have hv := numA_s en
    rw [tj]
    refine ⟨fun _ => ⟨ckj, fun z => absurd z (nneg (by omega)), fun _ => dd_qi ?_⟩, fun z => absurd (nI_pos' (by omega)) z⟩
    exact ck.2 _ _ (numS_s en) _ (RM.set (nu (hR.r f1) j v)) (by rw [dd_un (by decide)]; exact b10) ((FRa f1).u (by decide) (by decide))
theorem M_readFerns {d Ln c s : Nat} {I : Nat → Nat → Int32} {L : Nat → Nat → Int64} {K : Int32 → (Nat → Nat → Int32) → (Nat → Nat → Int64) → Prop} {tp : Nat → Nat} {tl p : Nat} {w : Nat → Nat} (hd : 36 ≤ d) (hl : tl ≤ 400) (hp : p ≤ tl) (h10 : I 148 10 = nI p) (h11 : I 148 11 = nI tl) (hx : TXm tp I) (h6 : ∀ j, tp j < 256) (hR : RM w I) (ck : MK (feR tp tl w p) I L K) : dd_Ev d m_X11_readFerns [.ref 148] (sM Ln I L c s) (dd_RI Ln c s K) := by
  have hb := ek_tl tp tl _ (sk_tl (tp := tp) hp)
  refine w_X11_readFerns_0 (by omega) ?_
  refine M_number (tp := tp) (m := 64) (by omega) (by omega) rfl hl hp h10 h11 hx h6 (fun en I1 b12 f1 => ?_) (fun v en I1 b10 b12 f1 => ?_)
  · exact ⟨fun _ => dd_qi (ck.1 _ (numS_n en) _ b12 (FRa f1)), fun z => absurd (by decide) z⟩
  · have hv := numA_s en
    refine ⟨fun z => absurd z (nneg (by omega)), fun _ => ?_⟩
    have e75 : (75 : Int32) + nI v = nI (75 + v) := by rw [li_75, nI_add]
    have et : feR tp tl w p = stR tp tl w (75 + v) 10 (ek tp tl (sk tp tl p)) := numS_s en
    rw [e75]
    rw [et] at ck
    have ck2 : MK (stR tp tl w (75 + v) 10 (ek tp tl (sk tp tl p))) I1 L (fun x2 I2 L2 => ((x2 = 0 → dd_RI Ln c s K (none, .int 0, sM Ln I2 L2 c s)) ∧ (¬ (x2 = 0) → dd_RI Ln c s K (none, .int 1, sM Ln I2 L2 c s)))) := by
      have c2 := ck.g (FRa f1)
      exact ⟨fun f e I' h5 g => ⟨fun _ => dd_qi (c2.1 f e I' h5 g), fun z => absurd rfl z⟩, fun w' p' e I' rm h10 g => ⟨fun z => absurd z (by decide), fun _ => dd_qi (c2.2 w' p' e I' rm h10 g)⟩⟩
    exact M_readNumber (tp := tp) (by omega) hl hb b10 (by rw [f1.2 11 (by decide)]; exact h11) (hx.f f1 (by decide)) h6 (hR.r f1) (by omega) (by omega) rfl ck2
theorem M_readTrees {d Ln c s : Nat} {I : Nat → Nat → Int32} {L : Nat → Nat → Int64} {K : Int32 → (Nat → Nat → Int32) → (Nat → Nat → Int64) → Prop} {tp : Nat → Nat} {tl p : Nat} {w : Nat → Nat} (hd : 36 ≤ d) (hl : tl ≤ 400) (hp : p ≤ tl) (h10 : I 148 10 = nI p) (h11 : I 148 11 = nI tl) (hx : TXm tp I) (h6 : ∀ j, tp j < 256) (hR : RM w I) (hg : GOOD w) (ck : MK (trR tp tl w p) I L K) : dd_Ev d m_X11_readTrees [.ref 148] (sM Ln I L c s) (dd_RI Ln c s K) := by
  have w4 := hg.1.1.2.2.2.1
  refine w_X11_readTrees_0 (by omega) ?_
  refine M_number (tp := tp) (m := 64) (by omega) (by omega) rfl hl hp h10 h11 hx h6 (fun en I1 b12 f1 => ?_) (fun x en I1 b10 b12 f1 => ?_)
  · exact ⟨fun _ => dd_qi (ck.1 _ (numS_n en) _ b12 (FRa f1)), fun z => absurd (by decide) z⟩
  · have hv := numA_s en
    have r1 := hR.r f1
    have et : trR tp tl w p = if x = w 4 ∨ anyN (lostP w x) (w 1) = true then .inl (sk tp tl p) else .inr (upw w (11 + x) 1, ek tp tl (sk tp tl p)) := numS_s en
    have e11 : (11 : Int32) + nI x = nI (11 + x) := by rw [li_11, nI_add]
    have t11 : tn (nI (11 + x)) = 11 + x := nI_clamp (by omega)
    refine ⟨fun z => absurd z (nneg (by omega)), fun _ => ?_⟩
    rw [r1.g (by omega), nI_eq (by omega) (by omega)]
    refine ⟨fun z => dd_qi (ck.1 _ (by rw [et, if_pos (Or.inl z)]) _ b12 (FRa f1)), fun z => ?_⟩
    refine M_isLostIn (w := w) (by omega) r1 hg.1 hv.1 ?_
    rw [bI_z, e11, t11]
    cases ea : anyN (lostP w x) (w 1) with
    | true => exact ⟨fun y => (by cases y), fun _ => dd_qi (ck.1 _ (by rw [et, if_pos (Or.inr ea)]) _ b12 (FRa f1))⟩
    | false =>
      refine ⟨fun _ => ⟨⟨nI_pos' (by omega), by omega⟩, dd_qi ?_⟩, fun y => absurd rfl y⟩
      exact ck.2 _ _ (by rw [et, if_neg (by rw [ea]; rintro (u | u); exact z u; cases u)]) _ (RM.set (nu r1 (11 + x) 1)) (by rw [dd_un (by decide)]; exact b10) ((FRa f1).u (by decide) (by decide))
theorem M_readFire {d Ln c s : Nat} {I : Nat → Nat → Int32} {L : Nat → Nat → Int64} {K : Int32 → (Nat → Nat → Int32) → (Nat → Nat → Int64) → Prop} {tp : Nat → Nat} {tl p : Nat} {w : Nat → Nat} (hd : 36 ≤ d) (hl : tl ≤ 400) (hp : p ≤ tl) (h10 : I 148 10 = nI p) (h11 : I 148 11 = nI tl) (hx : TXm tp I) (h6 : ∀ j, tp j < 256) (hR : RM w I) (hg : GOOD w) (ck : MK (fiR tp tl w p) I L K) : dd_Ev d m_X11_readFire [.ref 148] (sM Ln I L c s) (dd_RI Ln c s K) := by
  refine w_X11_readFire_0 (by omega) ?_
  refine M_number (tp := tp) (m := 64) (by omega) (by omega) rfl hl hp h10 h11 hx h6 (fun en I1 b12 f1 => ?_) (fun x en I1 b10 b12 f1 => ?_)
  · exact ⟨fun _ => dd_qi (ck.1 _ (numS_n en) _ b12 (FRa f1)), fun z => absurd (by decide) z⟩
  · have hv := numA_s en
    have r1 := hR.r f1
    have e11 : (11 : Int32) + nI x = nI (11 + x) := by rw [li_11, nI_add]
    have t11 : tn (nI (11 + x)) = 11 + x := nI_clamp (by omega)
    have tx := (hg.1.2.1 x hv.1).1
    refine ⟨fun z => absurd z (nneg (by omega)), fun _ => ?_⟩
    rw [e11, t11, r1.g (by omega), nI1i tx]
    refine ⟨⟨nI_pos' (by omega), by omega⟩, fun z => dd_qi (ck.1 _ ((numS_s en).trans (if_pos z)) _ b12 (FRa f1)), fun z => ?_⟩
    refine M_firesAt (w := w) (by omega) r1 hg.1 hg.2.2.1 hv.1 z fun I2 r2 f2 => dd_qi ?_
    exact ck.2 _ _ ((numS_s en).trans (if_neg z)) _ r2 (by rw [f2.2 10 List.not_mem_nil]; exact b10) ((FRa f1).trans (f2.mono (by decide) (by decide)))
def nbM (w : Nat → Nat) (x p e v : Nat) : Nat → Nat := upw (upw (upw (upw (upw (upw w (187 + 5 * w 1) x) (187 + 5 * w 1 + 1) p) (187 + 5 * w 1 + 2) e) (187 + 5 * w 1 + 3) v) (187 + 5 * w 1 + 4) 0) 1 (w 1 + 1)
theorem nbU_4 (w : Nat → Nat) (p e : Nat) : nbU w p e 4 = w 4 := by
  unfold nbU
  rw [upw_ne (by omega), upw_ne (by omega), upw_ne (by omega), upw_ne (by omega)]
theorem nbM_eq (w : Nat → Nat) (x p e : Nat) : nbM w x p e (if x = w 4 then 1 else 0) = nbW w x p e := by
  unfold nbW pbw
  rw [nbU_4]
  funext j
  unfold nbM nbU
  by_cases j1 : j = 1
  · subst j1
    rw [upw_eq, upw_ne (by omega), upw_ne (by omega), upw_ne (by omega), upw_ne (by omega), upw_ne (by omega), upw_eq]
  rw [upw_ne j1]
  by_cases j3 : j = 187 + 5 * w 1 + 3
  · subst j3
    rw [upw_ne (by omega), upw_eq, upw_eq]
  by_cases j0 : j = 187 + 5 * w 1
  · subst j0
    rw [upw_ne (by omega), upw_ne (by omega), upw_ne (by omega), upw_ne (by omega), upw_eq, upw_ne (by omega), upw_eq]
  rw [upw_ne j3, upw_ne j0]
  by_cases j4 : j = 187 + 5 * w 1 + 4
  · subst j4
    rw [upw_eq, upw_eq]
  rw [upw_ne j4, upw_ne j4, upw_ne j3]
  by_cases j2 : j = 187 + 5 * w 1 + 2
  · subst j2
    rw [upw_eq, upw_eq]
  rw [upw_ne j2, upw_ne j2]
  by_cases jp : j = 187 + 5 * w 1 + 1
  · subst jp
    rw [upw_eq, upw_eq]
  rw [upw_ne jp, upw_ne jp, upw_ne j0, upw_ne j1]
theorem M_readBoy {d Ln c s : Nat} {I : Nat → Nat → Int32} {L : Nat → Nat → Int64} {K : Int32 → (Nat → Nat → Int32) → (Nat → Nat → Int64) → Prop} {tp : Nat → Nat} {tl p : Nat} {w : Nat → Nat} (hd : 36 ≤ d) (hS : STR I) (hl : tl ≤ 400) (hp : p ≤ tl) (h10 : I 148 10 = nI p) (h11 : I 148 11 = nI tl) (hx : TXm tp I) (h6 : ∀ j, tp j < 256) (hR : RM w I) (hg : GOOD w) (h1 : ¬ w 1 = 6) (ck : MK (byR tp tl w p) I L K) : dd_Ev d m_X11_readBoy [.ref 148] (sM Ln I L c s) (dd_RI Ln c s K) := by
  have w1 := hg.1.1.2.1
  have w0 := hg.1.1.1
  have w4 := hg.1.1.2.2.2.1
  have q1 := ek_tl tp tl _ (sk_tl (tp := tp) hp)
  have q2 := ek_tl tp tl _ (sk_tl (tp := tp) q1)
  have q3 := ek_tl tp tl _ (sk_tl (tp := tp) q2)
  have q4 := ek_tl tp tl _ (sk_tl (tp := tp) q3)
  have q5 := ek_tl tp tl _ (sk_tl (tp := tp) q4)
  unfold byR at ck
  refine w_X11_readBoy_0 (by omega) ?_
  rw [hR.g (by omega), li_6, nI_eq (by omega) (by omega)]
  refine ⟨fun z => absurd z h1, fun _ => ?_⟩
  refine M_after (tp := tp) (w := 48) (m := 64) (by omega) (by omega) hS (by omega) rfl hl hp h10 h11 hx h6 (fun ew I1 b12 f1 => ?_) (fun ew en I1 b12 f1 => ?_) (fun ew x en I1 b10 b12 f1 => ?_)
  · exact ⟨fun _ => dd_qi (ck.1 _ (wrdS_f ew) _ b12 (FRa f1)), fun z => absurd (by decide) z⟩
  · exact ⟨fun _ => dd_qi (ck.1 _ ((wrdS_t ew).trans (numS_n en)) _ b12 (FRa f1)), fun z => absurd (by decide) z⟩
  have hv := numA_s en
  have r1 := hR.r f1
  have e11 : (11 : Int32) + nI x = nI (11 + x) := by rw [li_11, nI_add]
  have t11 : tn (nI (11 + x)) = 11 + x := nI_clamp (by omega)
  have tx := (hg.1.2.1 x hv.1).1
  refine ⟨fun z => absurd z (nneg (by omega)), fun _ => ?_⟩
  rw [e11, t11, r1.g (by omega), nI1i tx]
  rw [wrdS_t ew, numS_s en] at ck
  refine ⟨⟨nI_pos' (by omega), by omega⟩, fun z => dd_qi (ck.1 _ (if_pos z) _ b12 (FRa f1)), fun z => ?_⟩
  rw [if_neg z] at ck
  have ck := ck.g (FRa f1)
  have s1 := hS.f f1 (by simp)
  have x1 := hx.f f1 (by decide)
  have a11 : I1 148 11 = nI tl := by rw [f1.2 11 (by decide)]; exact h11
  rw [r1.g (by omega)]
  refine M_after (tp := tp) (w := 49) (m := w 0) (by omega) (by omega) s1 (by omega) rfl hl q2 b10 a11 x1 h6 (fun ew I2 c12 f2 => ?_) (fun ew en I2 c12 f2 => ?_) (fun ew pt en I2 c10 c12 f2 => ?_)
  · exact ⟨fun u => absurd u (by decide), fun _ => dd_qi (ck.1 _ (wrdS_f ew) _ c12 (FRa f2))⟩
  · exact ⟨fun u => absurd u (by decide), fun _ => dd_qi (ck.1 _ ((wrdS_t ew).trans (numS_n en)) _ c12 (FRa f2))⟩
  have hpt := numA_s en
  rw [wrdS_t ew, numS_s en] at ck
  have ck := ck.g (FRa f2)
  have r2 := r1.r f2
  refine ⟨fun _ => ?_, fun u => absurd (nI_pos' (by omega)) u⟩
  refine M_after (tp := tp) (w := 50) (m := 16) (by omega) (by omega) (s1.f f2 (by simp)) (by omega) rfl hl q4 c10 (by rw [f2.2 11 (by decide)]; exact a11) (x1.f f2 (by decide)) h6 (fun ew I3 d12 f3 => ?_) (fun ew en I3 d12 f3 => ?_) (fun ew er en I3 d10 d12 f3 => ?_)
  · exact ⟨fun u => absurd u (by decide), fun _ => dd_qi (ck.1 _ (wrdS_f ew) _ d12 (FRa f3))⟩
  · exact ⟨fun u => absurd u (by decide), fun _ => dd_qi (ck.1 _ ((wrdS_t ew).trans (numS_n en)) _ d12 (FRa f3))⟩
  have her := numA_s en
  rw [wrdS_t ew, numS_s en] at ck
  have r3 := r2.r f3
  refine ⟨fun _ => ?_, fun u => absurd (nI_pos' (by omega)) u⟩
  have e0 : (187 : Int32) + 5 * nI (w 1) + 0 = nI (187 + 5 * w 1) := by rw [li_187, li_5, pk_mul, nI_add, li_0, nI_add]; rfl
  have e1 : (187 : Int32) + 5 * nI (w 1) + 1 = nI (187 + 5 * w 1 + 1) := by rw [li_187, li_5, pk_mul, nI_add, li_1, nI_add]
  have e2 : (187 : Int32) + 5 * nI (w 1) + 2 = nI (187 + 5 * w 1 + 2) := by rw [li_187, li_5, pk_mul, nI_add, li_2, nI_add]
  have e3 : (187 : Int32) + 5 * nI (w 1) + 3 = nI (187 + 5 * w 1 + 3) := by rw [li_187, li_5, pk_mul, nI_add, li_3, nI_add]
  have e4 : (187 : Int32) + 5 * nI (w 1) + 4 = nI (187 + 5 * w 1 + 4) := by rw [li_187, li_5, pk_mul, nI_add, li_4, nI_add]
  have tt : ∀ k, k < 5 → tn (nI (187 + 5 * w 1 + k)) = 187 + 5 * w 1 + k := fun k hk => nI_clamp (by omega)
  have t0 : tn (nI (187 + 5 * w 1)) = 187 + 5 * w 1 := tt 0 (by omega)
  have ckk : ∀ k, k < 5 → (0 : Int32) ≤ nI (187 + 5 * w 1 + k) ∧ 187 + 5 * w 1 + k < 2220 := fun k hk => ⟨nI_pos' (by omega), by omega⟩
  rw [e0, e1, e2, e3, e4, t0, tt 1 (by omega), tt 2 (by omega), tt 3 (by omega), tt 4 (by omega)]
  have b4 : ∀ f : Nat → Int32, upd (upd (upd f (187 + 5 * w 1) (nI x)) (187 + 5 * w 1 + 1) (nI pt)) (187 + 5 * w 1 + 2) (nI er) 4 = f 4 := fun f => by rw [pk_un (by omega), pk_un (by omega), pk_un (by omega)]
  rw [b4, r3.g (by omega), nI_eq (by omega) (by omega)]
  have b1 : ∀ (f : Nat → Int32) v, upd (upd (upd (upd (upd f (187 + 5 * w 1) (nI x)) (187 + 5 * w 1 + 1) (nI pt)) (187 + 5 * w 1 + 2) (nI er)) (187 + 5 * w 1 + 3) v) (187 + 5 * w 1 + 4) 0 1 = f 1 := fun f v => by rw [pk_un (by omega), pk_un (by omega), pk_un (by omega), pk_un (by omega), pk_un (by omega)]
  simp only [b1, dd_u_u]
  rw [r3.g (by omega), nI_1]
  have fin : ∀ v, v = (if x = w 4 then 1 else 0) → dd_RI Ln c s K (none, .int 1, sM Ln (dd_u I3 149 (upd (upd (upd (upd (upd (upd (I3 149) (187 + 5 * w 1) (nI x)) (187 + 5 * w 1 + 1) (nI pt)) (187 + 5 * w 1 + 2) (nI er)) (187 + 5 * w 1 + 3) (nI v)) (187 + 5 * w 1 + 4) (nI 0)) 1 (nI (w 1 + 1)))) L c s) := by
    intro v hv
    refine dd_qi (ck.2 _ _ rfl _ ?_ (by rw [dd_un (by decide)]; exact d10) ((FRa f3).u (by decide) (by decide)))
    rw [← nbM_eq, ← hv]
    exact RM.set (nu (nu (nu (nu (nu (nu r3 _ _) _ _) _ _) _ _) _ _) _ _)
  refine ⟨ckk 0 (by omega), ckk 1 (by omega), ckk 2 (by omega), fun u => ⟨ckk 3 (by omega), ckk 4 (by omega), ?_⟩, fun u => ⟨ckk 3 (by omega), ckk 4 (by omega), ?_⟩⟩
  · exact fin 1 (by rw [if_pos u])
  · exact fin 0 (by rw [if_neg u])
theorem ptA_o {w f : Nat → Nat} {j : Nat} : ∀ n, (j < 139 + 8 * w 0 ∨ 139 + 8 * w 0 + n ≤ j) → ptA w f n j = w j := by
  intro n
  induction n with
  | zero => intro _; rfl
  | succ n ih =>
    intro h
    have e : ptA w f (n + 1) = upw (ptA w f n) (139 + 8 * w 0 + n) (f n) := rfl
    rw [e, upw_ne (by omega)]
    exact ih (by omega)
theorem M_readPart {d Ln c s : Nat} {I : Nat → Nat → Int32} {L : Nat → Nat → Int64} {K : Int32 → (Nat → Nat → Int32) → (Nat → Nat → Int64) → Prop} {tp : Nat → Nat} {tl p : Nat} {w : Nat → Nat} (hd : 36 ≤ d) (hl : tl ≤ 400) (hp : p ≤ tl) (h10 : I 148 10 = nI p) (h11 : I 148 11 = nI tl) (hx : TXm tp I) (h6 : ∀ j, tp j < 256) (hR : RM w I) (hg : GOOD w) (h0 : ¬ w 0 = 6) (ck : MK (ptR tp tl w p) I L K) : dd_Ev d m_X11_readPartLine [.ref 148] (sM Ln I L c s) (dd_RI Ln c s K) := by
  have w0 := hg.1.1.1
  refine w_X11_readPartLine_0 (by omega) ?_
  rw [hR.g (by omega), li_6, nI_eq (by omega) (by omega)]
  refine ⟨fun z => absurd z h0, fun _ => ?_⟩
  refine M_blanks (tp := tp) (by omega) hl hp h10 h11 hx h6 fun J j10 j12 fj => ?_
  have hb := sk_tl (tp := tp) hp
  unfold ptR at ck
  generalize sk tp tl p = b at *
  have j11 : J 148 11 = nI tl := by rw [fj.2 11 (by decide)]; exact h11
  have jx : TXm tp J := hx.f fj (by decide)
  have jR := hR.r fj
  have hd1 : de tp tl b ≤ tl := rn_tl (p := isD tp) (tl := tl) b hb
  let F : Nat → Nat := fun i => tp (b + i) - 48
  let g8 : Nat → Bool := fun i => decide (tp (b + i) < 56)
  have key : ∀ q, de tp tl q = de tp tl b → b ≤ q → q ≤ tl → ∀ I1 a3, FR 148 [149] [10, 12] I I1 → I1 148 10 = nI q → I1 148 12 = nI b → RM (ptA w F (min (q - b) 8)) I1 → dd_Rn d m_X11_readPartLine (19, [.ref 148, .int (nI (q - b)), .int (bI (allN g8 (q - b))), a3], [], sM Ln I1 L c s) (dd_RI Ln c s K) := by
    refine rn_ind (p := isD tp) (tl := tl) _ ?_ ?_
    · intro q hz e eb hbq hq I1 a3 fr i10 i12 rm
      have eb' : de tp tl b = q := by rw [← eb]; exact e
      refine w_X11_readPartLine_19 (by omega) ?_
      refine M_isAt (tp := tp) (tl := tl) (q := q) (lo := 48) (hi := 57) (by omega) hl (by omega) i10 (by rw [fr.2 11 (by decide)]; exact h11) (hx.f fr (by decide)) h6 (by omega) (by omega) (by omega) ?_
      rw [show isR tp 48 57 q = isD tp q from rfl, run_f hz, li_8, nI_eq (by omega) (by omega)]
      have bad : ¬ (de tp tl b - b = 8 ∧ ptD tp b = true) → dd_RI Ln c s K (none, .int 0, sM Ln I1 L c s) := fun z => dd_qi (ck.1 b (if_neg z) I1 i12 fr)
      refine ⟨fun _ => ⟨fun y => ⟨fun x => bad (fun u => ?_), fun x => ?_⟩, fun y => bad (fun u => y (by rw [← eb']; exact u.1))⟩, fun z => absurd rfl z⟩
      · have := u.2
        unfold ptD at this
        rw [y] at x
        exact absurd (this.symm.trans (bI_z.mp x)) (by decide)
      · have al : ptD tp b = true := by
          unfold ptD
          rw [y] at x
          show allN g8 8 = true
          cases hh : allN g8 8 with
          | true => rfl
          | false => exact absurd (bI_z.mpr hh) x
        have r0 := rm.g (j := 0) (by omega)
        rw [ptA_o _ (by omega)] at r0
        rw [r0, nI_1]
        rw [show min (q - b) 8 = 8 by omega] at rm
        have k2 : kd tp tl b = 2 := kd2.mpr (by omega)
        have eE : ek tp tl b = de tp tl b := by unfold ek; rw [k2]; rfl
        exact dd_qi (ck.2 _ _ (if_pos ⟨by omega, al⟩) _ (RM.set (nu rm 0 (w 0 + 1))) (by rw [dd_un (by decide), i10, eE, eb']) (fr.u (by decide) (by decide)))
    · intro q hq hpq e ih eb hbq hq' I1 a3 fr i10 i12 rm
      refine w_X11_readPartLine_19 (by omega) ?_
      refine M_isAt (tp := tp) (tl := tl) (q := q) (lo := 48) (hi := 57) (by omega) hl (by omega) i10 (by rw [fr.2 11 (by decide)]; exact h11) (hx.f fr (by decide)) h6 (by omega) (by omega) (by omega) ?_
      have dg := isD_iff.mp hpq
      have tq : tn (nI q) = q := nI_clamp (by omega)
      have r0 := rm.g (j := 0) (by omega)
      rw [ptA_o _ (by omega)] at r0
      have i154 : I1 154 q = nI (tp q) := by rw [fr.1 154 (by decide) (by decide), hx q (by omega), (byt_b _ (h6 q)).1 (by omega)]
      rw [show isR tp 48 57 q = isD tp q from rfl, run_t hq hpq, i10, tq, i154, li_48, pk_sub (by omega), r0, li_8, nI_leI (by omega) (by omega), nI_leI (by omega) (by omega), li_139, pk_mul, nI_add, nI_add]
      simp only [nI_1]
      refine ⟨fun z => absurd z (by decide), fun _ => ⟨⟨nI_pos' (by omega), by omega⟩, ?_⟩⟩
      have eq1 : q - b + 1 = q + 1 - b := by omega
      have inner : ∀ v : Int32, v = bI (allN g8 (q - b + 1)) → ((8 ≤ q - b → dd_Rn d m_X11_readPartLine (19, [.ref 148, .int (nI (q - b + 1)), .int v, .int (nI (tp q - 48))], [], sM Ln (dd_u I1 148 (upd (I1 148) 10 (nI (q + 1)))) L c s) (dd_RI Ln c s K)) ∧ (¬ 8 ≤ q - b → (0 ≤ nI (139 + 8 * w 0 + (q - b)) ∧ tn (nI (139 + 8 * w 0 + (q - b))) < 2220) ∧ dd_Rn d m_X11_readPartLine (19, [.ref 148, .int (nI (q - b + 1)), .int v, .int (nI (tp q - 48))], [], sM Ln (dd_u (dd_u I1 149 (upd (I1 149) (tn (nI (139 + 8 * w 0 + (q - b)))) (nI (tp q - 48)))) 148 (upd (I1 148) 10 (nI (q + 1)))) L c s) (dd_RI Ln c s K))) := by
        intro v hv
        rw [hv, eq1]
        have tn' : tn (nI (139 + 8 * w 0 + (q - b))) = 139 + 8 * w 0 + (q - b) := nI_clamp (by
          have : q ≤ 400 := by omega
          omega)
        refine ⟨fun z => ih (by rw [← eb]; exact e.symm) (by omega) (by omega) _ _ (fr.v (by decide)) (by rw [dd_us, pk_us]) (by rw [dd_us, pk_un (by decide)]; exact i12) ?_, fun z => ⟨⟨nI_pos' (by omega), by rw [tn']; omega⟩, ih (by rw [← eb]; exact e.symm) (by omega) (by omega) _ _ ?_ (by rw [dd_us, pk_us]) (by rw [dd_us, pk_un (by decide)]; exact i12) ?_⟩⟩
        · rw [show min (q + 1 - b) 8 = min (q - b) 8 by omega]
          exact rm.of (dd_un (by decide))
        · have := (fr.u (k := 149) (f := upd (I1 149) (tn (nI (139 + 8 * w 0 + (q - b)))) (nI (tp q - 48))) (by decide) (by decide)).v (j := 10) (v := nI (q + 1)) (by decide)
          rw [dd_un (show (148 : Nat) ≠ 149 by decide)] at this
          exact this
        · rw [show min (q + 1 - b) 8 = min (q - b) 8 + 1 by omega, tn']
          have eF : nI (tp q - 48) = nI (F (min (q - b) 8)) := by
            show _ = nI (tp (b + min (q - b) 8) - 48)
            rw [show b + min (q - b) 8 = q by omega]
          rw [eF]
          have := RM.set (I := dd_u I1 148 (upd (I1 148) 10 (nI (q + 1)))) (nu rm (139 + 8 * w 0 + min (q - b) 8) (F (min (q - b) 8)))
          refine this.of ?_
          rw [dd_un (by decide), dd_us, dd_us, show min (q - b) 8 = q - b by omega]
      have ea : allN g8 (q - b + 1) = (allN g8 (q - b) && decide (tp q < 56)) := by
        show (allN g8 (q - b) && g8 (q - b)) = _
        show (allN g8 (q - b) && decide (tp (b + (q - b)) < 56)) = _
        rw [show b + (q - b) = q by omega]
      rw [ea] at inner
      refine ⟨fun z => ?_, fun z => ⟨fun y => ?_, fun y => ?_⟩⟩
      · rw [bI_z.mp z] at inner; exact inner 0 rfl
      · refine inner 0 ?_
        rw [decide_eq_false (by omega), Bool.and_false]; rfl
      · refine inner 1 ?_
        have : allN g8 (q - b) = true := by
          cases hh : allN g8 (q - b) with
          | true => rfl
          | false => exact absurd (bI_z.mpr hh) z
        rw [this, decide_eq_true (by omega)]; rfl
  have := key b rfl (Nat.le_refl _) hb J .null (FRa fj) j10 j12 (by rw [Nat.sub_self]; exact jR)
  rw [Nat.sub_self] at this
  exact this
