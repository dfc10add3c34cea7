/-! The class: a step nearer; the law -/
def onx (w : Nat → Nat) (c0 : Nat) (v : Int32) (r : Nat) : Prop := (v < 0 ∧ r = c0) ∨ ∃ t, t < 64 ∧ v = nI t ∧ t ≠ c0 ∧ r = if w (11 + t) = 1 then c0 else t
theorem C_sn116 {d Ln c s : Nat} {I : Nat → Nat → Int32} {L : Nat → Nat → Int64} {K : Int32 → (Nat → Nat → Int32) → (Nat → Nat → Int64) → Prop} {w : Nat → Nat} {c0 r1 r2 : Nat} {a2 a3 a4 a5 a6 a7 b0 : Int32} (hd : 29 ≤ d) (hC : RC w I L) (h1 : onx w c0 a7 r1) (h2 : onx w c0 b0 r2) (k : K (nI (if r1 = c0 then r2 else r1)) I L) : dd_Rn d m_X8_stepNearer (116, [.ref 1, .int (nI c0), .int a2, .int a3, .int a4, .int a5, .int a6, .int a7, .null], [.int b0], sM Ln I L c s) (dd_RI Ln c s K) := by
  refine w_X8_stepNearer_116 (by omega) ?_
  have two : r1 = c0 → dd_Ev (d - 1) m_X8_isOpen [.ref 1, .int b0] (sM Ln I L c s) (dd_RI Ln c s (fun x2 I2 L2 => ((x2 = 0 → dd_Rn d m_X8_stepNearer (145, [.ref 1, .int (nI c0), .int a2, .int a3, .int a4, .int a5, .int a6, .int a7, .int b0], [.int (nI c0)], sM Ln I2 L2 c s) (dd_RI Ln c s K)) ∧ (¬ (x2 = 0) → dd_Rn d m_X8_stepNearer (145, [.ref 1, .int (nI c0), .int a2, .int a3, .int a4, .int a5, .int a6, .int a7, .int b0], [.int b0], sM Ln I2 L2 c s) (dd_RI Ln c s K))))) := by
    intro e
    rw [if_pos e] at k
    rcases h2 with ⟨g1, g2⟩ | ⟨t, g1, g2, g3, g4⟩
    · refine C_isOpenM (by omega) g1 ?_
      rw [g2] at k
      exact ⟨fun _ => w_X8_stepNearer_145 (by omega) (dd_qi k), fun q => absurd rfl q⟩
    · subst g2
      refine C_isOpen (by omega) hC (by omega) ?_
      simp only [bI_0]
      refine ⟨fun q => ?_, fun q => ?_⟩
      · rw [g4, if_pos ((opn_f g1).mp q)] at k
        exact w_X8_stepNearer_145 (by omega) (dd_qi k)
      · rw [g4, if_neg (fun q2 => q ((opn_f g1).mpr q2))] at k
        exact w_X8_stepNearer_145 (by omega) (dd_qi k)
  rcases h1 with ⟨g1, g2⟩ | ⟨t, g1, g2, g3, g4⟩
  · refine C_isOpenM (by omega) g1 ?_
    exact ⟨fun _ => two g2, fun q => absurd rfl q⟩
  · subst g2
    refine C_isOpen (by omega) hC (by omega) ?_
    simp only [bI_0]
    refine ⟨fun q => ?_, fun q => ?_⟩
    · exact two (by rw [g4, if_pos ((opn_f g1).mp q)])
    · have g5 : r1 = t := by rw [g4, if_neg (fun q2 => q ((opn_f g1).mpr q2))]
      rw [g5, if_neg g3] at k
      exact dd_qi k
theorem C_sn70 {d Ln c s : Nat} {I : Nat → Nat → Int32} {L : Nat → Nat → Int64} {K : Int32 → (Nat → Nat → Int32) → (Nat → Nat → Int64) → Prop} {w : Nat → Nat} {c0 : Nat} {a4 b0 : Int32} (hd : 29 ≤ d) (hC : RC w I L) (h4 : w 4 < 64) (hc : c0 < 64) (h1 : onx w c0 a4 (nrx w c0)) (h2 : onx w c0 b0 (nry w c0)) (k : K (nI (nrr w c0)) I L) : dd_Rn d m_X8_stepNearer (70, [.ref 1, .int (nI c0), .int (nI (w 4 % 8) - nI (c0 % 8)), .int (nI (w 4 / 8) - nI (c0 / 8)), .int a4, .null, .null, .null, .null], [.int b0], sM Ln I L c s) (dd_RI Ln c s K) := by
  refine w_X8_stepNearer_70 (by omega) ?_
  rw [abs_nI (by omega) (by omega), abs_nI (by omega) (by omega)]
  have b1 : adf (w 4 / 8) (c0 / 8) < 64 := by unfold adf; omega
  have b2 : adf (w 4 % 8) (c0 % 8) < 64 := by unfold adf; omega
  rw [nI_ltI (by omega) (by omega)]
  unfold nrr at k
  refine ⟨fun q => ?_, fun q => ?_⟩
  · rw [if_neg (by omega)] at k
    refine w_X8_stepNearer_88 (by omega) ⟨fun _ => ?_, fun q2 => absurd rfl q2⟩
    refine w_X8_stepNearer_102 (by omega) ⟨fun _ => ?_, fun q2 => absurd rfl q2⟩
    exact C_sn116 hd hC h2 h1 k
  · refine w_X8_stepNearer_88 (by omega) ⟨fun q2 => absurd q2 (by decide), fun _ => ?_⟩
    refine w_X8_stepNearer_102 (by omega) ⟨fun q2 => absurd q2 (by decide), fun _ => ?_⟩
    refine C_sn116 hd hC h1 h2 ?_
    by_cases q3 : w 4 % 8 = c0 % 8
    · have e1 : nrx w c0 = c0 := by rw [nrx, if_pos q3]
      have e2 : nry w c0 = c0 := by
        have : adf (w 4 % 8) (c0 % 8) = 0 := by unfold adf; omega
        have e3 : adf (w 4 / 8) (c0 / 8) = 0 := by omega
        unfold adf at e3
        rw [nry, if_pos (by omega)]
      rw [if_neg (fun q4 => q4.1 q3), e1, e2, if_pos rfl] at k
      rw [e1, e2, if_pos rfl]
      exact k
    · rw [if_pos ⟨q3, by omega⟩] at k
      exact k
theorem C_stepNearer {d Ln c s : Nat} {I : Nat → Nat → Int32} {L : Nat → Nat → Int64} {K : Int32 → (Nat → Nat → Int32) → (Nat → Nat → Int64) → Prop} {w : Nat → Nat} {c0 : Nat} (hd : 29 ≤ d) (hC : RC w I L) (h4 : w 4 < 64) (hc : c0 < 64) (k : K (nI (nrr w c0)) I L) : dd_Ev d m_X8_stepNearer [.ref 1, .int (nI c0)] (sM Ln I L c s) (dd_RI Ln c s K) := by
  refine w_X8_stepNearer_0 (by omega) ?_
  simp (disch := omega) only [hC.fire, and7, shr3]
  simp (disch := omega) only [li_0, dz, dle, li_1, li_8, nI_add]
  have m1 : onx w c0 (-1) c0 := Or.inl ⟨by decide, rfl⟩
  have hx0 : w 4 % 8 = c0 % 8 → onx w c0 (-1) (nrx w c0) := fun q => by rw [nrx, if_pos q]; exact m1
  have hxl : ¬ w 4 % 8 = c0 % 8 → w 4 % 8 ≤ c0 % 8 → onx w c0 (nI c0 - nI 1) (nrx w c0) := fun q q2 => by
    rw [nrx, if_neg q, if_neg (by omega), pk_sub (by omega)]
    exact Or.inr ⟨c0 - 1, by omega, rfl, by omega, stp4 (by omega)⟩
  have hxr : ¬ w 4 % 8 = c0 % 8 → ¬ w 4 % 8 ≤ c0 % 8 → onx w c0 (nI (c0 + 1)) (nrx w c0) := fun q q2 => by
    rw [nrx, if_neg q, if_pos (by omega)]
    exact Or.inr ⟨c0 + 1, by omega, rfl, by omega, stp2 (by omega)⟩
  have hy0 : w 4 / 8 = c0 / 8 → onx w c0 (-1) (nry w c0) := fun q => by rw [nry, if_pos q]; exact m1
  have hyl : ¬ w 4 / 8 = c0 / 8 → w 4 / 8 ≤ c0 / 8 → onx w c0 (nI c0 - nI 8) (nry w c0) := fun q q2 => by
    rw [nry, if_neg q, if_neg (by omega), pk_sub (by omega)]
    exact Or.inr ⟨c0 - 8, by omega, rfl, by omega, stp1 (by omega)⟩
  have hyr : ¬ w 4 / 8 = c0 / 8 → ¬ w 4 / 8 ≤ c0 / 8 → onx w c0 (nI (c0 + 8)) (nry w c0) := fun q q2 => by
    rw [nry, if_neg q, if_pos (by omega)]
    exact Or.inr ⟨c0 + 8, by omega, rfl, by omega, stp3 (by omega)⟩
  have go : ∀ {v u : Int32}, onx w c0 v (nrx w c0) → onx w c0 u (nry w c0) → dd_Rn d m_X8_stepNearer (70, [.ref 1, .int (nI c0), .int (nI (w 4 % 8) - nI (c0 % 8)), .int (nI (w 4 / 8) - nI (c0 / 8)), .int v, .null, .null, .null, .null], [.int u], sM Ln I L c s) (dd_RI Ln c s K) := fun a b => C_sn70 hd hC h4 hc a b k
  refine ⟨fun q1 => ⟨fun q2 => go (hx0 q1) (hy0 q2), fun q2 => ⟨fun q3 => go (hx0 q1) (hyl q2 q3), fun q3 => go (hx0 q1) (hyr q2 q3)⟩⟩, fun q1 => ⟨fun q4 => ⟨fun q2 => go (hxl q1 q4) (hy0 q2), fun q2 => ⟨fun q3 => go (hxl q1 q4) (hyl q2 q3), fun q3 => go (hxl q1 q4) (hyr q2 q3)⟩⟩, fun q4 => ⟨fun q2 => go (hxr q1 q4) (hy0 q2), fun q2 => ⟨fun q3 => go (hxr q1 q4) (hyl q2 q3), fun q3 => go (hxr q1 q4) (hyr q2 q3)⟩⟩⟩⟩
/-! the law as codes: sum, left, held, reach, stays -/
abbrev wgT : Type := Int32 × Int32 × Int32 × Int32 × Bool
def wgS (F : Nat → Nat) (sil fer : Bool) (x : Int32) (t : wgT) : wgT :=
  if x < 1000 then
    if x < 0 then
      if -20 < x then
        if x = -7 then (0, t.1, t.2.2.1, t.2.2.2.1, t.2.2.2.2)
        else if x = -8 then (0, t.2.1, t.2.2.1 <<< ((1 : Int32) &&& 31) ||| (if t.1 ≤ t.2.1 then 0 else 1), t.2.2.2.1, t.2.2.2.2)
        else if x = -9 then (0, t.2.1, t.2.2.1 <<< ((1 : Int32) &&& 31) ||| (if t.2.1 ≤ t.1 then 0 else 1), t.2.2.2.1, t.2.2.2.2)
        else if x = -4 then (t.1, t.2.1, t.2.2.1 ^^^ 1, t.2.2.2.1, t.2.2.2.2)
        else if x = -5 then (t.1, t.2.1, ((t.2.2.1.toUInt32 >>> ((1 : Int32).toUInt32 &&& Int32.toUInt32 31)).toInt32) &&& (t.2.2.1 ||| (-2)), t.2.2.2.1, t.2.2.2.2)
        else if x = -6 then (t.1, t.2.1, ((t.2.2.1.toUInt32 >>> ((1 : Int32).toUInt32 &&& Int32.toUInt32 31)).toInt32) ||| (t.2.2.1 &&& 1), t.2.2.2.1, t.2.2.2.2)
        else if x = -10 then (t.1, t.2.1, t.2.2.1, t.2.2.2.1, t.2.2.2.2 || (if t.2.2.1 &&& 1 = 0 then false else true))
        else if x = -2 then (t.1, t.2.1, t.2.2.1 <<< ((1 : Int32) &&& 31) ||| bI sil, t.2.2.2.1, t.2.2.2.2)
        else if x = -3 then (t.1, t.2.1, t.2.2.1 <<< ((1 : Int32) &&& 31) ||| bI fer, t.2.2.2.1, t.2.2.2.2)
        else (t.1, t.2.1, t.2.2.1 <<< ((1 : Int32) &&& 31) ||| 1, t.2.2.2.1, t.2.2.2.2)
      else (t.1 + nI (F (tn ((-20 - x) &&& 7))), t.2.1, t.2.2.1, t.2.2.2.1, t.2.2.2.2)
    else (t.1 + x, t.2.1, t.2.2.1, t.2.2.2.1, t.2.2.2.2)
  else (t.1, t.2.1, t.2.2.1, t.2.2.2.1 + (if t.2.2.1 &&& 1 = 0 then 0 else if x < 1100 then x - 1000 else 1100 - x), t.2.2.2.2)
def wgA (C : Nat → Int32) (F : Nat → Nat) (sil fer : Bool) : Nat → wgT := lpf (fun i t => wgS F sil fer (C i) t) (0, 0, 0, 0, false)
def wgP (d Ln c s : Nat) (I : Nat → Nat → Int32) (L : Nat → Nat → Int64) (Q : dd_O → Prop) (f : Nat) (sil fer : Bool) (i : Nat) (t : wgT) : Prop :=
  ∀ (a8 a9 : Value), dd_Rn d m_X2_weigh (22, [.ref 25, .ref f, .int (bI sil), .int (bI fer), .int t.1, .int t.2.1, .int t.2.2.1, .int (nI i), a8, a9], [], sM Ln (dd_u I 25 (upd (upd (I 25) 3 t.2.2.2.1) 4 (bI t.2.2.2.2))) L c s) Q
theorem upd_sw {f : Nat → Int32} {a b : Nat} {x y : Int32} (h : a ≠ b) : upd (upd f a x) b y = upd (upd f b y) a x := by
  funext j
  by_cases e1 : j = b
  · subst e1; rw [pk_us, pk_un (fun e => h e.symm), pk_us]
  · rw [pk_un e1]
    by_cases e2 : j = a
    · subst e2; rw [pk_us, pk_us]
    · rw [pk_un e2, pk_un e2, pk_un e1]
theorem upd_uu {f : Nat → Int32} {a : Nat} {x y : Int32} : upd (upd f a x) a y = upd f a y := by
  funext j
  by_cases e : j = a
  · subst e; rw [pk_us, pk_us]
  · rw [pk_un e, pk_un e, pk_un e]
theorem bI_or (a b : Bool) : bI a ||| bI b = bI (a || b) := by cases a <;> cases b <;> decide
set_option maxHeartbeats 4000000 in
theorem C_wgB {d Ln c s : Nat} {I : Nat → Nat → Int32} {L : Nat → Nat → Int64} {Q : dd_O → Prop} {F : Nat → Nat} {f n i : Nat} {sil fer : Bool} {t : wgT} (hd : 28 ≤ d) (hf : f = 134 ∨ f = 137) (h1 : I 25 1 = nI n) (hn : n ≤ 400) (hF : ∀ i, i < 8 → I f i = nI (F i)) (hi : i < n) (ih : wgP d Ln c s I L Q f sil fer (i + 1) (wgS F sil fer (I 26 i) t)) : wgP d Ln c s I L Q f sil fer i t := by
  obtain ⟨t1, t2, t3, t4, t5⟩ := t
  have hf25 : f ≠ 25 := by omega
  intro a8 a9
  unfold wgP at ih
  refine w_X2_weigh_22 hd hf ?_
  simp (disch := omega) only [dd_us, dd_un, pk_us, pk_un, h1, nI_leI, tn, nI_clamp, ck_and, im_t, im_f, nI_pos', Bool.true_eq_false, Bool.false_eq_true, true_and, and_true, true_implies, false_implies, implies_true, not_true_eq_false, not_false_eq_true, ne_eq, forall_const]
  generalize I 26 i = x at *
  have up3 : ∀ v, upd (upd (upd (I 25) 3 t4) 4 (bI t5)) 3 v = upd (upd (I 25) 3 v) 4 (bI t5) := fun v => by
    rw [upd_sw (by decide : (3 : Nat) ≠ 4), upd_uu, upd_sw (by decide : (4 : Nat) ≠ 3)]
  have up4 : ∀ v, upd (upd (upd (I 25) 3 t4) 4 (bI t5)) 4 v = upd (upd (I 25) 3 t4) 4 v := fun v => upd_uu
  have g3 : upd (upd (I 25) 3 t4) 4 (bI t5) 3 = t4 := by rw [pk_un (by decide), pk_us]
  have g4 : upd (upd (I 25) 3 t4) 4 (bI t5) 4 = bI t5 := pk_us
  have gf : dd_u I 25 (upd (upd (I 25) 3 t4) 4 (bI t5)) f = I f := dd_un hf25
  have fin : ∀ (u v y g : Int32) (b : Bool) (a9 : Value), wgS F sil fer x (t1, t2, t3, t4, t5) = (u, v, y, g, b) → dd_Rn d m_X2_weigh (22, [.ref 25, .ref f, .int (bI sil), .int (bI fer), .int u, .int v, .int y, .int (nI i + 1), .int x, a9], [], sM Ln (dd_u I 25 (upd (upd (I 25) 3 g) 4 (bI b))) L c s) Q := by
    intro u v y g b a9 e
    rw [nI_1]
    have := ih (.int x) a9
    rw [e] at this
    exact this
  refine w_X2_weigh_40 hd hf ⟨fun q1 => w_X2_weigh_98 hd hf ⟨fun q2 => w_X2_weigh_113 hd hf ⟨fun q3 => ?_, fun q3 => w_X2_weigh_131 hd hf ?_⟩, fun q2 => ?_⟩, fun q1 => w_X2_weigh_48 hd hf ?_⟩
  · refine w_X2_weigh_138 hd hf ⟨fun e7 => ?_, fun e7 => ⟨fun e8 => ⟨fun _ => ⟨fun r => ?_, fun r => ?_⟩, fun z => absurd e8 z⟩, fun e8 => ⟨fun e9 => ⟨fun z => absurd z e8, fun _ => ⟨fun r => ?_, fun r => ?_⟩⟩, fun e9 => ?_⟩⟩⟩
    · refine fin _ _ _ _ _ _ ?_
      simp only [wgS, if_pos q1, if_pos q2, if_pos q3, if_pos e7]
    · refine fin _ _ _ _ _ _ ?_
      simp only [wgS, if_pos q1, if_pos q2, if_pos q3, if_neg e7, if_pos e8, if_pos r]
    · refine fin _ _ _ _ _ _ ?_
      simp only [wgS, if_pos q1, if_pos q2, if_pos q3, if_neg e7, if_pos e8, if_neg r]
    · refine fin _ _ _ _ _ _ ?_
      simp only [wgS, if_pos q1, if_pos q2, if_pos q3, if_neg e7, if_neg e8, if_pos e9, if_pos r]
    · refine fin _ _ _ _ _ _ ?_
      simp only [wgS, if_pos q1, if_pos q2, if_pos q3, if_neg e7, if_neg e8, if_pos e9, if_neg r]
    · refine w_X2_weigh_228 hd hf ?_
      simp only [dd_us, dd_u_u, up4, g4]
      refine ⟨fun e4 => ?_, fun e4 => ⟨fun e5 => ?_, fun e5 => ⟨fun e6 => ?_, fun e6 => ⟨fun e10 => ⟨fun r => ?_, fun r => ?_⟩, fun e10 => ?_⟩⟩⟩⟩
      · refine fin _ _ _ _ _ _ ?_
        simp only [wgS, if_pos q1, if_pos q2, if_pos q3, if_neg e7, if_neg e8, if_neg e9, if_pos e4]
      · refine fin _ _ _ _ _ _ ?_
        simp only [wgS, if_pos q1, if_pos q2, if_pos q3, if_neg e7, if_neg e8, if_neg e9, if_neg e4, if_pos e5]
      · refine fin _ _ _ _ _ _ ?_
        simp only [wgS, if_pos q1, if_pos q2, if_pos q3, if_neg e7, if_neg e8, if_neg e9, if_neg e4, if_neg e5, if_pos e6]
      · have e0 : bI t5 ||| 0 = bI (t5 || false) := bI_or t5 false
        rw [e0]
        refine ⟨bI_01 _, fin _ _ _ _ _ _ ?_⟩
        simp only [wgS, if_pos q1, if_pos q2, if_pos q3, if_neg e7, if_neg e8, if_neg e9, if_neg e4, if_neg e5, if_neg e6, if_pos e10, if_pos r]
      · have e0 : bI t5 ||| 1 = bI (t5 || true) := bI_or t5 true
        rw [e0]
        refine ⟨bI_01 _, fin _ _ _ _ _ _ ?_⟩
        simp only [wgS, if_pos q1, if_pos q2, if_pos q3, if_neg e7, if_neg e8, if_neg e9, if_neg e4, if_neg e5, if_neg e6, if_pos e10, if_neg r]
      · refine w_X2_weigh_318 hd hf ⟨fun e2 => ⟨fun r => ?_, fun r => ?_⟩, fun e2 => ⟨fun e3 => ⟨fun r => ?_, fun r => ?_⟩, fun e3 => ?_⟩⟩
        · refine fin _ _ _ _ _ _ ?_
          simp only [wgS, if_pos q1, if_pos q2, if_pos q3, if_neg e7, if_neg e8, if_neg e9, if_neg e4, if_neg e5, if_neg e6, if_neg e10, if_pos e2, r]
        · have r' : bI sil = 1 := by rcases bI_01 sil with h | h; exact absurd h r; exact h
          refine fin _ _ _ _ _ _ ?_
          simp only [wgS, if_pos q1, if_pos q2, if_pos q3, if_neg e7, if_neg e8, if_neg e9, if_neg e4, if_neg e5, if_neg e6, if_neg e10, if_pos e2, r']
        · refine fin _ _ _ _ _ _ ?_
          simp only [wgS, if_pos q1, if_pos q2, if_pos q3, if_neg e7, if_neg e8, if_neg e9, if_neg e4, if_neg e5, if_neg e6, if_neg e10, if_neg e2, if_pos e3, r]
        · have r' : bI fer = 1 := by rcases bI_01 fer with h | h; exact absurd h r; exact h
          refine fin _ _ _ _ _ _ ?_
          simp only [wgS, if_pos q1, if_pos q2, if_pos q3, if_neg e7, if_neg e8, if_neg e9, if_neg e4, if_neg e5, if_neg e6, if_neg e10, if_neg e2, if_pos e3, r']
        · refine fin _ _ _ _ _ _ ?_
          simp only [wgS, if_pos q1, if_pos q2, if_pos q3, if_neg e7, if_neg e8, if_neg e9, if_neg e4, if_neg e5, if_neg e6, if_neg e10, if_neg e2, if_neg e3]
  · obtain ⟨j, hj, ej⟩ := pk_andE (-20 - x) (m := 7) 3 rfl
    have hj8 : j < 8 := hj
    have ej2 : tn ((-20 - x) &&& 7) = j := by rw [ej]; exact nI_clamp (by omega)
    rw [ej2, gf, hF j hj8]
    refine ⟨⟨by rw [ej]; exact nI_pos' (by omega), hj8⟩, fin _ _ _ _ _ _ ?_⟩
    simp only [wgS, if_pos q1, if_pos q2, if_neg q3, ej2]
  · refine fin _ _ _ _ _ _ ?_
    simp only [wgS, if_pos q1, if_neg q2]
  · simp only [dd_us, dd_u_u, up3, g3]
    refine ⟨fun q2 => ⟨fun r => ?_, fun r => ?_⟩, fun q2 => ⟨fun r => ?_, fun r => ?_⟩⟩
    · refine fin _ _ _ _ _ _ ?_
      simp only [wgS, if_neg q1, if_pos r]
    · refine fin _ _ _ _ _ _ ?_
      simp only [wgS, if_neg q1, if_neg r, if_pos q2]
    · refine fin _ _ _ _ _ _ ?_
      simp only [wgS, if_neg q1, if_pos r]
    · refine fin _ _ _ _ _ _ ?_
      simp only [wgS, if_neg q1, if_neg r, if_neg q2]
theorem C_weigh {d Ln c s : Nat} {I : Nat → Nat → Int32} {L : Nat → Nat → Int64} {K : (Nat → Nat → Int32) → (Nat → Nat → Int64) → Prop} {F : Nat → Nat} {f n : Nat} {sil fer : Bool} (hd : 28 ≤ d) (hf : f = 134 ∨ f = 137) (h1 : I 25 1 = nI n) (hn : n ≤ 400) (hF : ∀ i, i < 8 → I f i = nI (F i)) (k : K (dd_u I 25 (upd (upd (I 25) 3 (wgA (I 26) F sil fer n).2.2.2.1) 4 (bI (wgA (I 26) F sil fer n).2.2.2.2))) L) : dd_Ev d m_X2_weigh [.ref 25, .ref f, .int (bI sil), .int (bI fer)] (sM Ln I L c s) (dd_RV Ln c s K) := by
  refine w_X2_weigh_0 hd hf ?_
  simp only [dd_u_u]
  have key : wgP d Ln c s I L (dd_RV Ln c s K) f sil fer 0 (wgA (I 26) F sil fer 0) := by
    refine dd_lp (fun i => wgP d Ln c s I L (dd_RV Ln c s K) f sil fer i (wgA (I 26) F sil fer i)) n ?_ ?_
    · intro a8 a9
      refine w_X2_weigh_22 hd hf ?_
      simp (disch := omega) only [dd_us, dd_un, pk_us, pk_un, h1, nI_leI, im_t, ck_and, im_f, Bool.true_eq_false, Bool.false_eq_true, true_and, and_true, true_implies, false_implies, implies_true, not_true_eq_false, not_false_eq_true, ne_eq, forall_const]
      exact dd_qV k
    · intro i hi ih
      exact C_wgB hd hf h1 hn hF hi ih
  exact key .null .null
