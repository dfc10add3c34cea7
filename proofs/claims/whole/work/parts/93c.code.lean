/-! code -/
theorem X_bit1 {x : Int32} {k : Nat} (hk : k < 32) : ((x >>> (nI k &&& 31)) &&& 1 = 1) = (bX x k = true) := by
  apply propext
  constructor
  · intro h
    have := congrArg (fun y => bX y 0) h
    simp only [bX_and, bX_1] at this
    rw [bX_sar x hk (by omega), if_pos (by omega), Nat.add_zero, decide_true, Bool.and_true] at this
    exact this
  · intro h
    refine bX_ext fun i hi => ?_
    rw [bX_and, bX_1]
    by_cases q : i = 0
    · subst q; rw [bX_sar x hk (by omega), if_pos (by omega), Nat.add_zero, h, Bool.true_and]
    · rw [decide_eq_false q, Bool.and_false]
def pop8 (m : Nat) : Nat := m % 2 + m / 2 % 2 + m / 4 % 2 + m / 8 % 2 + m / 16 % 2 + m / 32 % 2 + m / 64 % 2 + m / 128 % 2
theorem pop8_le (m : Nat) : pop8 m ≤ 8 := by unfold pop8; omega
theorem J_bit8 {d Ln c s : Nat} {I : Nat → Nat → Int32} {L : Nat → Nat → Int64} {K : Int32 → (Nat → Nat → Int32) → (Nat → Nat → Int64) → Prop} {m : Nat} (hd : 28 ≤ d) (hm : m < 256) (k : K (nI (pop8 m)) I L) : dd_Ev d m_J6_bitCount_0f7a4 [.int (nI m)] (sM Ln I L c s) (dd_RI Ln c s K) := by
  refine w_J6_bitCount_0f7a4_0 hd (dd_qI ?_ k)
  clear k
  revert hm
  revert m
  decide +kernel
/-- two parts alike on a set of beats -/
def alkP (w : Nat → Nat) (m p q : Nat) : Nat → Bool := fun b => !(m.testBit b) || decide (w (139 + 8 * p + b) = w (139 + 8 * q + b))
def alk (w : Nat → Nat) (m p q : Nat) : Bool := allN (alkP w m p q) 8
theorem alk_sym {w : Nat → Nat} {m p q : Nat} : alk w m p q = alk w m q p := by
  have : alkP w m p q = alkP w m q p := by
    funext b
    unfold alkP
    congr 1
    exact decide_eq_decide.mpr ⟨Eq.symm, Eq.symm⟩
  unfold alk
  rw [this]
def tA (w : Nat → Nat) (m : Nat) : Bool := allN (fun p => allN (fun q => !(decide (p < q) && alk w m p q)) (w 0)) (w 0)
theorem tA_t {w : Nat → Nat} {m : Nat} (h : ∀ p q, p < q → q < w 0 → alk w m p q = false) : tA w m = true := by
  unfold tA
  rw [allN_iff]
  intro p hp
  rw [allN_iff]
  intro q hq
  by_cases z : p < q
  · rw [h p q z hq, Bool.and_false]; rfl
  · rw [decide_eq_false z]; rfl
theorem tA_f {w : Nat → Nat} {m p q : Nat} (h : p < q) (hq : q < w 0) (ha : alk w m p q = true) : tA w m = false := by
  cases ht : tA w m with
  | false => rfl
  | true =>
    unfold tA at ht
    have := (allN_iff _ _).mp ((allN_iff _ _).mp ht p (by omega)) q hq
    rw [ha, decide_eq_true h] at this
    cases this
theorem allN_f {p : Nat → Bool} {n i : Nat} (hi : i < n) (h : p i = false) : allN p n = false := by
  cases ht : allN p n with
  | false => rfl
  | true => rw [(allN_iff _ _).mp ht i hi] at h; cases h
theorem C_areAlike {d Ln c s : Nat} {I : Nat → Nat → Int32} {L : Nat → Nat → Int64} {K : Int32 → (Nat → Nat → Int32) → (Nat → Nat → Int64) → Prop} {w : Nat → Nat} {m p q : Nat} (hd : 28 ≤ d) (hC : RC w I L) (hO : OKW w) (hm : m < 256) (hp : p < 6) (hq : q < 6) (k : K (bI (alk w m p q)) I L) : dd_Ev d m_X8_areAlike [.ref 1, .int (nI p), .int (nI q), .int (nI m)] (sM Ln I L c s) (dd_RI Ln c s K) := by
  refine w_X8_areAlike_0 hd ?_
  have key : allN (alkP w m p q) 0 = true → dd_Rn d m_X8_areAlike (3, [.ref 1, .int (nI p), .int (nI q), .int (nI m), .int (nI 0)], [], sM Ln I L c s) (dd_RI Ln c s K) := by
    refine dd_lp (fun i => allN (alkP w m p q) i = true → dd_Rn d m_X8_areAlike (3, [.ref 1, .int (nI p), .int (nI q), .int (nI m), .int (nI i)], [], sM Ln I L c s) (dd_RI Ln c s K)) 8 ?_ ?_
    · intro ha
      refine w_X8_areAlike_3 hd ?_
      rw [li_8, nI_leI (by omega) (by omega)]
      unfold alk at k
      rw [ha] at k
      exact ⟨fun _ => dd_qi k, fun z => absurd (Nat.le_refl _) z⟩
    · intro i hi ih ha
      have n1 := hO.2.2.1 p hp i hi
      have n2 := hO.2.2.1 q hq i hi
      refine w_X8_areAlike_3 hd ?_
      rw [li_8, nI_leI (by omega) (by omega), X_bit (by omega), bX_n (by omega)]
      refine ⟨fun z => absurd z (by omega), fun _ => ⟨fun z => ?_, fun z => ?_⟩⟩
      · rw [nI_1]
        refine ih ?_
        rw [allN, ha]
        unfold alkP
        rw [z]; rfl
      · have zt : m.testBit i = true := by
          cases hz : m.testBit i with
          | true => rfl
          | false => exact absurd hz z
        have ep : nI p * nI 8 + nI i = nI (p * 8 + i) := by rw [pk_mul, nI_add]
        have eq : nI q * nI 8 + nI i = nI (q * 8 + i) := by rw [pk_mul, nI_add]
        have tp : tn (nI (p * 8 + i)) = p * 8 + i := nI_clamp (by omega)
        have tq : tn (nI (q * 8 + i)) = q * 8 + i := nI_clamp (by omega)
        rw [ep, eq, tp, tq, hC.note (by omega), hC.note (by omega), show 139 + (p * 8 + i) = 139 + 8 * p + i by omega, show 139 + (q * 8 + i) = 139 + 8 * q + i by omega, nI_eq (by omega) (by omega), nI_1]
        refine ⟨⟨nI_pos' (by omega), by omega⟩, ⟨nI_pos' (by omega), by omega⟩, fun z2 => ?_, fun z2 => ?_⟩
        · refine ih ?_
          rw [allN, ha]
          unfold alkP
          rw [decide_eq_true z2, Bool.or_true]; rfl
        · have : alk w m p q = false := allN_f hi (by unfold alkP; rw [zt, decide_eq_false z2]; rfl)
          rw [this] at k
          exact dd_qi k
  exact key rfl
theorem C_tellsApart {d Ln c s : Nat} {I : Nat → Nat → Int32} {L : Nat → Nat → Int64} {K : Int32 → (Nat → Nat → Int32) → (Nat → Nat → Int64) → Prop} {w : Nat → Nat} {m : Nat} (hd : 29 ≤ d) (hC : RC w I L) (hO : OKW w) (hm : m < 256) (k : K (bI (tA w m)) I L) : dd_Ev d m_X8_tellsApart [.ref 1, .int (nI m)] (sM Ln I L c s) (dd_RI Ln c s K) := by
  have w0 := hO.1.1
  refine w_X8_tellsApart_0 (by omega) ?_
  have key : ∀ a3, (∀ p q, p < 0 → p < q → q < w 0 → alk w m p q = false) → dd_Rn d m_X8_tellsApart (2, [.ref 1, .int (nI m), .int (nI 0), a3], [], sM Ln I L c s) (dd_RI Ln c s K) := by
    refine dd_lp (fun i => ∀ a3, (∀ p q, p < i → p < q → q < w 0 → alk w m p q = false) → dd_Rn d m_X8_tellsApart (2, [.ref 1, .int (nI m), .int (nI i), a3], [], sM Ln I L c s) (dd_RI Ln c s K)) (w 0) ?_ ?_
    · intro a3 ha
      refine w_X8_tellsApart_2 (by omega) ?_
      rw [hC.parts, nI_leI (by omega) (by omega)]
      rw [tA_t (fun p q z1 z2 => ha p q (by omega) z1 z2)] at k
      exact ⟨fun _ => dd_qi k, fun z => absurd (Nat.le_refl _) z⟩
    · intro i hi ih a3 ha
      refine w_X8_tellsApart_2 (by omega) ?_
      rw [hC.parts, nI_leI (by omega) (by omega), nI_1]
      refine ⟨fun z => absurd z (by omega), fun _ => ?_⟩
      have inner : (∀ q, i < q → q < i + 1 + 0 → alk w m i q = false) → dd_Rn d m_X8_tellsApart (14, [.ref 1, .int (nI m), .int (nI i), .int (nI (i + 1 + 0))], [], sM Ln I L c s) (dd_RI Ln c s K) := by
        refine dd_lp (fun j => (∀ q, i < q → q < i + 1 + j → alk w m i q = false) → dd_Rn d m_X8_tellsApart (14, [.ref 1, .int (nI m), .int (nI i), .int (nI (i + 1 + j))], [], sM Ln I L c s) (dd_RI Ln c s K)) (w 0 - (i + 1)) ?_ ?_
        · intro hj
          refine w_X8_tellsApart_14 (by omega) ?_
          rw [hC.parts, nI_leI (by omega) (by omega), nI_1]
          refine ⟨fun _ => ih _ (fun p q z1 z2 z3 => ?_), fun z => absurd (by omega) z⟩
          by_cases e : p = i
          · subst e; exact hj q z2 (by omega)
          · exact ha p q (by omega) z2 z3
        · intro j hj ihj hq
          refine w_X8_tellsApart_14 (by omega) ?_
          rw [hC.parts, nI_leI (by omega) (by omega)]
          simp only [nI_1]
          refine ⟨fun z => absurd z (by omega), fun _ => ?_⟩
          refine C_areAlike (w := w) (by omega) hC hO hm (by omega) (by omega) ?_
          rw [bI_z]
          refine ⟨fun z => ihj (fun q z1 z2 => ?_), fun z => ?_⟩
          · by_cases e : q = i + 1 + j
            · subst e; exact z
            · exact hq q z1 (by omega)
          · have zt : alk w m i (i + 1 + j) = true := by
              cases hz : alk w m i (i + 1 + j) with
              | true => rfl
              | false => exact absurd hz z
            rw [tA_f (show i < i + 1 + j by omega) (by omega) zt] at k
            exact dd_qi k
      exact inner (fun q z1 z2 => absurd z1 (by omega))
  exact key _ (fun p q z => absurd z (Nat.not_lt_zero p))
theorem M_unlikeBy {d Ln c s : Nat} {I : Nat → Nat → Int32} {L : Nat → Nat → Int64} {K : Int32 → (Nat → Nat → Int32) → (Nat → Nat → Int64) → Prop} {w : Nat → Nat} {m p q : Nat} (hd : 28 ≤ d) (hR : RM w I) (hO : OKW w) (hm : m < 256) (hp : p < 6) (hq : q < 6) (k : K (bI (!alk w m p q)) I L) : dd_Ev d m_X11_unlikeBy [.ref 148, .int (nI m), .int (nI p), .int (nI q)] (sM Ln I L c s) (dd_RI Ln c s K) := by
  refine w_X11_unlikeBy_0 hd ?_
  have key : dd_Rn d m_X11_unlikeBy (6, [.ref 148, .int (nI m), .int (nI p), .int (nI q), .int (bI (!allN (alkP w m p q) 0)), .int (nI 0)], [], sM Ln I L c s) (dd_RI Ln c s K) := by
    refine dd_lp (fun i => dd_Rn d m_X11_unlikeBy (6, [.ref 148, .int (nI m), .int (nI p), .int (nI q), .int (bI (!allN (alkP w m p q) i)), .int (nI i)], [], sM Ln I L c s) (dd_RI Ln c s K)) 8 ?_ ?_
    · refine w_X11_unlikeBy_6 hd ?_
      rw [li_8, nI_leI (by omega) (by omega)]
      refine ⟨fun _ => ⟨?_, dd_qi k⟩, fun z => absurd (Nat.le_refl _) z⟩
      cases (!allN (alkP w m p q) 8)
      · exact Or.inl rfl
      · exact Or.inr rfl
    · intro i hi ih
      have n1 := hO.2.2.1 p hp i hi
      have n2 := hO.2.2.1 q hq i hi
      refine w_X11_unlikeBy_6 hd ?_
      have ep : (139 : Int32) + nI 8 * nI p + nI i = nI (139 + 8 * p + i) := by rw [li_139, pk_mul, nI_add, nI_add]
      have eq : (139 : Int32) + nI 8 * nI q + nI i = nI (139 + 8 * q + i) := by rw [li_139, pk_mul, nI_add, nI_add]
      have tp : tn (nI (139 + 8 * p + i)) = 139 + 8 * p + i := nI_clamp (by omega)
      have tq : tn (nI (139 + 8 * q + i)) = 139 + 8 * q + i := nI_clamp (by omega)
      rw [li_8, nI_leI (by omega) (by omega), X_bit1 (by omega), bX_n (by omega), bI_z, ep, eq, tp, tq, hR.g (by omega), hR.g (by omega), nI_eq (by omega) (by omega), nI_1]
      rw [allN] at ih
      refine ⟨fun z => absurd z (by omega), fun _ => ⟨fun z => ?_, fun z => ?_⟩⟩
      · have zt : allN (alkP w m p q) i = true := by
          cases hz : allN (alkP w m p q) i with
          | true => rfl
          | false => rw [hz] at z; cases z
        rw [zt, Bool.true_and] at ih
        refine ⟨fun z2 => ⟨⟨nI_pos' (by omega), by omega⟩, ⟨nI_pos' (by omega), by omega⟩, fun z3 => ?_, fun z3 => ?_⟩, fun z2 => ?_⟩
        · have : alkP w m p q i = true := by unfold alkP; rw [decide_eq_true z3, Bool.or_true]
          rw [this] at ih
          exact ih
        · have : alkP w m p q i = false := by unfold alkP; rw [z2, decide_eq_false z3]; rfl
          rw [this] at ih
          exact ih
        · have : alkP w m p q i = true := by
            unfold alkP
            cases hz : m.testBit i with
            | true => exact absurd hz z2
            | false => rfl
          rw [this] at ih
          exact ih
      · have zt : allN (alkP w m p q) i = false := by
          cases hz : allN (alkP w m p q) i with
          | true => rw [hz] at z; exact absurd rfl z
          | false => rfl
        rw [zt, Bool.false_and] at ih
        exact ih
  exact key
theorem M_allUnlike {d Ln c s : Nat} {I : Nat → Nat → Int32} {L : Nat → Nat → Int64} {K : Int32 → (Nat → Nat → Int32) → (Nat → Nat → Int64) → Prop} {w : Nat → Nat} {m : Nat} (hd : 29 ≤ d) (hR : RM w I) (hO : OKW w) (hm : m < 256) (k : K (bI (tA w m)) I L) : dd_Ev d m_X11_allUnlike [.ref 148, .int (nI m)] (sM Ln I L c s) (dd_RI Ln c s K) := by
  have w0 := hO.1.1
  refine w_X11_allUnlike_0 (by omega) ?_
  have key : ∀ t a4, (t = true ↔ ∀ p q, p < 0 → q < p → alk w m p q = false) → dd_Rn d m_X11_allUnlike (4, [.ref 148, .int (nI m), .int (bI t), .int (nI 0), a4], [], sM Ln I L c s) (dd_RI Ln c s K) := by
    refine dd_lp (fun i => ∀ t a4, (t = true ↔ ∀ p q, p < i → q < p → alk w m p q = false) → dd_Rn d m_X11_allUnlike (4, [.ref 148, .int (nI m), .int (bI t), .int (nI i), a4], [], sM Ln I L c s) (dd_RI Ln c s K)) (w 0) ?_ ?_
    · intro t a4 ht
      refine w_X11_allUnlike_4 (by omega) ?_
      rw [hR.g (by omega), nI_leI (by omega) (by omega)]
      have e : t = tA w m := by
        cases hq : t with
        | true => exact (tA_t (fun p q z1 z2 => by rw [alk_sym]; exact ht.mp hq q p z2 z1)).symm
        | false =>
          cases hz : tA w m with
          | false => rfl
          | true =>
            have : t = true := ht.mpr (fun p q z1 z2 => by
              cases ha : alk w m p q with
              | false => rfl
              | true => rw [tA_f z2 z1 (by rw [alk_sym]; exact ha)] at hz; cases hz)
            rw [hq] at this
            cases this
      rw [e]
      refine ⟨fun _ => ⟨?_, dd_qi k⟩, fun z => absurd (Nat.le_refl _) z⟩
      cases tA w m
      · exact Or.inl rfl
      · exact Or.inr rfl
    · intro i hi ih t a4 ht
      refine w_X11_allUnlike_4 (by omega) ?_
      rw [hR.g (by omega), nI_leI (by omega) (by omega)]
      refine ⟨fun z => absurd z (by omega), fun _ => ?_⟩
      have inner : ∀ t, (t = true ↔ (∀ p q, p < i → q < p → alk w m p q = false) ∧ ∀ q, q < 0 → alk w m i q = false) → dd_Rn d m_X11_allUnlike (15, [.ref 148, .int (nI m), .int (bI t), .int (nI i), .int (nI 0)], [], sM Ln I L c s) (dd_RI Ln c s K) := by
        refine dd_lp (fun j => ∀ t, (t = true ↔ (∀ p q, p < i → q < p → alk w m p q = false) ∧ ∀ q, q < j → alk w m i q = false) → dd_Rn d m_X11_allUnlike (15, [.ref 148, .int (nI m), .int (bI t), .int (nI i), .int (nI j)], [], sM Ln I L c s) (dd_RI Ln c s K)) i ?_ ?_
        · intro t ht
          refine w_X11_allUnlike_15 (by omega) ?_
          rw [nI_leI (by omega) (by omega), nI_1]
          refine ⟨fun _ => ih t _ (ht.trans ⟨fun z p q z1 z2 => ?_, fun z => ⟨fun p q z1 z2 => z p q (by omega) z2, fun q z1 => z i q (by omega) z1⟩⟩), fun z => absurd (Nat.le_refl _) z⟩
          by_cases e : p = i
          · subst e; exact z.2 q z2
          · exact z.1 p q (by omega) z2
        · intro j hj ihj t ht
          refine w_X11_allUnlike_15 (by omega) ?_
          rw [nI_leI (by omega) (by omega), bI_z]
          simp only [nI_1]
          refine ⟨fun z => absurd z (by omega), fun _ => ⟨fun z => ?_, fun z => ?_⟩⟩
          · refine ihj false ⟨(fun q => by cases q), fun q => ?_⟩
            have : t = true := ht.mpr ⟨q.1, fun q' hq => q.2 q' (by omega)⟩
            rw [z] at this
            cases this
          · have zt : t = true := by
              cases hz : t with
              | true => rfl
              | false => exact absurd hz z
            have hp := ht.mp zt
            refine M_unlikeBy (w := w) (by omega) hR hO hm (by omega) (by omega) ?_
            rw [bI_z]
            refine ⟨fun z2 => ?_, fun z2 => ?_⟩
            · refine ihj false ⟨(fun q => by cases q), fun q => ?_⟩
              rw [q.2 j (by omega)] at z2
              cases z2
            · refine ihj true ⟨fun _ => ⟨hp.1, fun q hq => ?_⟩, fun _ => rfl⟩
              by_cases e : q = j
              · subst e
                cases ha : alk w m i q with
                | false => rfl
                | true => rw [ha] at z2; exact absurd rfl z2
              · exact hp.2 q (by omega)
      exact inner t (ht.trans ⟨fun z => ⟨z, fun q hq => absurd hq (Nat.not_lt_zero q)⟩, fun z => z.1⟩)
  exact key true _ ⟨fun _ p q z => absurd z (Nat.not_lt_zero p), fun _ => rfl⟩
/-- the best set of beats so far -/
def cdA (w : Nat → Nat) : Nat → Option Nat := lpf (fun i o => match o with | none => if tA w i = true then some i else none | some m => if pop8 i < pop8 m ∧ tA w i = true then some i else some m) none
def cdF (x : Nat) (o : Option Nat) : Nat := match o with | none => x | some m => pop8 m
theorem cdA_s {w : Nat → Nat} {x i : Nat} (hx : 9 ≤ x) : cdA w (i + 1) = if pop8 i < cdF x (cdA w i) ∧ tA w i = true then some i else cdA w i := by
  have e : cdA w (i + 1) = match cdA w i with | none => if tA w i = true then some i else none | some m => if pop8 i < pop8 m ∧ tA w i = true then some i else some m := rfl
  rw [e]
  have := pop8_le i
  cases cdA w i with
  | none =>
    show (if tA w i = true then some i else none) = if pop8 i < x ∧ tA w i = true then some i else none
    by_cases z : tA w i = true
    · rw [if_pos z, if_pos ⟨by omega, z⟩]
    · rw [if_neg z, if_neg (fun q => z q.2)]
  | some m => rfl
theorem A_code {d Ln c s : Nat} {I0 I : Nat → Nat → Int32} {L : Nat → Nat → Int64} {w : Nat → Nat} {im : Option (Nat → Nat)} {na od : Nat} {A : Nat → Nat → Nat} {tp : Nat → Nat} {tl : Nat} {fa : Option Nat} (hd : 60 ≤ d) (h : INV I0 w im na od A tp tl fa I L) : PIw d m_X10_code [.ref 0] m_X11_code [.ref 148] I0 Ln c s I L := by
  have hO := h.1.1
  have hC := h.2.2.1
  have bF : ∀ x o, 9 ≤ x → x ≤ 1000000 → cdF x o ≤ 1000000 := by
    intro x o h1 h2
    cases o with
    | none => exact h2
    | some m => show pop8 m ≤ 1000000; have := pop8_le m; omega
  refine PIw.q h (oI (cdA w 256)) ?_ ?_
  · intro K g
    refine w_X10_code_0 (by omega) ?_
    have key : ∀ a4, dd_Rn d m_X10_code (7, [.ref 0, .int (oI (cdA w 0)), .int (nI (cdF 9 (cdA w 0))), .int (nI 0), a4], [], sM Ln I L c s) (dd_RI Ln c s K) := by
      refine dd_lp (fun i => ∀ a4, dd_Rn d m_X10_code (7, [.ref 0, .int (oI (cdA w i)), .int (nI (cdF 9 (cdA w i))), .int (nI i), a4], [], sM Ln I L c s) (dd_RI Ln c s K)) 256 ?_ ?_
      · intro a4
        refine w_X10_code_7 (by omega) ?_
        rw [li_256, nI_leI (by omega) (by omega)]
        exact ⟨fun _ => dd_qi (g I L (FC.refl I L)), fun z => absurd (Nat.le_refl _) z⟩
      · intro i hi ih a4
        have b1 := bF 9 (cdA w i) (by omega) (by omega)
        have b2 := pop8_le i
        rw [cdA_s (x := 9) (by omega)] at ih
        refine w_X10_code_7 (by omega) ?_
        rw [li_256, nI_leI (by omega) (by omega), nI_1]
        refine ⟨fun z => absurd z (by omega), fun _ => ?_⟩
        refine J_bit8 (by omega) hi ?_
        rw [nI_leI (by omega) (by omega)]
        refine ⟨fun z => ?_, fun z => ?_⟩
        · rw [if_neg (fun q => by have := q.1; omega)] at ih
          exact ih _
        · refine C_tellsApart (w := w) (by omega) hC hO hi ?_
          rw [bI_z]
          refine ⟨fun z2 => ?_, fun z2 => ?_⟩
          · rw [if_neg (fun q => by rw [q.2] at z2; cases z2)] at ih
            exact ih _
          · rw [if_pos ⟨by omega, by cases hz : tA w i with
              | true => rfl
              | false => exact absurd hz z2⟩] at ih
            exact ih _
    exact key _
  · intro I1 L1 h1 K g
    have hR := h1.2.1
    refine w_X11_code_0 (by omega) ?_
    have fj := FM.th I1 0
    have t0 := thr0 (I := I1) (v := 0)
    have hR1 : RM w (dd_u I1 148 (upd (I1 148) 0 0)) := hR.of (dd_un (by decide))
    generalize dd_u I1 148 (upd (I1 148) 0 0) = J at *
    have key : dd_Rn d m_X11_code (13, [.ref 148, .int (oI (cdA w 0)), .int (nI (cdF 1000000 (cdA w 0))), .int (nI 0)], [], sM Ln J L1 c s) (dd_RI Ln c s K) := by
      refine dd_lp (fun i => dd_Rn d m_X11_code (13, [.ref 148, .int (oI (cdA w i)), .int (nI (cdF 1000000 (cdA w i))), .int (nI i)], [], sM Ln J L1 c s) (dd_RI Ln c s K)) 256 ?_ ?_
      · refine w_X11_code_13 (by omega) ?_
        rw [li_256, nI_leI (by omega) (by omega)]
        exact ⟨fun _ => mqJ hR1 fj t0 rfl g, fun z => absurd (Nat.le_refl _) z⟩
      · intro i hi ih
        have b1 := bF 1000000 (cdA w i) (by omega) (by omega)
        have b2 := pop8_le i
        rw [cdA_s (x := 1000000) (by omega)] at ih
        refine w_X11_code_13 (by omega) ?_
        rw [li_256, nI_leI (by omega) (by omega), nI_1]
        refine ⟨fun z => absurd z (by omega), fun _ => ?_⟩
        refine J_bit8 (by omega) hi ?_
        rw [nI_leI (by omega) (by omega)]
        refine ⟨fun z => ?_, fun z => ?_⟩
        · rw [if_neg (fun q => by have := q.1; omega)] at ih
          exact ih
        · refine M_allUnlike (w := w) (by omega) hR1 hO hi ?_
          rw [bI_z]
          refine ⟨fun z2 => ?_, fun z2 => ?_⟩
          · rw [if_neg (fun q => by rw [q.2] at z2; cases z2)] at ih
            exact ih
          · refine J_bit8 (by omega) hi ?_
            rw [if_pos ⟨by omega, by cases hz : tA w i with
              | true => rfl
              | false => exact absurd hz z2⟩] at ih
            exact ih
    exact key
