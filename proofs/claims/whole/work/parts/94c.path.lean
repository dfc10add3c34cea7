/-! path, clearings -/
theorem A_path {d Ln c s : Nat} {I0 I : Nat → Nat → Int32} {L : Nat → Nat → Int64} {w : Nat → Nat} {im : Option (Nat → Nat)} {na od : Nat} {A : Nat → Nat → Nat} {tp : Nat → Nat} {tl : Nat} {fa : Option Nat} (hd : 60 ≤ d) (h : INV I0 w im na od A tp tl fa I L) (a a2 : Int32) : PW d m_L_path [.ref 0, .int a, .int a2, .ref 163] m_X11_path [.ref 148, .int a, .int a2] I0 Ln c s I L := by
  have hO := h.1.1
  have hC := h.2.2.1
  by_cases hv : vld a 64 ∧ vld a2 64
  · obtain ⟨x, hx, rfl⟩ := vld_i (by omega) hv.1
    obtain ⟨y, hy, rfl⟩ := vld_i (by omega) hv.2
    refine PW.q h _ (oI (frst (fun n => lvA (opn w) x n y) 64)) (WR1 (e1 := 2) (o := none) (w_L_path_0 (by omega)) (Or.inl rfl) ?_) ?_
    · intro K T g1 g2
      refine w_X10_path_0 (by omega) (rqC (n := 64) rfl (fun z => absurd hv.1 z) fun _ => rqC (n := 64) rfl (fun z => absurd hv.2 z) fun _ => ?_)
      exact C_stepsB (w := w) (by omega) hC hx hy (dd_qT (g1 rfl I L (FC.refl I L)))
    · intro I1 L1 c1 s1 h1 K g
      have hR := h1.2.1
      have ty : tn (nI y) = y := nI_clamp (by omega)
      refine w_X11_path_0 (by omega) (rqN (m := 63) rfl (by omega) (fun z => absurd hv.1 z) fun _ => rqN (m := 63) rfl (by omega) (fun z => absurd hv.2 z) fun _ => ?_)
      refine M_look (w := w) (by omega) (hR.of (dd_un (by decide))) hO hx fun I2 len q r2 f2 m1 _ _ _ _ => ?_
      rw [ty, m1 y hy]
      exact ⟨⟨nI_pos' (by omega), by omega⟩, mqJ r2 ((FM.th I1 0).trans (FM.fr f2 (by decide) (by decide))) (by rw [f2.2 0 (by decide)]; exact thr0) rfl g⟩
  · refine PW.q h _ 0 (WR1 (e1 := 2) (o := some 2) (w_L_path_0 (by omega)) (Or.inr rfl) ?_) ?_
    · intro K T g1 g2
      exact w_X10_path_0 (by omega) (rqC (n := 64) rfl (fun _ => dd_qX (g2 2 rfl)) fun z => rqC (n := 64) rfl (fun _ => dd_qX (g2 2 rfl)) fun z2 => absurd ⟨z, z2⟩ hv)
    · intro I1 L1 c1 s1 h1 K g
      have hR := h1.2.1
      refine w_X11_path_0 (by omega) ?_
      simp only [dd_u_u, upd_uu]
      exact rqN (m := 63) rfl (by omega) (fun _ => mqT hR (by decide) g) fun z => rqN (m := 63) rfl (by omega) (fun _ => mqT hR (by decide) g) fun z2 => absurd ⟨z, z2⟩ hv
theorem lv_front {op : Nat → Bool} {x j y : Nat} (hx : x < 64) (hn : nbr x j) (ho : op x = true) : ∀ n, lvA op j n y = true → lvA op x (n + 1) y = true := by
  intro n
  induction n generalizing y with
  | zero =>
    intro q
    rw [lv_0] at q
    rw [q.1]
    exact lv_s.mpr (Or.inr ⟨q.2, x, hx, nbr_sym hn, lv_0.mpr ⟨rfl, ho⟩⟩)
  | succ n ih =>
    intro q
    rcases lv_s.mp q with z | ⟨z1, k, z2, z3, z4⟩
    · exact lv_s.mpr (Or.inl (ih z))
    · exact lv_s.mpr (Or.inr ⟨z1, k, z2, z3, ih z4⟩)
theorem lv_symm {op : Nat → Bool} {x : Nat} (hx : x < 64) : ∀ n y, y < 64 → lvA op x n y = true → lvA op y n x = true := by
  intro n
  induction n with
  | zero =>
    intro y hy q
    rw [lv_0] at q
    rw [q.1]
    exact lv_0.mpr ⟨rfl, q.2⟩
  | succ n ih =>
    intro y hy q
    rcases lv_s.mp q with z | ⟨z1, k, z2, z3, z4⟩
    · exact lv_s.mpr (Or.inl (ih y hy z))
    · exact lv_front hy z3 z1 n (ih k z2 z4)
theorem lv_sym {op : Nat → Bool} {x y n : Nat} (hx : x < 64) (hy : y < 64) : lvA op x n y = lvA op y n x := by
  cases h1 : lvA op x n y with
  | true => exact (lv_symm hx n y hy h1).symm
  | false => cases h2 : lvA op y n x with
    | true => rw [lv_symm hy n x hx h2] at h1; cases h1
    | false => rfl
theorem lv_stab {op : Nat → Bool} {x n : Nat} (h : ∀ y, y < 64 → lvA op x (n + 1) y = lvA op x n y) : ∀ m y, y < 64 → lvA op x (n + m) y = lvA op x n y := by
  intro m
  induction m with
  | zero => intro y _; rfl
  | succ m ih =>
    intro y hy
    have e : lvA op x (n + (m + 1)) y = (lvA op x (n + m) y || (op y && anyN (fun j => decide (nbr y j) && lvA op x (n + m) j) 64)) := rfl
    rw [e, ih y hy, anyN_cong (q := fun j => decide (nbr y j) && lvA op x n j) (fun j hj => by rw [ih j hj])]
    exact h y hy
theorem smF_mono {f g : Nat → Nat} {n : Nat} (h : ∀ i, i < n → f i ≤ g i) : smF f n ≤ smF g n := by
  induction n with
  | zero => exact Nat.le_refl _
  | succ n ih => have := ih (fun i hi => h i (by omega)); have := h n (by omega); rw [smF_s, smF_s]; omega
theorem lv_cnt {op : Nat → Bool} {x : Nat} (hx : x < 64) (ho : op x = true) : ∀ n, (∃ k, k < n ∧ ∀ y, y < 64 → lvA op x (k + 1) y = lvA op x k y) ∨ n + 1 ≤ smF (fun y => (lvA op x n y).toNat) 64 := by
  intro n
  induction n with
  | zero =>
    right
    have := smF_upd (f := fun _ => 0) (a := x) (n := 64) hx rfl
    have z0 : smF (fun _ => 0) 64 = 0 := by decide
    rw [z0] at this
    have e : smF (fun y => (lvA op x 0 y).toNat) 64 = smF (fun i => if i = x then 1 else 0) 64 := smF_cong (fun i _ => by
      show (lvA op x 0 i).toNat = if i = x then 1 else 0
      rw [lvA, ho, Bool.and_true]
      by_cases z : i = x
      · rw [if_pos z, decide_eq_true z]; rfl
      · rw [if_neg z, decide_eq_false z]; rfl)
    rw [e, this]
    exact Nat.le_refl _
  | succ n ih =>
    rcases ih with ⟨k, hk, hs⟩ | ih
    · exact Or.inl ⟨k, by omega, hs⟩
    · cases hq : allN (fun y => lvA op x (n + 1) y == lvA op x n y) 64 with
      | true =>
        left
        exact ⟨n, by omega, fun y hy => eq_of_beq ((allN_iff _ _).mp hq y hy)⟩
      | false =>
        right
        have ex : ∃ y, y < 64 ∧ lvA op x n y = false ∧ lvA op x (n + 1) y = true := by
          refine Classical.byContradiction (fun hne => ?_)
          have : allN (fun y => lvA op x (n + 1) y == lvA op x n y) 64 = true := (allN_iff _ _).mpr (fun y hy => by
            cases h1 : lvA op x n y with
            | true => rw [lv_s.mpr (Or.inl h1)]; rfl
            | false => cases h2 : lvA op x (n + 1) y with
              | false => rfl
              | true => exact absurd ⟨y, hy, h1, h2⟩ hne)
          rw [this] at hq
          cases hq
        obtain ⟨y, hy, y1, y2⟩ := ex
        have u := smF_upd (f := fun y => (lvA op x n y).toNat) (a := y) (n := 64) hy (by show (lvA op x n y).toNat = 0; rw [y1]; rfl)
        have le : smF (fun i => if i = y then 1 else (lvA op x n i).toNat) 64 ≤ smF (fun i => (lvA op x (n + 1) i).toNat) 64 := smF_mono (fun i _ => by
          show (if i = y then 1 else (lvA op x n i).toNat) ≤ (lvA op x (n + 1) i).toNat
          by_cases z : i = y
          · rw [if_pos z, z, y2]; exact Nat.le_refl _
          · rw [if_neg z]
            cases h1 : lvA op x n i with
            | false => exact Nat.zero_le _
            | true => rw [lv_s.mpr (Or.inl h1)]; exact Nat.le_refl _)
        omega
/-- whatever is reached is reached in 64 -/
theorem lv_64 {op : Nat → Bool} {x n y : Nat} (hx : x < 64) (hy : y < 64) (h : lvA op x n y = true) : lvA op x 64 y = true := by
  have ho : op x = true := by
    have : ∀ n y, lvA op x n y = true → op x = true := by
      intro n
      induction n with
      | zero => intro y q; rw [lv_0] at q; exact q.2
      | succ n ih =>
        intro y q
        rcases lv_s.mp q with z | ⟨_, k, _, _, z4⟩
        · exact ih y z
        · exact ih k z4
    exact this n y h
  by_cases q : n ≤ 64
  · exact lv_mono q h
  · rcases lv_cnt hx ho 64 with ⟨k, hk, hs⟩ | z
    · have e1 := lv_stab hs (n - k) y hy
      have e2 := lv_stab hs (64 - k) y hy
      rw [show k + (n - k) = n by omega] at e1
      rw [show k + (64 - k) = 64 by omega] at e2
      rw [e2, ← e1]
      exact h
    · have := smF_le (f := fun y => (lvA op x 64 y).toNat) (n := 64) (fun i _ => by show (lvA op x 64 i).toNat ≤ 1; cases lvA op x 64 i <;> decide)
      omega
theorem lv_trans {op : Nat → Bool} {x y : Nat} (hx : x < 64) (hy : y < 64) (h : lvA op x 64 y = true) : ∀ n z, lvA op y n z = true → ∃ m, lvA op x m z = true := by
  intro n
  induction n with
  | zero =>
    intro z q
    rw [lv_0] at q
    rw [q.1]
    exact ⟨64, h⟩
  | succ n ih =>
    intro z q
    rcases lv_s.mp q with q | ⟨q1, k, q2, q3, q4⟩
    · exact ih z q
    · obtain ⟨m, hm⟩ := ih k q4
      exact ⟨m + 1, lv_s.mpr (Or.inr ⟨q1, k, q2, q3, hm⟩)⟩
theorem lv_tr {op : Nat → Bool} {x y z : Nat} (hx : x < 64) (hy : y < 64) (hz : z < 64) (h : lvA op x 64 y = true) (h2 : lvA op y 64 z = true) : lvA op x 64 z = true := by
  obtain ⟨m, hm⟩ := lv_trans hx hy h 64 z h2
  exact lv_64 hx hz hm
/-- cells not reached from an earlier one -/
def lfB (op : Nat → Bool) (i y : Nat) : Bool := op y && allN (fun j => !lvA op y 64 j) i
theorem lfB_s {op : Nat → Bool} {i y : Nat} : lfB op (i + 1) y = (lfB op i y && !lvA op y 64 i) := by
  unfold lfB
  rw [allN, Bool.and_assoc]
theorem lfB_cl {op : Nat → Bool} {i : Nat} (hi : i < 64) (h : lfB op i i = true) : ∀ n y, y < 64 → lvA (lfB op i) i n y = lvA op i n y := by
  have ho : op i = true := by unfold lfB at h; rw [Bool.and_eq_true] at h; exact h.1
  have cl : ∀ n y, y < 64 → lvA op i n y = true → lfB op i y = true := by
    intro n y hy q
    unfold lfB
    rw [Bool.and_eq_true, allN_iff]
    refine ⟨lv_op q, fun j hj => ?_⟩
    cases hz : lvA op y 64 j with
    | false => rfl
    | true =>
      have q64 := lv_64 hi hy q
      have t := lv_tr hi hy (show j < 64 by omega) q64 hz
      unfold lfB at h
      rw [Bool.and_eq_true, allN_iff] at h
      have := h.2 j hj
      rw [t] at this
      cases this
  intro n
  induction n with
  | zero => intro y hy; rw [lvA, lvA, h, ho]
  | succ n ih =>
    intro y hy
    rw [lvA, lvA, ih y hy]
    have e : anyN (fun j => decide (nbr y j) && lvA (lfB op i) i n j) 64 = anyN (fun j => decide (nbr y j) && lvA op i n j) 64 := anyN_cong (fun j hj => by rw [ih j hj])
    rw [e]
    cases h1 : anyN (fun j => decide (nbr y j) && lvA op i n j) 64 with
    | false => rw [Bool.and_false, Bool.and_false]
    | true =>
      rw [Bool.and_true, Bool.and_true]
      cases h2 : op y with
      | false =>
        have : lfB op i y = false := by unfold lfB; rw [h2]; rfl
        rw [this]
      | true =>
        obtain ⟨j, hj, q⟩ := (anyN_iff _ _).mp h1
        rw [Bool.and_eq_true, decide_eq_true_eq] at q
        have : lvA op i (n + 1) y = true := lv_s.mpr (Or.inr ⟨h2, j, hj, q.1, q.2⟩)
        rw [cl (n + 1) y hy this]
def pcA (op : Nat → Bool) : Nat → Nat := lpf (fun i x => if lfB op i i = true then x + 1 else x) 0
theorem pcA_le {op : Nat → Bool} : ∀ i, pcA op i ≤ i := by
  intro i
  induction i with
  | zero => exact Nat.le_refl _
  | succ i ih =>
    have e : pcA op (i + 1) = if lfB op i i = true then pcA op i + 1 else pcA op i := rfl
    rw [e]
    split <;> omega
theorem A_clearings {d Ln c s : Nat} {I0 I : Nat → Nat → Int32} {L : Nat → Nat → Int64} {w : Nat → Nat} {im : Option (Nat → Nat)} {na od : Nat} {A : Nat → Nat → Nat} {tp : Nat → Nat} {tl : Nat} {fa : Option Nat} (hd : 60 ≤ d) (h : INV I0 w im na od A tp tl fa I L) : PIw d m_X10_clearings [.ref 0] m_X11_clearings [.ref 148] I0 Ln c s I L := by
  have hO := h.1.1
  have hC := h.2.2.1
  refine PIw.q h (nI (pcA (opn w) 64)) ?_ ?_
  · intro K g
    refine w_X10_clearings_0 (by omega) ?_
    refine w_X7_pieces_0 (by omega) ?_
    have ho : ∀ i, i < 64 → bL (L 1 0 ^^^ Int64.ofNat 18446744073709551615) i = lfB (opn w) 0 i := by
      intro i hi
      rw [bL_not _ hi, hC.tree hi]
      unfold lfB opn
      rw [decide_eq_true hi, allN, Bool.and_true, Bool.true_and]
    generalize (L 1 0 ^^^ Int64.ofNat 18446744073709551615) = o at *
    have key : ∀ a, (∀ y, y < 64 → bL a y = lfB (opn w) 0 y) → dd_Rn (d - 1) m_X7_pieces (17, [.ref 139, .long a, .null, .int (nI (pcA (opn w) 0)), .int (nI 0)], [], sM Ln I L c s) (dd_RI Ln c s (fun x1 I1 L1 => dd_RI Ln c s K (none, .int x1, sM Ln I1 L1 c s))) := by
      refine dd_lp (fun i => ∀ a, (∀ y, y < 64 → bL a y = lfB (opn w) i y) → dd_Rn (d - 1) m_X7_pieces (17, [.ref 139, .long a, .null, .int (nI (pcA (opn w) i)), .int (nI i)], [], sM Ln I L c s) (dd_RI Ln c s (fun x1 I1 L1 => dd_RI Ln c s K (none, .int x1, sM Ln I1 L1 c s)))) 64 ?_ ?_
      · intro a ha
        refine w_X7_pieces_17 (by omega) ?_
        rw [li_64, nI_leI (by omega) (by omega)]
        exact ⟨fun _ => dd_qi (dd_qi (g I L (FC.refl I L))), fun z => absurd (Nat.le_refl _) z⟩
      · intro i hi ih a ha
        have es : pcA (opn w) (i + 1) = if lfB (opn w) i i = true then pcA (opn w) i + 1 else pcA (opn w) i := rfl
        rw [es] at ih
        refine w_X7_pieces_17 (by omega) ?_
        rw [li_64, nI_leI (by omega) (by omega), L_bit hi, ha i hi]
        simp only [nI_1]
        refine ⟨fun z => absurd z (by omega), fun _ => ⟨fun z => ?_, fun z => ?_⟩⟩
        · rw [if_neg (by rw [z]; decide)] at ih
          refine ih a (fun y hy => ?_)
          rw [ha y hy, lfB_s]
          cases h1 : lfB (opn w) i y with
          | false => rfl
          | true =>
            cases h2 : lvA (opn w) y 64 i with
            | false => rfl
            | true =>
              exfalso
              unfold lfB at h1 z
              rw [Bool.and_eq_true, allN_iff] at h1
              rw [lv_op h2, Bool.true_and] at z
              have : allN (fun j => !lvA (opn w) i 64 j) i = true := (allN_iff _ _).mpr (fun j hj => by
                have := h1.2 j hj
                cases h3 : lvA (opn w) i 64 j with
                | false => rfl
                | true => rw [lv_tr hy hi (show j < 64 by omega) h2 h3] at this; cases this)
              rw [this] at z
              cases z
        · have zt : lfB (opn w) i i = true := by
            cases hz : lfB (opn w) i i with
            | true => rfl
            | false => exact absurd hz z
          rw [if_pos zt] at ih
          refine C_reached (op := lfB (opn w) i) (by omega) hi ha fun v hv => ?_
          refine ih _ (fun y hy => ?_)
          rw [bL_and, bL_not _ hy, ha y hy, hv y hy, lfB_cl hi zt 64 y hy, lfB_s, lv_sym hi hy]
    exact key o ho
  · intro I1 L1 h1 K g
    have hR := h1.2.1
    refine w_X11_clearings_0 (by omega) ?_
    have fj := FM.th I1 0
    have t0 := thr0 (I := I1) (v := 0)
    have hR1 : RM w (dd_u I1 148 (upd (I1 148) 0 0)) := hR.of (dd_un (by decide))
    generalize dd_u I1 148 (upd (I1 148) 0 0) = J at *
    have key : ∀ I' a3 a4, RM w I' → FL J I' → dd_Rn d m_X11_clearings (9, [.ref 148, .int (nI (pcA (opn w) 0)), .int (nI 0), a3, a4], [], sM Ln I' L1 c s) (dd_RI Ln c s K) := by
      refine dd_lp (fun i => ∀ I' a3 a4, RM w I' → FL J I' → dd_Rn d m_X11_clearings (9, [.ref 148, .int (nI (pcA (opn w) i)), .int (nI i), a3, a4], [], sM Ln I' L1 c s) (dd_RI Ln c s K)) 64 ?_ ?_
      · intro I' a3 a4 r f
        refine w_X11_clearings_9 (by omega) ?_
        rw [li_64, nI_leI (by omega) (by omega)]
        exact ⟨fun _ => mqJ r (fj.trans (FM.fr f (by decide) (by decide))) (by rw [f.2 0 (by decide)]; exact t0) rfl g, fun z => absurd (Nat.le_refl _) z⟩
      · intro i hi ih I' a3 a4 r f
        have es : pcA (opn w) (i + 1) = if lfB (opn w) i i = true then pcA (opn w) i + 1 else pcA (opn w) i := rfl
        rw [es] at ih
        refine w_X11_clearings_9 (by omega) ?_
        rw [li_64, nI_leI (by omega) (by omega)]
        refine ⟨fun z => absurd z (by omega), fun _ => ?_⟩
        refine M_look (w := w) (by omega) r hO hi fun I2 len q r2 f2 m1 l64 ml mq mv => ?_
        have f12 := f.trans f2
        have run : ∀ t : Bool, (t = true ↔ 0 < len ∧ ∀ k, k < 0 → i ≤ q k) → dd_Rn d m_X11_clearings (36, [.ref 148, .int (nI (pcA (opn w) i)), .int (nI i), .int (bI t), .int (nI 0)], [], sM Ln I2 L1 c s) (dd_RI Ln c s K) := by
          refine dd_lp (fun n => ∀ t : Bool, (t = true ↔ 0 < len ∧ ∀ k, k < n → i ≤ q k) → dd_Rn d m_X11_clearings (36, [.ref 148, .int (nI (pcA (opn w) i)), .int (nI i), .int (bI t), .int (nI n)], [], sM Ln I2 L1 c s) (dd_RI Ln c s K)) len ?_ ?_
          · intro t ht
            refine w_X11_clearings_36 (by omega) ?_
            rw [ml, nI_leI (by omega) (by omega), bI_z]
            have et : lfB (opn w) i i = t := by
              cases hq : t with
              | true =>
                obtain ⟨l0, lq⟩ := ht.mp hq
                obtain ⟨n, hn⟩ := (mv (q 0) (mq 0 l0).2).mpr ⟨0, l0, rfl⟩
                have oi : opn w i = true := lv_op (lv_symm hi n _ (mq 0 l0).2 hn)
                unfold lfB
                rw [oi, Bool.true_and, allN_iff]
                intro j hj
                cases h3 : lvA (opn w) i 64 j with
                | false => rfl
                | true =>
                  obtain ⟨k, hk, ek⟩ := (mv j (by omega)).mp ⟨64, h3⟩
                  have := lq k hk
                  omega
              | false =>
                cases hz : lfB (opn w) i i with
                | false => rfl
                | true =>
                  exfalso
                  unfold lfB at hz
                  rw [Bool.and_eq_true, allN_iff] at hz
                  obtain ⟨k0, hk0, _⟩ := (mv i hi).mp ⟨0, lv_0.mpr ⟨rfl, hz.1⟩⟩
                  have : t = true := ht.mpr ⟨by omega, fun k hk => by
                    obtain ⟨n, hn⟩ := (mv (q k) (mq k hk).2).mpr ⟨k, hk, rfl⟩
                    refine Nat.le_of_not_lt (fun lt => ?_)
                    have := hz.2 (q k) lt
                    rw [lv_64 hi (mq k hk).2 hn] at this
                    cases this⟩
                  rw [hq] at this
                  cases this
            simp only [nI_1]
            have z0 : nI (pcA (opn w) i) + 0 = nI (pcA (opn w) i) := Int32.add_zero _
            rw [z0]
            rw [et] at ih
            refine ⟨fun _ => ⟨fun z => ?_, fun z => ?_⟩, fun z => absurd (Nat.le_refl _) z⟩
            · rw [if_neg (by rw [z]; decide)] at ih
              exact ih I2 _ _ r2 f12
            · rw [if_pos (by cases t with
                | true => rfl
                | false => exact absurd rfl z)] at ih
              exact ih I2 _ _ r2 f12
          · intro n hn ihn t ht
            have tn' : tn (nI n) = n := nI_clamp (by omega)
            obtain ⟨q1, q2⟩ := mq n hn
            refine w_X11_clearings_36 (by omega) ?_
            rw [ml, nI_leI (by omega) (by omega), bI_z, tn', q1, nI_ltI (by omega) (by omega)]
            simp only [nI_1]
            refine ⟨fun z => absurd z (by omega), fun _ => ⟨fun z => ?_, fun z => ⟨⟨nI_pos' (by omega), by omega⟩, fun z2 => ?_, fun z2 => ?_⟩⟩⟩
            · refine ihn false ⟨(fun y => by cases y), fun y => ?_⟩
              have : t = true := ht.mpr ⟨y.1, fun k hk => y.2 k (by omega)⟩
              rw [z] at this
              cases this
            · refine ihn false ⟨(fun y => by cases y), fun y => ?_⟩
              have := y.2 n (by omega)
              omega
            · have zt : t = true := by
                cases hz : t with
                | true => rfl
                | false => exact absurd hz z
              have hp := ht.mp zt
              refine ihn true ⟨fun _ => ⟨hp.1, fun k hk => ?_⟩, fun _ => rfl⟩
              by_cases e : k = n
              · subst e; omega
              · exact hp.2 k (by omega)
        rw [ml, li_0, nI_leI (by omega) (by omega)]
        refine ⟨fun z => ?_, fun z => ?_⟩
        · exact run false ⟨(fun y => by cases y), fun y => absurd y.1 (by omega)⟩
        · exact run true ⟨fun _ => ⟨by omega, fun k hk => absurd hk (Nat.not_lt_zero k)⟩, fun _ => rfl⟩
    exact key J _ _ hR1 (FR.refl J)
