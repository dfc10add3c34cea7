/-! Ways: neighbours, levels -/
abbrev nbr (i j : Nat) : Prop := j = i + 8 ∨ i = j + 8 ∨ (j = i + 1 ∧ j % 8 ≠ 0) ∨ (i = j + 1 ∧ i % 8 ≠ 0)
theorem nbr_sym {i j : Nat} (h : nbr i j) : nbr j i := by unfold nbr at *; omega
def lvA (op : Nat → Bool) (x : Nat) : Nat → Nat → Bool
  | 0, y => decide (y = x) && op x
  | n + 1, y => lvA op x n y || (op y && anyN (fun j => decide (nbr y j) && lvA op x n j) 64)
theorem lv_0 {op : Nat → Bool} {x y : Nat} : lvA op x 0 y = true ↔ y = x ∧ op x = true := by
  rw [lvA, Bool.and_eq_true, decide_eq_true_eq]
theorem lv_s {op : Nat → Bool} {x n y : Nat} : lvA op x (n + 1) y = true ↔ lvA op x n y = true ∨ (op y = true ∧ ∃ j, j < 64 ∧ nbr y j ∧ lvA op x n j = true) := by
  rw [lvA, Bool.or_eq_true, Bool.and_eq_true, anyN_iff]
  constructor
  · rintro (q | ⟨q1, j, q2, q3⟩)
    · exact Or.inl q
    · rw [Bool.and_eq_true, decide_eq_true_eq] at q3
      exact Or.inr ⟨q1, j, q2, q3.1, q3.2⟩
  · rintro (q | ⟨q1, j, q2, q3, q4⟩)
    · exact Or.inl q
    · exact Or.inr ⟨q1, j, q2, by rw [Bool.and_eq_true, decide_eq_true_eq]; exact ⟨q3, q4⟩⟩
theorem lv_mono {op : Nat → Bool} {x y : Nat} : ∀ {m n : Nat}, n ≤ m → lvA op x n y = true → lvA op x m y = true := by
  intro m
  induction m with
  | zero => intro n h q; have : n = 0 := by omega
            subst this; exact q
  | succ m ih =>
    intro n h q
    by_cases e : n = m + 1
    · subst e; exact q
    · exact lv_s.mpr (Or.inl (ih (by omega) q))
theorem lv_op {op : Nat → Bool} {x y : Nat} : ∀ {n : Nat}, lvA op x n y = true → op y = true := by
  intro n
  induction n with
  | zero => intro q; rw [lv_0] at q; rw [q.1]; exact q.2
  | succ n ih =>
    intro q
    rcases lv_s.mp q with q | q
    · exact ih q
    · exact q.1
theorem lv_cong {op op' : Nat → Bool} {x : Nat} (hx : x < 64) (h : ∀ i, i < 64 → op i = op' i) : ∀ n y, y < 64 → lvA op x n y = lvA op' x n y := by
  intro n
  induction n with
  | zero => intro y _; rw [lvA, lvA, h x hx]
  | succ n ih =>
    intro y hy
    rw [lvA, lvA, ih y hy, h y hy]
    congr 2
    exact anyN_cong (fun j hj => by rw [ih j hj])
def besL (a0 : Int64) : Int64 := (((((a0.toUInt64 >>> ((8 : Int32).toInt64.toUInt64 &&& Int64.toUInt64 63)).toInt64) ||| (a0 <<< ((8 : Int32).toInt64 &&& 63))) ||| (((a0 &&& (Int64.ofNat 18374403900871474942)).toUInt64 >>> ((1 : Int32).toInt64.toUInt64 &&& Int64.toUInt64 63)).toInt64)) ||| ((a0 &&& (Int64.ofNat 9187201950435737471)) <<< ((1 : Int32).toInt64 &&& 63)))
theorem mkL : ∀ k, k < 64 → bL (Int64.ofNat 18374403900871474942) k = decide (k % 8 ≠ 0) := by decide +kernel
theorem mkR : ∀ k, k < 64 → bL (Int64.ofNat 9187201950435737471) k = decide (k % 8 ≠ 7) := by decide +kernel
theorem bes_b {a : Int64} {i : Nat} (hi : i < 64) : bL (besL a) i = true ↔ ∃ j, j < 64 ∧ nbr i j ∧ bL a j = true := by
  unfold besL
  rw [bL_or, bL_or, bL_or, li_8, li_1, bL_shr a (by omega), bL_shl a (by omega) hi, bL_shr _ (by omega), bL_shl _ (by omega) hi, bL_and, bL_and, Bool.or_eq_true, Bool.or_eq_true, Bool.or_eq_true, Bool.and_eq_true, Bool.and_eq_true, Bool.and_eq_true, Bool.and_eq_true, decide_eq_true_eq, decide_eq_true_eq]
  constructor
  · rintro (((q | q) | q) | q)
    · by_cases z : 8 + i < 64
      · exact ⟨8 + i, z, by unfold nbr; omega, q⟩
      · rw [bL_big (by omega)] at q; cases q
    · exact ⟨i - 8, by omega, by unfold nbr; omega, q.2⟩
    · by_cases z : 1 + i < 64
      · have := q.2
        rw [mkL _ z, decide_eq_true_eq] at this
        exact ⟨1 + i, z, by unfold nbr; omega, q.1⟩
      · rw [bL_big (by omega)] at q; cases q.1
    · have := q.2.2
      rw [mkR _ (by omega), decide_eq_true_eq] at this
      exact ⟨i - 1, by omega, by unfold nbr; omega, q.2.1⟩
  · rintro ⟨j, hj, nb, q⟩
    unfold nbr at nb
    rcases nb with z | z | ⟨z, z2⟩ | ⟨z, z2⟩
    · exact Or.inl (Or.inl (Or.inl (by rw [Nat.add_comm, ← z]; exact q)))
    · exact Or.inl (Or.inl (Or.inr ⟨by omega, by rw [show i - 8 = j by omega]; exact q⟩))
    · refine Or.inl (Or.inr ⟨by rw [Nat.add_comm, ← z]; exact q, ?_⟩)
      rw [mkL _ (by omega), decide_eq_true_eq]
      omega
    · refine Or.inr ⟨by omega, by rw [show i - 1 = j by omega]; exact q, ?_⟩
      rw [mkR _ (by omega), decide_eq_true_eq]
      omega
theorem C_beside {d Ln c s : Nat} {I : Nat → Nat → Int32} {L : Nat → Nat → Int64} {K : Int64 → (Nat → Nat → Int32) → (Nat → Nat → Int64) → Prop} {a : Int64} (hd : 28 ≤ d) (k : K (besL a) I L) : dd_Ev d m_X7_beside [.long a] (sM Ln I L c s) (dd_RL Ln c s K) := w_X7_beside_0 hd (dd_qL rfl k)
/-- one level on -/
theorem lv_on {op : Nat → Bool} {x n : Nat} {a o : Int64} (ho : ∀ i, i < 64 → bL o i = op i) (ha : ∀ i, i < 64 → bL a i = lvA op x n i) : ∀ i, i < 64 → bL (a ||| (besL a &&& o)) i = lvA op x (n + 1) i := by
  intro i hi
  have e : bL (a ||| (besL a &&& o)) i = true ↔ lvA op x (n + 1) i = true := by
    rw [bL_or, bL_and, Bool.or_eq_true, Bool.and_eq_true, ha i hi, ho i hi, bes_b hi, lv_s]
    constructor
    · rintro (q | ⟨⟨j, q1, q2, q3⟩, q4⟩)
      · exact Or.inl q
      · exact Or.inr ⟨q4, j, q1, q2, by rw [← ha j q1]; exact q3⟩
    · rintro (q | ⟨q4, j, q1, q2, q3⟩)
      · exact Or.inl q
      · exact Or.inr ⟨⟨j, q1, q2, by rw [ha j q1]; exact q3⟩, q4⟩
  cases h1 : bL (a ||| (besL a &&& o)) i with
  | true => exact (e.mp h1).symm
  | false => cases h2 : lvA op x (n + 1) i with
    | true => rw [e.mpr h2] at h1; cases h1
    | false => rfl
theorem lv_start {op : Nat → Bool} {x : Nat} {o : Int64} (hx : x < 64) (ho : ∀ i, i < 64 → bL o i = op i) : ∀ i, i < 64 → bL ((Int64.ofNat 1 <<< ((nI x).toInt64 &&& 63)) &&& o) i = lvA op x 0 i := by
  intro i hi
  rw [bL_and, bL_one hx hi, ho i hi, lvA]
  by_cases q : i = x
  · subst q; rfl
  · rw [decide_eq_false q]; rfl
theorem C_reached {d Ln c s : Nat} {I : Nat → Nat → Int32} {L : Nat → Nat → Int64} {K : Int64 → (Nat → Nat → Int32) → (Nat → Nat → Int64) → Prop} {op : Nat → Bool} {x : Nat} {o : Int64} (hd : 29 ≤ d) (hx : x < 64) (ho : ∀ i, i < 64 → bL o i = op i) (kk : ∀ v, (∀ i, i < 64 → bL v i = lvA op x 64 i) → K v I L) : dd_Ev d m_X7_reached [.int (nI x), .long o] (sM Ln I L c s) (dd_RL Ln c s K) := by
  refine w_X7_reached_0 (by omega) ?_
  have key : ∀ a, (∀ i, i < 64 → bL a i = lvA op x 0 i) → dd_Rn d m_X7_reached (9, [.int (nI x), .long o, .null, .long a, .null, .int (nI 0)], [], sM Ln I L c s) (dd_RL Ln c s K) := by
    refine dd_lp (fun n => ∀ a, (∀ i, i < 64 → bL a i = lvA op x n i) → dd_Rn d m_X7_reached (9, [.int (nI x), .long o, .null, .long a, .null, .int (nI n)], [], sM Ln I L c s) (dd_RL Ln c s K)) 64 ?_ ?_
    · intro a ha
      refine w_X7_reached_9 (by omega) ?_
      rw [li_64, nI_leI (by omega) (by omega)]
      exact ⟨fun _ => dd_qL rfl (kk a ha), fun z => absurd (Nat.le_refl _) z⟩
    · intro n hn ih a ha
      refine w_X7_reached_9 (by omega) ?_
      rw [li_64, nI_leI (by omega) (by omega)]
      refine ⟨fun z => absurd z (by omega), fun _ => C_beside (by omega) ?_⟩
      simp only [nI_1]
      exact ih _ (lv_on ho ha)
  exact key _ (lv_start hx ho)
theorem C_stepsB {d Ln c s : Nat} {I : Nat → Nat → Int32} {L : Nat → Nat → Int64} {K : Int32 → (Nat → Nat → Int32) → (Nat → Nat → Int64) → Prop} {w : Nat → Nat} {x y : Nat} (hd : 29 ≤ d) (hC : RC w I L) (hx : x < 64) (hy : y < 64) (kk : K (oI (frst (fun n => lvA (opn w) x n y) 64)) I L) : dd_Ev d m_X7_stepsBetween [.ref 139, .int (nI x), .int (nI y)] (sM Ln I L c s) (dd_RI Ln c s K) := by
  have ho : ∀ i, i < 64 → bL (L 1 0 ^^^ Int64.ofNat 18446744073709551615) i = opn w i := by
    intro i hi
    rw [bL_not _ hi, hC.tree hi]
    unfold opn
    rw [decide_eq_true hi, Bool.true_and]
  refine w_X7_stepsBetween_0 (by omega) ?_
  generalize (L 1 0 ^^^ Int64.ofNat 18446744073709551615) = o at *
  have key : ∀ a, (∀ i, i < 64 → bL a i = lvA (opn w) x 0 i) → (∀ m, m < 0 → lvA (opn w) x m y = false) → dd_Rn d m_X7_stepsBetween (22, [.ref 139, .int (nI x), .int (nI y), .long o, .null, .long a, .null, .int (nI 0)], [], sM Ln I L c s) (dd_RI Ln c s K) := by
    refine dd_lp (fun n => ∀ a, (∀ i, i < 64 → bL a i = lvA (opn w) x n i) → (∀ m, m < n → lvA (opn w) x m y = false) → dd_Rn d m_X7_stepsBetween (22, [.ref 139, .int (nI x), .int (nI y), .long o, .null, .long a, .null, .int (nI n)], [], sM Ln I L c s) (dd_RI Ln c s K)) 64 ?_ ?_
    · intro a ha hf
      refine w_X7_stepsBetween_22 (by omega) ?_
      rw [li_64, nI_leI (by omega) (by omega)]
      rw [frst_none hf] at kk
      exact ⟨fun _ => dd_qi kk, fun z => absurd (Nat.le_refl _) z⟩
    · intro n hn ih a ha hf
      refine w_X7_stepsBetween_22 (by omega) ?_
      rw [li_64, nI_leI (by omega) (by omega), L_bit hy, ha y hy]
      refine ⟨fun z => absurd z (by omega), fun _ => ⟨fun z => C_beside (by omega) ?_, fun z => ?_⟩⟩
      · simp only [nI_1]
        refine ih _ (lv_on ho ha) (fun m hm => ?_)
        by_cases q : m = n
        · subst q; exact z
        · exact hf m (by omega)
      · have zt : lvA (opn w) x n y = true := by
          cases hz : lvA (opn w) x n y with
          | true => rfl
          | false => exact absurd hz z
        rw [frst_some (p := fun n => lvA (opn w) x n y) zt hf hn] at kk
        exact dd_qi kk
  exact key _ (lv_start hx ho) (fun m hm => absurd hm (Nat.not_lt_zero m))
