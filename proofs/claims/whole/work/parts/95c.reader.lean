/-! The class's reader: what is taken -/
theorem C_takeWord {d Ln c s : Nat} {I : Nat → Nat → Int32} {L : Nat → Nat → Int64} {K : Int32 → (Nat → Nat → Int32) → (Nat → Nat → Int64) → Prop} {tp : Nat → Nat} {tl k p w : Nat} (hd : 32 ≤ d) (hk : k = 130 ∨ k = 131) (hw : w < 71) (hS : STR I) (hl : tl ≤ 400) (hp : p ≤ tl) (ht : TK tp tl k I p) (hx : TXc tp I) (h6 : ∀ j, tp j < 256) (kf : isW tp tl (sk tp tl p) w = false → ∀ I', I' k 5 = nI (sk tp tl p) → FR k [] [2, 3, 4, 5] I I' → K 0 I' L) (kt : isW tp tl (sk tp tl p) w = true → ∀ I', TK tp tl k I' (ek tp tl (sk tp tl p)) → FR k [] [2, 3, 4] I I' → K 1 I' L) : dd_Ev d m_X4_takeWord [.ref k, .ref (1000000 + w)] (sM Ln I L c s) (dd_RI Ln c s K) := by
  have hb := ek_tl tp tl _ (sk_tl (tp := tp) hp)
  refine w_X4_takeWord_0 (by omega) hk hw ?_
  refine C_isWord (tp := tp) (by omega) hk hw hS hl hp ht hx h6 ?_
  rw [bI_z]
  cases q : isW tp tl (sk tp tl p) w with
  | false =>
    refine ⟨fun _ => ?_, fun z => absurd rfl z⟩
    refine C_refuse (by omega) hk ht.2.2.1 fun I' h5 f _ => ?_
    exact ⟨Or.inl rfl, dd_qi (kf q I' h5 f)⟩
  | true =>
    refine ⟨fun z => (by cases z), fun _ => ?_⟩
    exact C_advance (tp := tp) (by omega) hk hl hb ht.1 ht.2.2.2 hx h6 fun I' h5 f => dd_qi (kt q I' h5 f)
theorem C_takeSign {d Ln c s : Nat} {I : Nat → Nat → Int32} {L : Nat → Nat → Int64} {K : Int32 → (Nat → Nat → Int32) → (Nat → Nat → Int64) → Prop} {tp : Nat → Nat} {tl k p v : Nat} (hd : 32 ≤ d) (hk : k = 130 ∨ k = 131) (hv : sgn v) (hl : tl ≤ 400) (hp : p ≤ tl) (ht : TK tp tl k I p) (hx : TXc tp I) (h6 : ∀ j, tp j < 256) (kf : isS tp tl (sk tp tl p) v = false → ∀ I', I' k 5 = nI (sk tp tl p) → FR k [] [2, 3, 4, 5] I I' → K 0 I' L) (kt : isS tp tl (sk tp tl p) v = true → ∀ I', TK tp tl k I' (ek tp tl (sk tp tl p)) → FR k [] [2, 3, 4] I I' → K 1 I' L) : dd_Ev d m_X4_takeSign [.ref k, .int (nI v)] (sM Ln I L c s) (dd_RI Ln c s K) := by
  have hb := ek_tl tp tl _ (sk_tl (tp := tp) hp)
  refine w_X4_takeSign_0 (by omega) hk ?_
  refine C_isSign (tp := tp) (by omega) hk hv hl hp ht hx h6 ?_
  rw [bI_z]
  cases q : isS tp tl (sk tp tl p) v with
  | false =>
    refine ⟨fun _ => ?_, fun z => absurd rfl z⟩
    refine C_refuse (by omega) hk ht.2.2.1 fun I' h5 f _ => ?_
    exact ⟨Or.inl rfl, dd_qi (kf q I' h5 f)⟩
  | true =>
    refine ⟨fun z => (by cases z), fun _ => ?_⟩
    exact C_advance (tp := tp) (by omega) hk hl hb ht.1 ht.2.2.2 hx h6 fun I' h5 f => dd_qi (kt q I' h5 f)
/-- numbers -/
def nuV (tp : Nat → Nat) (b : Nat) : Nat → Nat := lpf (fun i a => 10 * a + (tp (b + i) - 48)) 0
def numA (tp : Nat → Nat) (tl b m : Nat) : Option Nat := if de tp tl b - b = 0 ∨ 3 < de tp tl b - b ∨ m ≤ nuV tp b (de tp tl b - b) then none else some (nuV tp b (de tp tl b - b))
theorem nuV_s (tp : Nat → Nat) (b n : Nat) : nuV tp b (n + 1) = 10 * nuV tp b n + (tp (b + n) - 48) := rfl
theorem nuV_lt {tp : Nat → Nat} {b : Nat} : ∀ n, (∀ i, i < n → isD tp (b + i) = true) → nuV tp b n < 10 ^ n := by
  intro n
  induction n with
  | zero => intro _; exact Nat.one_pos
  | succ n ih =>
    intro h
    have := ih (fun i hi => h i (by omega))
    have := isD_iff.mp (h n (by omega))
    rw [nuV_s, Nat.pow_succ]
    omega
theorem de_all {tp : Nat → Nat} {tl b : Nat} : ∀ i, i < de tp tl b - b → isD tp (b + i) = true := fun i hi => rn_all (p := isD tp) (tl := tl) b _ (by omega) (by unfold de at hi; omega)
theorem nuV_le {tp : Nat → Nat} {tl b j : Nat} (hj : j ≤ de tp tl b - b) (h3 : j ≤ 3) : nuV tp b j < 1000 := by
  have h := nuV_lt (tp := tp) (b := b) j (fun i hi => de_all (tp := tp) (tl := tl) (b := b) i (by omega))
  have : (10 : Nat) ^ j ≤ 10 ^ 3 := Nat.pow_le_pow_right (by decide) h3
  omega
theorem numA_s {tp : Nat → Nat} {tl b m v : Nat} (h : numA tp tl b m = some v) : v < m ∧ v < 1000 ∧ kd tp tl b = 2 ∧ ek tp tl b = de tp tl b := by
  unfold numA at h
  split at h
  · cases h
  · rename_i z
    cases h
    have k2 : kd tp tl b = 2 := by
      by_cases q : b < tl ∧ isD tp b = true
      · exact kd_2 q.1 q.2
      · have : de tp tl b = b := rn_n q
        omega
    refine ⟨by omega, nuV_le (tl := tl) (Nat.le_refl _) (by omega), k2, ?_⟩
    unfold ek
    rw [k2]
    rfl
theorem nm_toInt {m : Nat} (hm : m ≤ 1000) : (nI m - 1).toInt = (m : Int) - 1 := by
  rw [li_1, pk_sub_toInt (by omega) (by omega)]
  rfl
theorem nm_lt {m v : Nat} (hm : m ≤ 1000) (hv : v < 1000) : (nI m - 1 < nI v) ↔ m ≤ v := by
  rw [Int32.lt_iff_toInt_lt, nm_toInt hm, nI_toInt (by omega)]
  omega
theorem nm_le {m v : Nat} (hm : m ≤ 1000) (hv : v < 1000) : (nI v ≤ nI m - 1) ↔ v < m := by
  rw [Int32.le_iff_toInt_le, nm_toInt hm, nI_toInt (by omega)]
  omega
theorem kd2 {tp : Nat → Nat} {tl b : Nat} : kd tp tl b = 2 ↔ ¬ de tp tl b - b = 0 := by
  constructor
  · intro k2 z
    rcases kd_c tp tl b with ⟨_, e⟩ | ⟨_, _, e⟩ | ⟨x, y, e⟩ | ⟨_, _, _, e⟩ <;> try omega
    have h1 : de tp tl b = de tp tl (b + 1) := rn_y x y
    have h2 := rn_le (p := isD tp) (tl := tl) (b + 1)
    unfold de at *
    omega
  · intro z
    by_cases q : b < tl ∧ isD tp b = true
    · exact kd_2 q.1 q.2
    · have : de tp tl b = b := rn_n q
      omega
theorem C_numberUpTo {d Ln c s : Nat} {I : Nat → Nat → Int32} {L : Nat → Nat → Int64} {K : Int32 → (Nat → Nat → Int32) → (Nat → Nat → Int64) → Prop} {tp : Nat → Nat} {tl k p m : Nat} {a1 : Int32} (hd : 29 ≤ d) (hk : k = 130 ∨ k = 131) (hm : m ≤ 1000) (ha : a1 = nI m - 1) (hl : tl ≤ 400) (hp : p ≤ tl) (ht : TK tp tl k I p) (hx : TXc tp I) (h6 : ∀ j, tp j < 256) (kk : K (oI (numA tp tl (sk tp tl p) m)) I L) : dd_Ev d m_X4_numberUpTo [.ref k, .int a1] (sM Ln I L c s) (dd_RI Ln c s K) := by
  obtain ⟨t1, t2, t3, t4⟩ := ht
  subst ha
  have hb := sk_tl (tp := tp) hp
  generalize sk tp tl p = b at *
  have hlt := rn_tl (p := isD tp) (tl := tl) b hb
  have hle := rn_le (p := isD tp) (tl := tl) b
  have k4 := kd_lt tp tl b
  refine w_X4_numberUpTo_0 (by omega) hk ?_
  rw [t2, t3, t4, li_2, nI_eq (by omega) (by omega)]
  refine ⟨fun z => ?_, fun z => dd_qI ?_ kk⟩
  · have eE : ek tp tl b = de tp tl b := by unfold ek; rw [z]; rfl
    have nz := kd2.mp z
    have hd1 : de tp tl b ≤ tl := hlt
    have hd2 : b ≤ de tp tl b := hle
    rw [eE, pk_sub (by omega), li_3, nI_leI (by omega) (by omega)]
    refine ⟨fun y => ?_, fun y => dd_qI ?_ kk⟩
    · have key : dd_Rn d m_X4_numberUpTo (30, [.ref k, .int (nI m - 1), .int (nI (nuV tp b 0)), .int (nI (b + 0))], [], sM Ln I L c s) (dd_RI Ln c s K) := by
        refine dd_lp (fun j => dd_Rn d m_X4_numberUpTo (30, [.ref k, .int (nI m - 1), .int (nI (nuV tp b j)), .int (nI (b + j))], [], sM Ln I L c s) (dd_RI Ln c s K)) (de tp tl b - b) ?_ ?_
        · refine w_X4_numberUpTo_30 (by omega) hk ?_
          have hv : nuV tp b (de tp tl b - b) < 1000 := nuV_le (tl := tl) (Nat.le_refl _) y
          rw [t4, eE, nI_leI (by omega) (by omega), nm_lt hm hv]
          refine ⟨fun _ => ⟨fun u => dd_qI ?_ kk, fun u => dd_qI ?_ kk⟩, fun u => absurd (by omega) u⟩
          · unfold numA; rw [if_pos (Or.inr (Or.inr u))]; rfl
          · unfold numA; rw [if_neg (by omega)]; rfl
        · intro j hj ih
          refine w_X4_numberUpTo_30 (by omega) hk ?_
          have hv : nuV tp b j < 1000 := nuV_le (tl := tl) (by omega) (by omega)
          have dg := isD_iff.mp (de_all (tl := tl) j hj)
          have tj : tn (nI (b + j)) = b + j := nI_clamp (by omega)
          have ev : (10 : Int32) * nI (nuV tp b j) + nI (tp (b + j)) - 48 = nI (nuV tp b (j + 1)) := by
            rw [li_10, pk_mul, nI_add, li_48, pk_sub (by omega), nuV_s]
            congr 1
            omega
          rw [t4, eE, nI_leI (by omega) (by omega), tj, hx _ (by omega), ev, nI_1]
          exact ⟨fun u => absurd u (by omega), fun _ => ⟨⟨nI_pos' (by omega), by omega⟩, ih⟩⟩
      exact key
    · unfold numA; rw [if_pos (Or.inr (Or.inl (by omega)))]; rfl
  · have : de tp tl b - b = 0 := Classical.byContradiction fun y => z (kd2.mpr y)
    unfold numA; rw [if_pos (Or.inl this)]; rfl
theorem C_takeNumber {d Ln c s : Nat} {I : Nat → Nat → Int32} {L : Nat → Nat → Int64} {K : Int32 → (Nat → Nat → Int32) → (Nat → Nat → Int64) → Prop} {tp : Nat → Nat} {tl k p m : Nat} {a1 : Int32} (hd : 32 ≤ d) (hk : k = 130 ∨ k = 131) (hm : m ≤ 1000) (ha : a1 = nI m - 1) (hl : tl ≤ 400) (hp : p ≤ tl) (ht : TK tp tl k I p) (hx : TXc tp I) (h6 : ∀ j, tp j < 256) (kf : numA tp tl (sk tp tl p) m = none → ∀ I', I' k 5 = nI (sk tp tl p) → FR k [] [2, 3, 4, 5] I I' → K (-1) I' L) (kt : ∀ v, numA tp tl (sk tp tl p) m = some v → ∀ I', TK tp tl k I' (ek tp tl (sk tp tl p)) → FR k [] [2, 3, 4] I I' → K (nI v) I' L) : dd_Ev d m_X4_takeNumber [.ref k, .int a1] (sM Ln I L c s) (dd_RI Ln c s K) := by
  have hb := ek_tl tp tl _ (sk_tl (tp := tp) hp)
  refine w_X4_takeNumber_0 (by omega) hk ?_
  refine C_numberUpTo (tp := tp) (by omega) hk hm ha hl hp ht hx h6 ?_
  rw [oI_nm (fun n hn => by have := numA_s hn; omega)]
  cases q : numA tp tl (sk tp tl p) m with
  | none =>
    refine ⟨fun _ => ?_, fun z => absurd rfl z⟩
    exact C_refuse (by omega) hk ht.2.2.1 fun I' h5 f _ => dd_qi (kf q I' h5 f)
  | some v =>
    refine ⟨fun z => (by cases z), fun _ => ?_⟩
    exact C_advance (tp := tp) (by omega) hk hl hb ht.1 ht.2.2.2 hx h6 fun I' h5 f => dd_qi (kt v q I' h5 f)
/-! The model's reader -/
theorem w_X11_blanks_h {Ln d c s : Nat} {I : Nat → Nat → Int32} {L : Nat → Nat → Int64} {Q : dd_O → Prop} (hd : 28 ≤ d) (h : dd_Ev (d - 1) m_X11_isAt [.ref 148, .int 32, .int 32] (sM Ln I L c s) (dd_RI Ln c s (fun x1 I1 L1 => ((x1 = 0 → Q (none, .null, sM Ln (dd_u I1 148 (upd (I1 148) 12 (I1 148 10))) L1 c s)) ∧ (¬ (x1 = 0) → dd_Rn d m_X11_blanks (0, [.ref 148], [], sM Ln (dd_u I1 148 (upd (I1 148) 10 ((I1 148 10) + 1))) L1 c s) Q))))) : dd_Rn d m_X11_blanks (0, [.ref 148], [], sM Ln I L c s) Q := by
  obtain ⟨e, rfl⟩ : ∃ e, d = e + 16 := ⟨d - 16, by omega⟩
  refine dd_Rn.cI 3 (pc := 5) (ls := [.ref 148]) (st := [.int 32, .int 32, .ref 148]) (x := m_X11_isAt) (as := [.ref 148, .int 32, .int 32]) (rest := []) rfl rfl rfl rfl h ?_
  intro x1 I1 L1 h
  show dd_Rn (e + 16) m_X11_blanks (8, [.ref 148], [.int x1], sM Ln I1 L1 c s) _
  refine dd_Rn.ite 0 (c := x1 = 0) (A := (24, [.ref 148], [], sM Ln I1 L1 c s)) (B := (11, [.ref 148], [], sM Ln I1 L1 c s)) rfl (fun hc => ?_) (fun hc => ?_) (by omega)
  · have h := h.1 hc
    exact dd_Rn.retK 4 (pc := 32) (ls := [.ref 148]) (st := []) (M := sM Ln (dd_u I1 148 (upd (I1 148) 12 (I1 148 10))) L1 c s) (o := (none, .null, sM Ln (dd_u I1 148 (upd (I1 148) 12 (I1 148 10))) L1 c s)) rfl rfl h (by omega)
  · have h := h.2 hc
    exact dd_Rn.go 7 (cf' := (0, [.ref 148], [], sM Ln (dd_u I1 148 (upd (I1 148) 10 ((I1 148 10) + 1))) L1 c s)) rfl h (by omega)

abbrev TXm (tp : Nat → Nat) (I : Nat → Nat → Int32) : Prop := ∀ j, j < 400 → I 154 j = byt (tp j)
def isR (tp : Nat → Nat) (lo hi q : Nat) : Bool := decide (lo ≤ tp q) && decide (tp q ≤ hi)
theorem byt_lt {n v : Nat} (hn : n < 256) (h1 : 1 ≤ v) (h2 : v < 128) : (byt n < nI v) ↔ (n < v ∨ 128 ≤ n) := by
  have h := byt_b n hn
  by_cases z : n < 128
  · rw [h.1 z, nI_ltI (by omega) (by omega)]; omega
  · have hneg := (h.2 (by omega)).1
    refine ⟨fun _ => Or.inr (by omega), fun _ => ?_⟩
    rw [Int32.lt_iff_toInt_lt] at hneg ⊢
    rw [nI_toInt (by omega)]
    have : (0 : Int32).toInt = 0 := rfl
    omega
theorem byt_gt {n v : Nat} (hn : n < 128) (h2 : v < 128) : (nI v < byt n) ↔ v < n := by
  rw [(byt_b n (by omega)).1 hn, nI_ltI (by omega) (by omega)]
theorem byt_eq {n : Nat} {x : Int32} (hn : n < 256) (h1 : 0 ≤ x) (h2 : x < 128) : (byt n = x) ↔ nI n = x := by
  have h := byt_b n hn
  by_cases z : n < 128
  · rw [h.1 z]
  · have hneg := (h.2 (by omega)).1
    constructor
    · intro e
      rw [e] at hneg
      rw [Int32.lt_iff_toInt_lt] at hneg
      rw [Int32.le_iff_toInt_le] at h1
      omega
    · intro e
      rw [← e, show (128 : Int32) = nI 128 from rfl, nI_ltI (by omega) (by omega)] at h2
      omega
theorem M_isAt {d Ln c s : Nat} {I : Nat → Nat → Int32} {L : Nat → Nat → Int64} {K : Int32 → (Nat → Nat → Int32) → (Nat → Nat → Int64) → Prop} {tp : Nat → Nat} {tl q lo hi : Nat} (hd : 28 ≤ d) (hl : tl ≤ 400) (hq : q ≤ 400) (h10 : I 148 10 = nI q) (h11 : I 148 11 = nI tl) (hx : TXm tp I) (h6 : ∀ j, tp j < 256) (h1 : 1 ≤ lo) (h2 : lo ≤ hi) (h3 : hi < 128) (kk : K (bI (decide (q < tl) && isR tp lo hi q)) I L) : dd_Ev d m_X11_isAt [.ref 148, .int (nI lo), .int (nI hi)] (sM Ln I L c s) (dd_RI Ln c s K) := by
  refine w_X11_isAt_0 (by omega) ?_
  have tq : tn (nI q) = q := nI_clamp (by omega)
  have b6 := h6 q
  rw [h10, h11, nI_leI (by omega) (by omega), tq]
  refine ⟨fun z => dd_qI (by rw [decide_eq_false (by omega), Bool.false_and]; rfl) kk, fun z => ?_⟩
  rw [hx q (by omega), byt_lt b6 h1 (by omega)]
  refine ⟨⟨nI_pos' (by omega), by omega⟩, fun y => dd_qI ?_ kk, fun y => ⟨⟨nI_pos' (by omega), by omega⟩, ?_⟩⟩
  · unfold isR
    have : (decide (lo ≤ tp q) && decide (tp q ≤ hi)) = false := by
      by_cases u : lo ≤ tp q
      · rw [decide_eq_false (show ¬ tp q ≤ hi by omega), Bool.and_false]
      · rw [decide_eq_false u, Bool.false_and]
    rw [this, Bool.and_false]; rfl
  · rw [byt_gt (by omega) h3]
    refine ⟨fun x => dd_qI ?_ kk, fun x => dd_qI ?_ kk⟩
    · unfold isR; rw [decide_eq_false (show ¬ tp q ≤ hi by omega), Bool.and_false, Bool.and_false]; rfl
    · unfold isR; rw [decide_eq_true (show q < tl by omega), decide_eq_true (show lo ≤ tp q by omega), decide_eq_true (show tp q ≤ hi by omega)]; rfl
theorem isR_B (tp : Nat → Nat) (q : Nat) : isR tp 32 32 q = isB tp q := by
  unfold isR isB
  by_cases z : tp q = 32
  · rw [z]; rfl
  · rw [decide_eq_false z]
    by_cases y : 32 ≤ tp q
    · rw [decide_eq_false (show ¬ tp q ≤ 32 by omega), Bool.and_false]
    · rw [decide_eq_false y, Bool.false_and]
theorem isR_S (tp : Nat → Nat) (tl q v : Nat) : (decide (q < tl) && isR tp v v q) = isS tp tl q v := by
  unfold isR isS
  congr 1
  by_cases z : tp q = v
  · rw [z, decide_eq_true (Nat.le_refl v), decide_eq_true rfl]; rfl
  · rw [decide_eq_false z]
    by_cases y : v ≤ tp q
    · rw [decide_eq_false (show ¬ tp q ≤ v by omega), Bool.and_false]
    · rw [decide_eq_false y, Bool.false_and]
theorem run_f {p : Nat → Bool} {tl q : Nat} (h : ¬ (q < tl ∧ p q = true)) : (decide (q < tl) && p q) = false := by
  cases e : p q with
  | false => rw [Bool.and_false]
  | true => rw [decide_eq_false (fun z => h ⟨z, e⟩), Bool.false_and]
theorem run_t {p : Nat → Bool} {tl q : Nat} (h : q < tl) (h2 : p q = true) : (decide (q < tl) && p q) = true := by rw [decide_eq_true h, h2]; rfl
theorem M_blanks {d Ln c s : Nat} {I : Nat → Nat → Int32} {L : Nat → Nat → Int64} {K : (Nat → Nat → Int32) → (Nat → Nat → Int64) → Prop} {tp : Nat → Nat} {tl p : Nat} (hd : 29 ≤ d) (hl : tl ≤ 400) (hp : p ≤ tl) (h10 : I 148 10 = nI p) (h11 : I 148 11 = nI tl) (hx : TXm tp I) (h6 : ∀ j, tp j < 256) (kk : ∀ I', I' 148 10 = nI (sk tp tl p) → I' 148 12 = nI (sk tp tl p) → FR 148 [] [10, 12] I I' → K I' L) : dd_Ev d m_X11_blanks [.ref 148] (sM Ln I L c s) (dd_RV Ln c s K) := by
  refine w_X11_blanks_0 (by omega) ?_
  have key : ∀ q, sk tp tl q = sk tp tl p → q ≤ tl → ∀ f, f 10 = nI q → (∀ j, j ≠ 10 → f j = I 148 j) → dd_Rn d m_X11_blanks (0, [.ref 148], [], sM Ln (dd_u I 148 f) L c s) (dd_RV Ln c s K) := by
    refine rn_ind (p := isB tp) (tl := tl) _ ?_ ?_
    · intro q hz e eb hq f f10 fo
      have eb' : sk tp tl p = q := by rw [← eb]; exact e
      refine w_X11_blanks_h (by omega) ?_
      refine M_isAt (tp := tp) (tl := tl) (q := q) (lo := 32) (hi := 32) (by omega) hl (by omega) (by rw [dd_us]; exact f10) (by rw [dd_us, fo 11 (by decide)]; exact h11) (fun j hj => by rw [dd_un (by decide)]; exact hx j hj) h6 (by omega) (by omega) (by omega) ?_
      rw [isR_B, run_f hz]
      refine ⟨fun _ => dd_qV (kk _ ?_ ?_ ?_), fun z => absurd rfl z⟩
      · rw [dd_us, pk_un (by decide), dd_us, f10, eb']
      · rw [dd_us, pk_us, dd_us, f10, eb']
      · refine ⟨fun k _ z => by rw [dd_un z, dd_un z], fun j hj => ?_⟩
        simp only [List.mem_cons, List.not_mem_nil, or_false, not_or] at hj
        rw [dd_us, pk_un hj.2, dd_us, fo j hj.1]
    · intro q hq hpq e ih eb hq' f f10 fo
      refine w_X11_blanks_h (by omega) ?_
      refine M_isAt (tp := tp) (tl := tl) (q := q) (lo := 32) (hi := 32) (by omega) hl (by omega) (by rw [dd_us]; exact f10) (by rw [dd_us, fo 11 (by decide)]; exact h11) (fun j hj => by rw [dd_un (by decide)]; exact hx j hj) h6 (by omega) (by omega) (by omega) ?_
      rw [isR_B, run_t hq hpq]
      refine ⟨fun z => absurd z (by decide), fun _ => ?_⟩
      simp only [dd_us, dd_u_u]
      rw [f10, nI_1]
      exact ih (by rw [← eb]; exact e.symm) (by omega) _ (by rw [pk_us]) (fun j hj => by rw [pk_un hj]; exact fo j hj)
  have := key p rfl hp (I 148) h10 (fun _ _ => rfl)
  rw [dd_u_id] at this
  exact this
theorem M_letters {d Ln c s : Nat} {I : Nat → Nat → Int32} {L : Nat → Nat → Int64} {K : (Nat → Nat → Int32) → (Nat → Nat → Int64) → Prop} {tp : Nat → Nat} {tl p : Nat} (hd : 30 ≤ d) (hl : tl ≤ 400) (hp : p ≤ tl) (h10 : I 148 10 = nI p) (h11 : I 148 11 = nI tl) (hx : TXm tp I) (h6 : ∀ j, tp j < 256) (kk : ∀ I', I' 148 10 = nI (le tp tl (sk tp tl p)) → I' 148 12 = nI (sk tp tl p) → FR 148 [] [10, 12] I I' → K I' L) : dd_Ev d m_X11_letters [.ref 148] (sM Ln I L c s) (dd_RV Ln c s K) := by
  refine w_X11_letters_0 (by omega) ?_
  refine M_blanks (tp := tp) (by omega) hl hp h10 h11 hx h6 fun J j10 j12 fj => ?_
  have hb := sk_tl (tp := tp) hp
  generalize sk tp tl p = b at *
  have j11 : J 148 11 = nI tl := by rw [fj.2 11 (by decide)]; exact h11
  have jx : ∀ j, j < 400 → J 154 j = byt (tp j) := fun j hj => by rw [fj.1 154 (by decide) (by decide)]; exact hx j hj
  have key : ∀ q, le tp tl q = le tp tl b → q ≤ tl → ∀ f, f 10 = nI q → (∀ j, j ≠ 10 → f j = J 148 j) → dd_Rn d m_X11_letters (4, [.ref 148], [], sM Ln (dd_u J 148 f) L c s) (dd_RV Ln c s K) := by
    refine rn_ind (p := isL tp) (tl := tl) _ ?_ ?_
    · intro q hz e eb hq f f10 fo
      have eb' : le tp tl b = q := by rw [← eb]; exact e
      refine w_X11_letters_4 (by omega) ?_
      refine M_isAt (tp := tp) (tl := tl) (q := q) (lo := 97) (hi := 122) (by omega) hl (by omega) (by rw [dd_us]; exact f10) (by rw [dd_us, fo 11 (by decide)]; exact j11) (fun j hj => by rw [dd_un (by decide)]; exact jx j hj) h6 (by omega) (by omega) (by omega) ?_
      rw [show isR tp 97 122 q = isL tp q from rfl, run_f hz]
      refine ⟨fun _ => dd_qV (kk _ ?_ ?_ ?_), fun z => absurd rfl z⟩
      · rw [dd_us, f10, eb']
      · rw [dd_us, fo 12 (by decide), j12]
      · refine fj.trans ⟨fun k _ z => by rw [dd_un z], fun j hj => ?_⟩
        simp only [List.mem_cons, List.not_mem_nil, or_false, not_or] at hj
        rw [dd_us, fo j hj.1]
    · intro q hq hpq e ih eb hq' f f10 fo
      refine w_X11_letters_4 (by omega) ?_
      refine M_isAt (tp := tp) (tl := tl) (q := q) (lo := 97) (hi := 122) (by omega) hl (by omega) (by rw [dd_us]; exact f10) (by rw [dd_us, fo 11 (by decide)]; exact j11) (fun j hj => by rw [dd_un (by decide)]; exact jx j hj) h6 (by omega) (by omega) (by omega) ?_
      rw [show isR tp 97 122 q = isL tp q from rfl, run_t hq hpq]
      refine ⟨fun z => absurd z (by decide), fun _ => ?_⟩
      simp only [dd_us, dd_u_u]
      rw [f10, nI_1]
      exact ih (by rw [← eb]; exact e.symm) (by omega) _ (by rw [pk_us]) (fun j hj => by rw [pk_un hj]; exact fo j hj)
  have := key b rfl hb (J 148) j10 (fun _ _ => rfl)
  rw [dd_u_id] at this
  exact this
theorem M_isWord {d Ln c s : Nat} {I : Nat → Nat → Int32} {L : Nat → Nat → Int64} {K : Int32 → (Nat → Nat → Int32) → (Nat → Nat → Int64) → Prop} {tp : Nat → Nat} {tl b w : Nat} (hd : 29 ≤ d) (hw : w < 71) (hS : STR I) (hl : tl ≤ 400) (hb : b ≤ tl) (h10 : I 148 10 = nI (le tp tl b)) (h12 : I 148 12 = nI b) (hx : TXm tp I) (h6 : ∀ j, tp j < 256) (kk : K (bI (isW tp tl b w)) I L) : dd_Ev d m_X11_isWord [.ref 148, .ref (1000000 + w)] (sM Ln I L c s) (dd_RI Ln c s K) := by
  have l1 := wdL_1 w hw
  have l100 := wdL_l w hw
  have eL := wdL_len w hw
  have hlt : le tp tl b ≤ tl := rn_tl (p := isL tp) (tl := tl) b hb
  have hle : b ≤ le tp tl b := rn_le (p := isL tp) (tl := tl) b
  refine w_X11_isWord_0 (by omega) hw ?_
  refine J_len (by omega) hw (hS w hw).1 ?_
  rw [h10, h12, pk_sub (by omega), nI_eq (by omega) (by omega)]
  refine ⟨fun y => ?_, fun y => ?_⟩
  · have e1 : isW tp tl b w = allN (fun j => decide (nI (tp (b + j)) = (wdL w).getD j 0)) (wdL w).length := by
      unfold isW
      rw [decide_eq_true (by omega), Bool.true_and]
    rw [e1] at kk
    have key : allN (fun j => decide (nI (tp (b + j)) = (wdL w).getD j 0)) 0 = true → dd_Rn d m_X11_isWord (24, [.ref 148, .ref (1000000 + w), .int 1, .int (nI 0)], [], sM Ln I L c s) (dd_RI Ln c s K) := by
      refine dd_lp (fun j => allN (fun j => decide (nI (tp (b + j)) = (wdL w).getD j 0)) j = true → dd_Rn d m_X11_isWord (24, [.ref 148, .ref (1000000 + w), .int 1, .int (nI j)], [], sM Ln I L c s) (dd_RI Ln c s K)) (wdL w).length ?_ ?_
      · intro ha
        refine w_X11_isWord_24 (by omega) hw ⟨fun z => absurd z (by decide), fun _ => ?_⟩
        refine J_len (by omega) hw (hS w hw).1 ?_
        rw [eL, nI_leI (by omega) (by omega)]
        exact ⟨fun _ => ⟨Or.inr rfl, dd_qI (by rw [ha]; rfl) kk⟩, fun u => absurd (Nat.le_refl _) u⟩
      · intro j hj ih ha
        refine w_X11_isWord_24 (by omega) hw ⟨fun z => absurd z (by decide), fun _ => ?_⟩
        refine J_len (by omega) hw (hS w hw).1 ?_
        have tj : tn (nI (b + j)) = b + j := nI_clamp (by omega)
        rw [eL, nI_leI (by omega) (by omega), h12, nI_add, tj]
        refine ⟨fun u => absurd u (by omega), fun _ => ⟨⟨nI_pos' (by omega), by omega⟩, ?_⟩⟩
        refine J_char (by omega) hw (by omega) hS ?_
        have wb := wdL_b w hw j (by omega)
        rw [hx _ (by omega), nI_1, byt_eq (h6 _) wb.1.1 wb.1.2]
        refine ⟨fun u => ih ?_, fun u => ?_⟩
        · rw [allN, ha]; exact decide_eq_true u
        · refine w_X11_isWord_24 (by omega) hw ⟨fun _ => ⟨Or.inl rfl, dd_qI ?_ kk⟩, fun z => absurd rfl z⟩
          rw [allN_f hj (decide_eq_false u)]; rfl
    exact key rfl
  · refine w_X11_isWord_24 (by omega) hw ⟨fun _ => ⟨Or.inl rfl, dd_qI ?_ kk⟩, fun z => absurd rfl z⟩
    unfold isW
    rw [decide_eq_false (by omega), Bool.false_and]; rfl
theorem STR.f {I I' : Nat → Nat → Int32} {A B : List Nat} (h : STR I) (f : FR 148 A B I I') (hA : ∀ x, x ∈ A → x < 1000000) : STR I' := h.of fun k hk => f.1 k (fun q => by have := hA k q; omega) (by omega)
theorem TXm.f {tp : Nat → Nat} {I I' : Nat → Nat → Int32} {A B : List Nat} (h : TXm tp I) (f : FR 148 A B I I') (hA : 154 ∉ A) : TXm tp I' := fun j hj => by rw [f.1 154 hA (by decide)]; exact h j hj
theorem M_passes {d Ln c s : Nat} {I : Nat → Nat → Int32} {L : Nat → Nat → Int64} {K : Int32 → (Nat → Nat → Int32) → (Nat → Nat → Int64) → Prop} {tp : Nat → Nat} {tl p w : Nat} (hd : 31 ≤ d) (hw : w < 71) (hS : STR I) (hl : tl ≤ 400) (hp : p ≤ tl) (h10 : I 148 10 = nI p) (h11 : I 148 11 = nI tl) (hx : TXm tp I) (h6 : ∀ j, tp j < 256) (kf : isW tp tl (sk tp tl p) w = false → ∀ I', I' 148 10 = nI (sk tp tl p) → I' 148 12 = nI (sk tp tl p) → FR 148 [] [10, 12] I I' → K 0 I' L) (kt : isW tp tl (sk tp tl p) w = true → ∀ I', I' 148 10 = nI (ek tp tl (sk tp tl p)) → I' 148 12 = nI (sk tp tl p) → FR 148 [] [10, 12] I I' → K 1 I' L) : dd_Ev d m_X11_passes [.ref 148, .ref (1000000 + w)] (sM Ln I L c s) (dd_RI Ln c s K) := by
  refine w_X11_passes_0 (by omega) hw ?_
  refine M_letters (tp := tp) (by omega) hl hp h10 h11 hx h6 fun J j10 j12 fj => ?_
  refine M_isWord (tp := tp) (tl := tl) (b := sk tp tl p) (by omega) hw (hS.f fj (by simp)) hl (sk_tl hp) j10 j12 (hx.f fj (by decide)) h6 ?_
  rw [bI_z]
  cases q : isW tp tl (sk tp tl p) w with
  | false =>
    refine ⟨fun _ => dd_qi (kf q _ (by rw [dd_us, pk_us]; exact j12) (by rw [dd_us, pk_un (by decide)]; exact j12) (fj.v (by decide))), fun z => absurd rfl z⟩
  | true =>
    refine ⟨fun z => (by cases z), fun _ => dd_qi (kt q J (by rw [(isW_k hw q).2]; exact j10) j12 fj)⟩
theorem M_sign {d Ln c s : Nat} {I : Nat → Nat → Int32} {L : Nat → Nat → Int64} {K : Int32 → (Nat → Nat → Int32) → (Nat → Nat → Int64) → Prop} {tp : Nat → Nat} {tl p v : Nat} (hd : 31 ≤ d) (hv : sgn v) (hv1 : 1 ≤ v) (hl : tl ≤ 400) (hp : p ≤ tl) (h10 : I 148 10 = nI p) (h11 : I 148 11 = nI tl) (hx : TXm tp I) (h6 : ∀ j, tp j < 256) (kf : isS tp tl (sk tp tl p) v = false → ∀ I', I' 148 10 = nI (sk tp tl p) → I' 148 12 = nI (sk tp tl p) → FR 148 [] [10, 12] I I' → K 0 I' L) (kt : isS tp tl (sk tp tl p) v = true → ∀ I', I' 148 10 = nI (ek tp tl (sk tp tl p)) → I' 148 12 = nI (sk tp tl p) → FR 148 [] [10, 12] I I' → K 1 I' L) : dd_Ev d m_X11_sign [.ref 148, .int (nI v)] (sM Ln I L c s) (dd_RI Ln c s K) := by
  refine w_X11_sign_0 (by omega) ?_
  refine M_blanks (tp := tp) (by omega) hl hp h10 h11 hx h6 fun J j10 j12 fj => ?_
  have hb := sk_tl (tp := tp) hp
  refine M_isAt (tp := tp) (tl := tl) (q := sk tp tl p) (lo := v) (hi := v) (by omega) hl (by omega) j10 (by rw [fj.2 11 (by decide)]; exact h11) (hx.f fj (by decide)) h6 hv1 (Nat.le_refl _) (by omega) ?_
  rw [isR_S, bI_z]
  cases q : isS tp tl (sk tp tl p) v with
  | false => exact ⟨fun _ => dd_qi (kf q J j10 j12 fj), fun z => absurd rfl z⟩
  | true =>
    refine ⟨fun z => (by cases z), fun _ => dd_qi (kt q _ ?_ (by rw [dd_us, pk_un (by decide)]; exact j12) (fj.v (by decide)))⟩
    rw [dd_us, pk_us, j10, nI_1, (isS_k hv q).2.1]
theorem M_number {d Ln c s : Nat} {I : Nat → Nat → Int32} {L : Nat → Nat → Int64} {K : Int32 → (Nat → Nat → Int32) → (Nat → Nat → Int64) → Prop} {tp : Nat → Nat} {tl p m : Nat} {a2 : Int32} (hd : 30 ≤ d) (hm : m ≤ 1000) (ha : a2 = nI m - 1) (hl : tl ≤ 400) (hp : p ≤ tl) (h10 : I 148 10 = nI p) (h11 : I 148 11 = nI tl) (hx : TXm tp I) (h6 : ∀ j, tp j < 256) (kf : numA tp tl (sk tp tl p) m = none → ∀ I', I' 148 12 = nI (sk tp tl p) → FR 148 [] [10, 12] I I' → K (-1) I' L) (kt : ∀ v, numA tp tl (sk tp tl p) m = some v → ∀ I', I' 148 10 = nI (ek tp tl (sk tp tl p)) → I' 148 12 = nI (sk tp tl p) → FR 148 [] [10, 12] I I' → K (nI v) I' L) : dd_Ev d m_X11_number [.ref 148, .int 0, .int a2] (sM Ln I L c s) (dd_RI Ln c s K) := by
  subst ha
  refine w_X11_number_0 (by omega) ?_
  refine M_blanks (tp := tp) (by omega) hl hp h10 h11 hx h6 fun J j10 j12 fj => ?_
  have hb := sk_tl (tp := tp) hp
  generalize sk tp tl p = b at *
  have j11 : J 148 11 = nI tl := by rw [fj.2 11 (by decide)]; exact h11
  have jx : TXm tp J := hx.f fj (by decide)
  have hd1 : de tp tl b ≤ tl := rn_tl (p := isD tp) (tl := tl) b hb
  have key : ∀ q, de tp tl q = de tp tl b → b ≤ q → q ≤ tl → ∀ f, f 10 = nI q → (∀ j, j ≠ 10 → f j = J 148 j) → dd_Rn d m_X11_number (6, [.ref 148, .int 0, .int (nI m - 1), .int (nI (nuV tp b (min (q - b) 3)))], [], sM Ln (dd_u J 148 f) L c s) (dd_RI Ln c s K) := by
    refine rn_ind (p := isD tp) (tl := tl) _ ?_ ?_
    · intro q hz e eb hbq hq f f10 fo
      have eb' : de tp tl b = q := by rw [← eb]; exact e
      refine w_X11_number_6 (by omega) ?_
      refine M_isAt (tp := tp) (tl := tl) (q := q) (lo := 48) (hi := 57) (by omega) hl (by omega) (by rw [dd_us]; exact f10) (by rw [dd_us, fo 11 (by decide)]; exact j11) (fun j hj => by rw [dd_un (by decide)]; exact jx j hj) h6 (by omega) (by omega) (by omega) ?_
      have hv : nuV tp b (min (q - b) 3) < 1000 := nuV_le (tl := tl) (by omega) (by omega)
      have e12 : f 12 = nI b := by rw [fo 12 (by decide)]; exact j12
      rw [show isR tp 48 57 q = isD tp q from rfl, run_f hz]
      simp only [dd_us]
      rw [f10, e12, nI_eq (by omega) (by omega), pk_sub (by omega), li_3, nI_ltI (by omega) (by omega), nm_le hm hv]
      have fr : FR 148 [] [10, 12] I (dd_u J 148 f) := fj.trans ⟨fun k _ z => by rw [dd_un z], fun j hj => by
        simp only [List.mem_cons, List.not_mem_nil, or_false, not_or] at hj
        rw [dd_us, fo j hj.1]⟩
      have bad : (de tp tl b - b = 0 ∨ 3 < de tp tl b - b ∨ m ≤ nuV tp b (de tp tl b - b)) → dd_RI Ln c s K (none, .int (-1), sM Ln (dd_u J 148 f) L c s) := fun z => dd_qi (kf (by unfold numA; rw [if_pos z]) _ (by rw [dd_us]; exact e12) fr)
      refine ⟨fun _ => ⟨fun z => bad (Or.inl (by omega)), fun z => ⟨fun y => bad (Or.inr (Or.inl (by omega))), fun y => ⟨fun x => absurd x (nI_pos (by omega)), fun _ => ?_⟩⟩⟩, fun z => absurd rfl z⟩
      have em : min (q - b) 3 = de tp tl b - b := by omega
      rw [em] at *
      refine ⟨fun x => dd_qi ?_, fun x => bad (Or.inr (Or.inr (by omega)))⟩
      have en : numA tp tl b m = some (nuV tp b (de tp tl b - b)) := by unfold numA; rw [if_neg (by omega)]
      exact kt _ en _ (by rw [dd_us, f10, (numA_s en).2.2.2, eb']) (by rw [dd_us]; exact e12) fr
    · intro q hq hpq e ih eb hbq hq' f f10 fo
      refine w_X11_number_6 (by omega) ?_
      refine M_isAt (tp := tp) (tl := tl) (q := q) (lo := 48) (hi := 57) (by omega) hl (by omega) (by rw [dd_us]; exact f10) (by rw [dd_us, fo 11 (by decide)]; exact j11) (fun j hj => by rw [dd_un (by decide)]; exact jx j hj) h6 (by omega) (by omega) (by omega) ?_
      have e12 : f 12 = nI b := by rw [fo 12 (by decide)]; exact j12
      have dg := isD_iff.mp hpq
      have qd : q < de tp tl b := by
        have h1 : de tp tl q = de tp tl (q + 1) := e
        have h2 : q + 1 ≤ de tp tl (q + 1) := rn_le (p := isD tp) (tl := tl) (q + 1)
        omega
      rw [show isR tp 48 57 q = isD tp q from rfl, run_t hq hpq]
      simp only [dd_us, dd_u_u]
      have tq : tn (nI q) = q := nI_clamp (by omega)
      have ih' := ih (by rw [← eb]; exact e.symm) (by omega) (by omega) (upd f 10 (nI (q + 1))) (by rw [pk_us]) (fun j hj => by rw [pk_un hj]; exact fo j hj)
      rw [f10, e12, pk_sub (by omega), li_3, nI_leI (by omega) (by omega), nI_1, tq, dd_un (show (154 : Nat) ≠ 148 by decide), jx q (by omega), (byt_b _ (h6 q)).1 (by omega)]
      refine ⟨fun z => absurd z (by decide), fun _ => ⟨fun z => ?_, fun z => ⟨⟨nI_pos' (by omega), by omega⟩, ?_⟩⟩⟩
      · rw [show min (q + 1 - b) 3 = min (q - b) 3 by omega] at ih'
        exact ih'
      · have hv : nuV tp b (q - b) < 1000 := nuV_le (tl := tl) (by omega) (by omega)
        have ev : (10 : Int32) * nI (nuV tp b (q - b)) + nI (tp q) - 48 = nI (nuV tp b (q - b + 1)) := by
          rw [li_10, pk_mul, nI_add, li_48, pk_sub (by omega), nuV_s, show b + (q - b) = q by omega]
          congr 1
          omega
        rw [show min (q + 1 - b) 3 = q - b + 1 by omega] at ih'
        rw [show min (q - b) 3 = q - b by omega, ev]
        exact ih'
  have := key b rfl (Nat.le_refl _) hb (J 148) j10 (fun _ _ => rfl)
  rw [dd_u_id, Nat.sub_self] at this
  exact this
theorem M_after {d Ln c s : Nat} {I : Nat → Nat → Int32} {L : Nat → Nat → Int64} {K : Int32 → (Nat → Nat → Int32) → (Nat → Nat → Int64) → Prop} {tp : Nat → Nat} {tl p w m : Nat} {a2 : Int32} (hd : 32 ≤ d) (hw : w < 71) (hS : STR I) (hm : m ≤ 1000) (ha : a2 = nI m - 1) (hl : tl ≤ 400) (hp : p ≤ tl) (h10 : I 148 10 = nI p) (h11 : I 148 11 = nI tl) (hx : TXm tp I) (h6 : ∀ j, tp j < 256) (kw : isW tp tl (sk tp tl p) w = false → ∀ I', I' 148 12 = nI (sk tp tl p) → FR 148 [] [10, 12] I I' → K (-1) I' L) (kf : isW tp tl (sk tp tl p) w = true → numA tp tl (sk tp tl (ek tp tl (sk tp tl p))) m = none → ∀ I', I' 148 12 = nI (sk tp tl (ek tp tl (sk tp tl p))) → FR 148 [] [10, 12] I I' → K (-1) I' L) (kt : isW tp tl (sk tp tl p) w = true → ∀ v, numA tp tl (sk tp tl (ek tp tl (sk tp tl p))) m = some v → ∀ I', I' 148 10 = nI (ek tp tl (sk tp tl (ek tp tl (sk tp tl p)))) → I' 148 12 = nI (sk tp tl (ek tp tl (sk tp tl p))) → FR 148 [] [10, 12] I I' → K (nI v) I' L) : dd_Ev d m_X11_after [.ref 148, .ref (1000000 + w), .int 0, .int a2] (sM Ln I L c s) (dd_RI Ln c s K) := by
  have hb := ek_tl tp tl _ (sk_tl (tp := tp) hp)
  refine w_X11_after_0 (by omega) hw ?_
  refine M_letters (tp := tp) (by omega) hl hp h10 h11 hx h6 fun J j10 j12 fj => ?_
  refine M_isWord (tp := tp) (tl := tl) (b := sk tp tl p) (by omega) hw (hS.f fj (by simp)) hl (sk_tl hp) j10 j12 (hx.f fj (by decide)) h6 ?_
  rw [bI_z]
  cases q : isW tp tl (sk tp tl p) w with
  | false => exact ⟨fun _ => dd_qi (kw q J j12 fj), fun z => absurd rfl z⟩
  | true =>
    refine ⟨fun z => (by cases z), fun _ => ?_⟩
    refine M_number (tp := tp) (tl := tl) (by omega) hm ha hl hb (by rw [(isW_k hw q).2]; exact j10) (by rw [fj.2 11 (by decide)]; exact h11) (hx.f fj (by decide)) h6 (fun en J2 a fa => dd_qi (kf q en J2 a (fj.trans fa))) (fun v en J2 a a2 fa => dd_qi (kt q v en J2 a a2 (fj.trans fa)))
