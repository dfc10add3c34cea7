/-! law: what the lines say, on both sides -/
theorem gdL {α : Type} {d : α} (r : List α) : ∀ (l : List α) (i : Nat), i < l.length → (l ++ r).getD i d = l.getD i d := by
  intro l
  induction l with
  | nil => intro i h; exact absurd h (Nat.not_lt_zero i)
  | cons a l ih =>
    intro i h
    cases i with
    | zero => rfl
    | succ i => exact ih i (by simpa using h)
theorem gdR {α : Type} {d : α} (r : List α) (t : Nat) : ∀ (l : List α), (l ++ r).getD (l.length + t) d = r.getD t d := by
  intro l
  induction l with
  | nil => show r.getD (0 + t) d = _; rw [Nat.zero_add]
  | cons a l ih =>
    show ((a :: l) ++ r).getD ((l.length + 1) + t) d = _
    rw [show l.length + 1 + t = l.length + t + 1 by omega]
    exact ih
theorem take_s {α : Type} {d : α} : ∀ (l : List α) (i : Nat), i < l.length → l.take (i + 1) = l.take i ++ [l.getD i d] := by
  intro l
  induction l with
  | nil => intro i h; exact absurd h (Nat.not_lt_zero i)
  | cons a l ih =>
    intro i h
    cases i with
    | zero => rfl
    | succ i =>
      show a :: l.take (i + 1) = a :: (l.take i ++ [l.getD i d])
      rw [ih i (by simpa using h)]
theorem mcat_c (y : LN) (A : List LN) : mcat (y :: A) = y.2.2.1 ++ mcat A := rfl
theorem mcat_at : ∀ (A : List LN) (i : Nat), i < A.length → (mcat (A.take i)).length + (A.getD i d0).2.2.1.length ≤ (mcat A).length ∧ ∀ t, t < (A.getD i d0).2.2.1.length → (mcat A).getD ((mcat (A.take i)).length + t) (0, 0) = (A.getD i d0).2.2.1.getD t (0, 0) := by
  intro A
  induction A with
  | nil => intro i h; exact absurd h (Nat.not_lt_zero i)
  | cons y A ih =>
    intro i h
    rw [mcat_c]
    cases i with
    | zero =>
      have e : ((y :: A).take 0) = [] := rfl
      have e2 : (y :: A).getD 0 d0 = y := rfl
      rw [e, e2, List.length_append]
      refine ⟨by show 0 + y.2.2.1.length ≤ _; omega, fun t ht => ?_⟩
      show (y.2.2.1 ++ mcat A).getD (0 + t) (0, 0) = _
      rw [Nat.zero_add]
      exact gdL _ _ _ ht
    | succ i =>
      have e : ((y :: A).take (i + 1)) = y :: A.take i := rfl
      have e2 : (y :: A).getD (i + 1) d0 = A.getD i d0 := rfl
      obtain ⟨h1, h2⟩ := ih i (by simpa using h)
      rw [e, e2, mcat_c, List.length_append, List.length_append]
      refine ⟨by omega, fun t ht => ?_⟩
      rw [Nat.add_assoc, gdR]
      exact h2 t ht
/-- the law in w is A -/
def LWo (w : Nat → Nat) (A : List LN) : Prop := w 3 = 1 ∧ w 522 = A.length ∧ (∀ i, i < A.length → w (523 + 4 * i) = (A.getD i d0).1 ∧ w (523 + 4 * i + 1) = (A.getD i d0).2.1 ∧ w (523 + 4 * i + 2) = (mcat (A.take i)).length ∧ w (523 + 4 * i + 3) = (mcat (A.take i)).length + (A.getD i d0).2.2.1.length) ∧ ∀ i, i < (mcat A).length → w (571 + 2 * i) = ((mcat A).getD i (0, 0)).1 ∧ w (571 + 2 * i + 1) = ((mcat A).getD i (0, 0)).2
/-- codes of w from a on -/
def CDs (w : Nat → Nat) (a : Nat) (m : List (Nat × Nat)) : Prop := ∀ t, t < m.length → w (571 + 2 * (a + t)) = (m.getD t (0, 0)).1 ∧ w (571 + 2 * (a + t) + 1) = (m.getD t (0, 0)).2
theorem LWo.cds {w : Nat → Nat} {A : List LN} (h : LWo w A) {i : Nat} (hi : i < A.length) : CDs w (mcat (A.take i)).length (A.getD i d0).2.2.1 := fun t ht => by
  obtain ⟨h1, h2⟩ := mcat_at A i hi
  have := h.2.2.2 ((mcat (A.take i)).length + t) (by omega)
  rw [h2 t ht] at this
  exact this
theorem evS_T {w F : Nat → Nat} {sil fer : Bool} {i : Nat} {x : Nat × Nat} (h1 : w (571 + 2 * i) = x.1) (h2 : w (571 + 2 * i + 1) = x.2) (s : Nat × (Nat → Nat)) : evS w F sil fer i s = evT F sil fer x s := by
  unfold evS evT
  rw [h1, h2]
theorem okS_U {w : Nat → Nat} {i : Nat} {x : Nat × Nat} (h1 : w (571 + 2 * i) = x.1) (h2 : w (571 + 2 * i + 1) = x.2) {e : Nat × (Nat → Nat)} (h : okU x e) : okS w i e := by
  unfold okS
  rw [h1, h2]
  exact h
theorem evA_m {w F : Nat → Nat} {sil fer : Bool} {a : Nat} {m : List (Nat × Nat)} (h : CDs w a m) : ∀ i, i ≤ m.length → evA w F sil fer a i = evF F sil fer (m.take i) (0, fun _ => 0) := by
  intro i
  induction i with
  | zero => intro _; rfl
  | succ i ih =>
    intro hi
    have hc := h i (by omega)
    rw [take_s (d := (0, 0)) m i (by omega), evF_app, ← ih (by omega)]
    exact evS_T hc.1 hc.2 _
theorem runO_at {F : Nat → Nat} {sil fer : Bool} : ∀ (m : List (Nat × Nat)) s, runO F sil fer m s → ∀ i, i ≤ m.length → okE (evF F sil fer (m.take i) s) ∧ (i < m.length → okU (m.getD i (0, 0)) (evF F sil fer (m.take i) s)) := by
  intro m
  induction m with
  | nil =>
    intro s h i hi
    have : i = 0 := by have : i ≤ 0 := hi; omega
    subst this
    exact ⟨h, fun q => absurd q (Nat.not_lt_zero 0)⟩
  | cons x m ih =>
    intro s h i hi
    cases i with
    | zero => exact ⟨h.1, fun _ => h.2.1⟩
    | succ i =>
      obtain ⟨h1, h2⟩ := ih (evT F sil fer x s) h.2.2 i (by simpa using hi)
      exact ⟨h1, fun q => h2 (by simpa using q)⟩
theorem okE_0 : okE (0, fun _ => 0) := ⟨Nat.zero_le _, fun j hj => absurd hj (Nat.not_lt_zero j)⟩
/-- whether a line holds, on both sides -/
def HV (F : Nat → Nat) (sil fer : Bool) (m : List (Nat × Nat)) (v : Bool) : Prop := (m = [] ∧ v = true) ∨ BV F sil fer m v.toNat
theorem HV.run {F : Nat → Nat} {sil fer : Bool} {m : List (Nat × Nat)} {v : Bool} (h : HV F sil fer m v) (hl : m.length ≤ 400) : runO F sil fer m (0, fun _ => 0) := by
  rcases h with ⟨h, _⟩ | h
  · subst h; exact okE_0
  · exact (h.2.2 (0, fun _ => 0) okE_0 (by show 0 + m.length ≤ 400; omega)).1
theorem HV.hld {F : Nat → Nat} {sil fer : Bool} {m : List (Nat × Nat)} {v : Bool} (h : HV F sil fer m v) (hl : m.length ≤ 400) : (decide ((evF F sil fer m (0, fun _ => 0)).1 = 0) || decide ((evF F sil fer m (0, fun _ => 0)).2 0 = 1)) = v := by
  rcases h with ⟨h, e⟩ | h
  · subst h; subst e; rfl
  · obtain ⟨_, h2, h3, _⟩ := h.2.2 (0, fun _ => 0) okE_0 (by show 0 + m.length ≤ 400; omega)
    have h2 : (evF F sil fer m (0, fun _ => 0)).1 = 1 := h2
    have h3 : (evF F sil fer m (0, fun _ => 0)).2 0 = v.toNat := h3
    rw [h2, h3]
    cases v <;> rfl
/-! the class's side of a line -/
theorem and1 {x : Int32} : x &&& 1 = 0 ↔ bX x 0 = false := by
  constructor
  · intro h
    have : bX (x &&& 1) 0 = bX 0 0 := by rw [h]
    rw [bX_and, bX_1, bX_0] at this
    simpa using this
  · intro h
    refine bX_ext fun i hi => ?_
    rw [bX_and, bX_1, bX_0]
    by_cases q : i = 0
    · subst q; rw [h]; rfl
    · rw [decide_eq_false q, Bool.and_false]
theorem l1000 : (1000 : Int32) = nI 1000 := rfl
theorem l1100 : (1100 : Int32) = nI 1100 := rfl
theorem wgS_0 {F : Nat → Nat} {sil fer : Bool} {v : Nat} (hv : v ≤ 20) (t : wgT) : wgS F sil fer (eff 0 v) t = (t.1, t.2.1, t.2.2.1, t.2.2.2.1 + (if bX t.2.2.1 0 = true then nI v else 0), t.2.2.2.2) := by
  have e : eff 0 v = nI (1000 + v) := by unfold eff; rw [if_pos rfl, l1000, nI_add]
  have n1 : ¬ nI (1000 + v) < 1000 := by rw [l1000, nI_ltI (by omega) (by omega)]; omega
  have n2 : nI (1000 + v) < 1100 := by rw [l1100, nI_ltI (by omega) (by omega)]; omega
  have n3 : nI (1000 + v) - 1000 = nI v := by rw [l1000, pk_sub (by omega), show 1000 + v - 1000 = v by omega]
  rw [e]
  unfold wgS
  rw [if_neg n1, if_pos n2, n3]
  cases b : bX t.2.2.1 0 with
  | true => rw [if_neg (fun u => by rw [and1.mp u] at b; cases b), if_pos rfl]
  | false => rw [if_pos (and1.mpr b), if_neg (by decide)]
theorem wgS_1 {F : Nat → Nat} {sil fer : Bool} {v : Nat} (hv : v ≤ 20) (t : wgT) : wgS F sil fer (eff 1 v) t = (t.1, t.2.1, t.2.2.1, t.2.2.2.1 + (if bX t.2.2.1 0 = true then - nI v else 0), t.2.2.2.2) := by
  have e : eff 1 v = nI (1100 + v) := by unfold eff; rw [if_neg (by decide), if_pos rfl, l1100, nI_add]
  have n1 : ¬ nI (1100 + v) < 1000 := by rw [l1000, nI_ltI (by omega) (by omega)]; omega
  have n2 : ¬ nI (1100 + v) < 1100 := by rw [l1100, nI_ltI (by omega) (by omega)]; omega
  have n3 : 1100 - nI (1100 + v) = - nI v := by rw [l1100, ← nI_add, ← Int32.sub_sub, Int32.sub_self, Int32.zero_sub]
  rw [e]
  unfold wgS
  rw [if_neg n1, if_neg n2, n3]
  cases b : bX t.2.2.1 0 with
  | true => rw [if_neg (fun u => by rw [and1.mp u] at b; cases b), if_pos rfl]
  | false => rw [if_pos (and1.mpr b), if_neg (by decide)]
theorem wgS_2 {F : Nat → Nat} {sil fer : Bool} {v : Nat} (t : wgT) : wgS F sil fer (eff 2 v) t = (t.1, t.2.1, t.2.2.1, t.2.2.2.1, t.2.2.2.2 || bX t.2.2.1 0) := by
  have e : eff 2 v = -10 := by unfold eff; rw [if_neg (by decide), if_neg (by decide)]
  rw [e]
  unfold wgS
  rw [if_pos (by decide), if_pos (by decide), if_pos (by decide), if_neg (by decide), if_neg (by decide), if_neg (by decide), if_neg (by decide), if_neg (by decide), if_neg (by decide), if_pos rfl]
  cases b : bX t.2.2.1 0 with
  | true => rw [if_neg (fun u => by rw [and1.mp u] at b; cases b)]
  | false => rw [if_pos (and1.mpr b)]
/-- what a line adds -/
def add1 (k v : Nat) (b : Bool) (x : Int32) : Int32 := if b = true then (if k = 0 then x + nI v else if k = 1 then x + - nI v else x) else x
theorem wg_line {F : Nat → Nat} {sil fer : Bool} (hF : ∀ i, i < 8 → F i ≤ 999) {x : LN} (hg : LG x) : ∃ v : Bool, HV F sil fer x.2.2.1 v ∧ ∀ t : wgT, t.1 = 0 → (wgF F sil fer x.2.2.2 t).1 = 0 ∧ (wgF F sil fer x.2.2.2 t).2.2.2.1 = add1 x.1 x.2.1 v t.2.2.2.1 ∧ (wgF F sil fer x.2.2.2 t).2.2.2.2 = (t.2.2.2.2 || (v && decide (x.1 = 2))) := by
  obtain ⟨g1, g2, g3, g4⟩ := hg
  have key : ∀ (cc : List Int32) (v : Bool) (h : Nat), WB F sil fer cc v h → x.2.2.2 = cc ++ [eff x.1 x.2.1] → ∀ t : wgT, t.1 = 0 → (wgF F sil fer x.2.2.2 t).1 = 0 ∧ (wgF F sil fer x.2.2.2 t).2.2.2.1 = add1 x.1 x.2.1 v t.2.2.2.1 ∧ (wgF F sil fer x.2.2.2 t).2.2.2.2 = (t.2.2.2.2 || (v && decide (x.1 = 2))) := by
    intro cc v h wb e t ht
    obtain ⟨b1, b2, b3, _⟩ := wb.2 t ht
    rw [e, wgF_app]
    generalize wgF F sil fer cc t = u at *
    show (wgS F sil fer (eff x.1 x.2.1) u).1 = 0 ∧ (wgS F sil fer (eff x.1 x.2.1) u).2.2.2.1 = _ ∧ (wgS F sil fer (eff x.1 x.2.1) u).2.2.2.2 = _
    have c3 : x.1 = 0 ∨ x.1 = 1 ∨ x.1 = 2 := by omega
    unfold add1
    rcases c3 with c | c | c
    · rw [c, wgS_0 g2, b3, b2]
      refine ⟨b1, ?_, ?_⟩
      · cases v <;> simp
      · show t.2.2.2.2 = _
        cases v <;> simp
    · rw [c, wgS_1 g2, b3, b2]
      refine ⟨b1, ?_, ?_⟩
      · cases v <;> simp
      · show t.2.2.2.2 = _
        cases v <;> simp
    · rw [c, wgS_2, b3, b2]
      refine ⟨b1, ?_, ?_⟩
      · cases v <;> simp
      · cases v <;> simp
  rcases g4 with ⟨m0, e⟩ | ⟨cc, gb, e⟩
  · exact ⟨true, Or.inl ⟨m0, rfl⟩, key [-1] true 1 WB_alw e⟩
  · obtain ⟨v, bv, wb⟩ := gb F sil fer hF
    exact ⟨v, Or.inr bv, key cc v 15 wb e⟩
theorem hld_line {w F : Nat → Nat} {sil fer : Bool} {A : List LN} (h : LWo w A) (hl : (mcat A).length ≤ 400) {i : Nat} (hi : i < A.length) {v : Bool} (hv : HV F sil fer (A.getD i d0).2.2.1 v) : hldL w F sil fer i = v := by
  obtain ⟨h1, h2, h3, h4⟩ := h.2.2.1 i hi
  have ml := (mcat_at A i hi).1
  have e : evA w F sil fer (mcat (A.take i)).length (A.getD i d0).2.2.1.length = evF F sil fer (A.getD i d0).2.2.1 (0, fun _ => 0) := by
    rw [evA_m (h.cds hi) _ (Nat.le_refl _), List.take_length]
  unfold hldL
  rw [h3, h4, Nat.add_sub_cancel_left, e]
  exact hv.hld (by omega)
theorem okN_line {w : Nat → Nat} {A : List LN} (h : LWo w A) (hg : LGs A) (hl : (mcat A).length ≤ 400) {i : Nat} (hi : i < A.length) : okN w i := by
  obtain ⟨h1, h2, h3, h4⟩ := h.2.2.1 i hi
  have ml := (mcat_at A i hi).1
  have gx : LG (A.getD i d0) := hg _ (by
    have : A.getD i d0 = A[i] := by simp [hi]
    rw [this]
    exact List.getElem_mem hi)
  have g1 := gx.1
  have g2 := gx.2.1
  unfold okN
  rw [h1, h2, h3, h4, Nat.add_sub_cancel_left]
  refine ⟨g1, g2, by omega, by omega, fun F sil fer hF => ?_⟩
  obtain ⟨v, hv, _⟩ := wg_line (sil := sil) (fer := fer) hF gx
  have hr := runO_at _ _ (hv.run (by omega))
  have hc := h.cds hi
  refine ⟨fun t ht => ?_, fun t ht => ?_⟩
  · rw [evA_m hc t ht]
    exact (hr t ht).1
  · rw [evA_m hc t (by omega)]
    have c2 := hc t ht
    exact okS_U c2.1 c2.2 ((hr t (by omega)).2 ht)
theorem sumA_1 {w F : Nat → Nat} {sil fer : Bool} {kd n : Nat} : sumA w F sil fer kd (n + 1) = if w (523 + 4 * n) = kd ∧ hldL w F sil fer n = true then sumA w F sil fer kd n + w (523 + 4 * n + 1) else sumA w F sil fer kd n := rfl
theorem i_ac (a b e : Int32) : a - b + e = a + e - b := by rw [Int32.sub_eq_add_neg, Int32.sub_eq_add_neg, Int32.add_assoc, Int32.add_assoc, Int32.add_comm (-b) e]
theorem i_an (a b e : Int32) : a - b + - e = a - (b + e) := by rw [← Int32.sub_eq_add_neg, Int32.sub_sub]
theorem wg_all {w F : Nat → Nat} {sil fer : Bool} {A : List LN} (h : LWo w A) (hg : LGs A) (hl : (mcat A).length ≤ 400) (hF : ∀ i, i < 8 → F i ≤ 999) : ∀ n, n ≤ A.length → (wgF F sil fer (ccat (A.take n)) (0, 0, 0, 0, false)).1 = 0 ∧ (wgF F sil fer (ccat (A.take n)) (0, 0, 0, 0, false)).2.2.2.1 = nI (sumA w F sil fer 0 n) - nI (sumA w F sil fer 1 n) ∧ (wgF F sil fer (ccat (A.take n)) (0, 0, 0, 0, false)).2.2.2.2 = decide (0 < sumA w F sil fer 2 n) := by
  intro n
  induction n with
  | zero => intro _; exact ⟨rfl, (by show (0 : Int32) = nI 0 - nI 0; decide), rfl⟩
  | succ n ih =>
    intro hn
    obtain ⟨i1, i2, i3⟩ := ih (by omega)
    have hi : n < A.length := by omega
    have gx : LG (A.getD n d0) := hg _ (by
      have : A.getD n d0 = A[n] := by simp [hi]
      rw [this]
      exact List.getElem_mem hi)
    obtain ⟨v, hv, key⟩ := wg_line (sil := sil) (fer := fer) hF gx
    have hh := hld_line h hl hi hv
    obtain ⟨h1, h2, _, _⟩ := h.2.2.1 n hi
    obtain ⟨g1, g2, g3, _⟩ := gx
    rw [take_s (d := d0) A n hi, ccat_s, wgF_app]
    generalize wgF F sil fer (ccat (A.take n)) (0, 0, 0, 0, false) = t at *
    obtain ⟨k1, k2, k3⟩ := key t i1
    refine ⟨k1, ?_, ?_⟩
    · rw [k2, i2, sumA_1, sumA_1, h1, h2, hh]
      generalize A.getD n d0 = x at *
      have c3 : x.1 = 0 ∨ x.1 = 1 ∨ x.1 = 2 := by omega
      unfold add1
      cases v with
      | false => simp
      | true =>
        rcases c3 with c | c | c
        · simp [c, i_ac, nI_add]
        · simp [c, i_an, nI_add]
        · simp [c]
    · rw [k3, i3, sumA_1, h1, h2, hh]
      generalize A.getD n d0 = x at *
      by_cases c : x.1 = 2
      · cases v with
        | false => simp
        | true => simp [c, g3 c]
      · cases v <;> simp [c]
theorem wgA_F {C : Nat → Int32} {F : Nat → Nat} {sil fer : Bool} {l : List Int32} (h : ∀ i, i < l.length → C i = l.getD i 0) : wgA C F sil fer l.length = wgF F sil fer l (0, 0, 0, 0, false) := by
  have key : ∀ k, k ≤ l.length → wgA C F sil fer k = wgF F sil fer (l.take k) (0, 0, 0, 0, false) := by
    intro k
    induction k with
    | zero => intro _; rfl
    | succ k ih =>
      intro hk
      rw [take_s (d := 0) l k (by omega), wgF_app, ← ih (by omega), ← h k (by omega)]
      rfl
  rw [key _ (Nat.le_refl _), List.take_length]
theorem LWo.law {w : Nat → Nat} {A : List LN} (h : LWo w A) (hn : A.length ≤ 12) (hg : LGs A) (hl : (mcat A).length ≤ 400) : LawOK w := ⟨by rw [h.1]; exact Nat.le_refl 1, fun _ => ⟨by rw [h.2.1]; exact hn, fun n hn => okN_line h hg hl (by rw [← h.2.1]; exact hn)⟩⟩
theorem LWo.rlw {w : Nat → Nat} {A : List LN} {I : Nat → Nat → Int32} (h : LWo w A) (hg : LGs A) (hl : (mcat A).length ≤ 400) (hc : (ccat A).length ≤ 400) (h2 : I 25 2 = nI A.length) (h1 : I 25 1 = nI (ccat A).length) (h3 : ∀ i, i < (ccat A).length → I 26 i = (ccat A).getD i 0) : RLw w I := by
  refine ⟨by rw [h.1, if_pos rfl, h.2.1]; exact h2, (ccat A).length, hc, h1, fun F sil fer hF => ?_⟩
  obtain ⟨_, k2, k3⟩ := wg_all (sil := sil) (fer := fer) h hg hl hF A.length (Nat.le_refl _)
  rw [List.take_length] at k2 k3
  rw [wgA_F h3]
  unfold sumL
  rw [h.1, if_pos rfl, if_pos rfl, if_pos rfl, h.2.1]
  exact ⟨k2, k3⟩
/-- a good line's codes -/
theorem runO_b {F : Nat → Nat} {sil fer : Bool} : ∀ (m : List (Nat × Nat)) s, runO F sil fer m s → ∀ i, i < m.length → (m.getD i (0, 0)).1 ≤ 16 ∧ (m.getD i (0, 0)).2 ≤ 999 := by
  intro m s h i hi
  have := (runO_at m s h i (by omega)).2 hi
  exact ⟨this.1, this.2.1⟩
theorem LG_b {x : LN} (hg : LG x) (hl : x.2.2.1.length ≤ 400) : ∀ i, i < x.2.2.1.length → (x.2.2.1.getD i (0, 0)).1 ≤ 16 ∧ (x.2.2.1.getD i (0, 0)).2 ≤ 999 := by
  obtain ⟨v, hv, _⟩ := wg_line (F := fun _ => 0) (sil := false) (fer := false) (fun _ _ => Nat.zero_le _) hg
  exact runO_b _ _ (hv.run hl)
theorem mcat_b : ∀ (A : List LN), LGs A → (mcat A).length ≤ 400 → ∀ i, i < (mcat A).length → ((mcat A).getD i (0, 0)).1 ≤ 16 ∧ ((mcat A).getD i (0, 0)).2 ≤ 999 := by
  intro A
  induction A with
  | nil => intro _ _ i hi; exact absurd hi (Nat.not_lt_zero i)
  | cons y A ih =>
    intro hg hl i hi
    rw [mcat_c, List.length_append] at hl hi
    rw [mcat_c]
    by_cases q : i < y.2.2.1.length
    · rw [gdL _ _ _ q]
      exact LG_b (hg y (List.mem_cons_self ..)) (by omega) i q
    · have e : i = y.2.2.1.length + (i - y.2.2.1.length) := by omega
      rw [e, gdR]
      exact ih (fun x hx => hg x (List.mem_cons_of_mem _ hx)) (by omega) _ (by omega)
