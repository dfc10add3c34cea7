/-! how many bits of a long -/
def smF (f : Nat → Nat) : Nat → Nat := lpf (fun i x => x + f i) 0
theorem smF_s (f : Nat → Nat) (n : Nat) : smF f (n + 1) = smF f n + f n := rfl
theorem smF_split (f : Nat → Nat) (a b : Nat) : smF f (a + b) = smF f a + smF (fun i => f (a + i)) b := by
  induction b with
  | zero => rfl
  | succ b ih => rw [← Nat.add_assoc, smF_s, smF_s, ih]; omega
theorem smF_cong {f g : Nat → Nat} {n : Nat} (h : ∀ i, i < n → f i = g i) : smF f n = smF g n := by
  induction n with
  | zero => rfl
  | succ n ih => rw [smF_s, smF_s, ih (fun i hi => h i (by omega)), h n (by omega)]
theorem smF_le {f : Nat → Nat} {n : Nat} (h : ∀ i, i < n → f i ≤ 1) : smF f n ≤ n := by
  induction n with
  | zero => exact Nat.le_refl _
  | succ n ih => have := ih (fun i hi => h i (by omega)); have := h n (by omega); rw [smF_s]; omega
def vlB : List Nat → Nat
  | [] => 0
  | b :: l => b + 256 * vlB l
def rpB (m : Nat) : Nat → Nat
  | 0 => 0
  | n + 1 => m + 256 * rpB m n
theorem and256 {u v m n : Nat} (hu : u < 256) (hm : m < 256) : (u + 256 * v) &&& (m + 256 * n) = (u &&& m) + 256 * (v &&& n) := by
  have e1 : ((u + 256 * v) &&& (m + 256 * n)) % 2 ^ 8 = u &&& m := by
    rw [Nat.and_mod_two_pow, show (u + 256 * v) % 2 ^ 8 = u by omega, show (m + 256 * n) % 2 ^ 8 = m by omega]
  have e2 : ((u + 256 * v) &&& (m + 256 * n)) / 2 ^ 8 = v &&& n := by
    rw [Nat.and_div_two_pow, show (u + 256 * v) / 2 ^ 8 = v by omega, show (m + 256 * n) / 2 ^ 8 = n by omega]
  rw [← e1, ← e2]
  exact (Nat.mod_add_div _ (2 ^ 8)).symm
theorem stA0 : ∀ b, b < 256 → ∀ r, r < 2 → (b / 2 + 128 * r) &&& 85 = (b / 2) &&& 85 := by decide +kernel
theorem stA {l : List Nat} (h : ∀ b, b ∈ l → b < 256) : (vlB l / 2) &&& rpB 85 l.length = vlB (l.map (fun b => (b / 2) &&& 85)) := by
  induction l with
  | nil => rfl
  | cons b l ih =>
    have hb := h b List.mem_cons_self
    have ih := ih (fun x hx => h x (List.mem_cons_of_mem _ hx))
    show ((b + 256 * vlB l) / 2) &&& (85 + 256 * rpB 85 l.length) = ((b / 2) &&& 85) + 256 * vlB (l.map (fun b => (b / 2) &&& 85))
    rw [show (b + 256 * vlB l) / 2 = (b / 2 + 128 * (vlB l % 2)) + 256 * (vlB l / 2) by omega, and256 (by omega) (by omega), stA0 b hb _ (by omega), ih]
theorem stB0 : ∀ b, b < 256 → ∀ r, r < 4 → (b / 4 + 64 * r) &&& 51 = (b / 4) &&& 51 := by decide +kernel
theorem stB4 {l : List Nat} (h : ∀ b, b ∈ l → b < 256) : (vlB l / 4) &&& rpB 51 l.length = vlB (l.map (fun b => (b / 4) &&& 51)) := by
  induction l with
  | nil => rfl
  | cons b l ih =>
    have hb := h b List.mem_cons_self
    have ih := ih (fun x hx => h x (List.mem_cons_of_mem _ hx))
    show ((b + 256 * vlB l) / 4) &&& (51 + 256 * rpB 51 l.length) = ((b / 4) &&& 51) + 256 * vlB (l.map (fun b => (b / 4) &&& 51))
    rw [show (b + 256 * vlB l) / 4 = (b / 4 + 64 * (vlB l % 4)) + 256 * (vlB l / 4) by omega, and256 (by omega) (by omega), stB0 b hb _ (by omega), ih]
theorem stM {l : List Nat} {m : Nat} (hm : m < 256) (h : ∀ b, b ∈ l → b < 256) : vlB l &&& rpB m l.length = vlB (l.map (fun b => b &&& m)) := by
  induction l with
  | nil => exact Nat.zero_and _
  | cons b l ih =>
    have hb := h b List.mem_cons_self
    have ih := ih (fun x hx => h x (List.mem_cons_of_mem _ hx))
    show (b + 256 * vlB l) &&& (m + 256 * rpB m l.length) = (b &&& m) + 256 * vlB (l.map (fun b => b &&& m))
    rw [and256 hb hm, ih]
theorem vl_add {l : List Nat} {f g : Nat → Nat} : vlB (l.map f) + vlB (l.map g) = vlB (l.map (fun b => f b + g b)) := by
  induction l with
  | nil => rfl
  | cons b l ih =>
    show (f b + 256 * vlB (l.map f)) + (g b + 256 * vlB (l.map g)) = (f b + g b) + 256 * vlB (l.map (fun b => f b + g b))
    rw [← ih]; omega
theorem vl_id {l : List Nat} : vlB (l.map (fun b => b)) = vlB l := by rw [List.map_id']
theorem stC {l : List Nat} (h : ∀ b, b ∈ l → b % 16 ≤ 4 ∧ b / 16 ≤ 4) : (vlB l + vlB l / 16) &&& rpB 15 l.length = vlB (l.map (fun b => (b + b / 16) % 16)) := by
  induction l with
  | nil => rfl
  | cons b l ih =>
    have hb := h b List.mem_cons_self
    have ih := ih (fun x hx => h x (List.mem_cons_of_mem _ hx))
    have hy : vlB l % 16 ≤ 4 := by
      cases l with
      | nil => exact Nat.zero_le _
      | cons y l =>
        have := (h y (List.mem_cons_of_mem _ List.mem_cons_self)).1
        show (y + 256 * vlB l) % 16 ≤ 4
        omega
    show ((b + 256 * vlB l) + (b + 256 * vlB l) / 16) &&& (15 + 256 * rpB 15 l.length) = ((b + b / 16) % 16) + 256 * vlB (l.map (fun b => (b + b / 16) % 16))
    rw [show (b + 256 * vlB l) + (b + 256 * vlB l) / 16 = (b + b / 16 + 16 * (vlB l % 16)) + 256 * (vlB l + vlB l / 16) by omega, and256 (by omega) (by omega), ih]
    have : (b + b / 16 + 16 * (vlB l % 16)) &&& 15 = (b + b / 16) % 16 := by
      rw [show (15 : Nat) = 2 ^ 4 - 1 by decide, Nat.and_two_pow_sub_one_eq_mod]
      omega
    rw [this]
def bysB (x : Nat) : Nat → List Nat
  | 0 => []
  | n + 1 => (x % 256) :: bysB (x / 256) n
theorem bys_vl : ∀ n x, x < 256 ^ n → vlB (bysB x n) = x := by
  intro n
  induction n with
  | zero => intro x h; show 0 = x; omega
  | succ n ih =>
    intro x h
    show x % 256 + 256 * vlB (bysB (x / 256) n) = x
    rw [ih (x / 256) (by rw [Nat.pow_succ] at h; exact Nat.div_lt_of_lt_mul (by rw [Nat.mul_comm]; exact h))]
    omega
theorem bys_lt : ∀ n x b, b ∈ bysB x n → b < 256 := by
  intro n
  induction n with
  | zero => intro x b h; exact absurd h List.not_mem_nil
  | succ n ih =>
    intro x b h
    rcases List.mem_cons.mp h with q | q
    · subst q; omega
    · exact ih _ b q
theorem bys_len : ∀ n x, (bysB x n).length = n := by
  intro n
  induction n with
  | zero => intro x; rfl
  | succ n ih => intro x; show (bysB (x / 256) n).length + 1 = n + 1; rw [ih]
theorem vl_lt {l : List Nat} (h : ∀ b, b ∈ l → b < 256) : vlB l < 256 ^ l.length := by
  induction l with
  | nil => decide
  | cons b l ih =>
    have hb := h b List.mem_cons_self
    have ih := ih (fun x hx => h x (List.mem_cons_of_mem _ hx))
    show b + 256 * vlB l < 256 ^ (l.length + 1)
    rw [Nat.pow_succ]
    omega
/-- the sum of all bits -/
def popL (x : Nat) : Nat := smF (fun i => (x.testBit i).toNat) 64
def popB (x : Nat) : Nat → Nat
  | 0 => 0
  | n + 1 => pop8 (x % 256) + popB (x / 256) n
theorem popB_sm : ∀ n x, popB x n = smF (fun i => (x.testBit i).toNat) (8 * n) := by
  intro n
  induction n with
  | zero => intro x; rfl
  | succ n ih =>
    intro x
    rw [show 8 * (n + 1) = 8 + 8 * n by omega, smF_split]
    show pop8 (x % 256) + popB (x / 256) n = _
    rw [ih]
    congr 1
    · have e : ∀ i, (x.testBit i).toNat = x / 2 ^ i % 2 := fun i => Nat.toNat_testBit x i
      show pop8 (x % 256) = 0 + (x.testBit 0).toNat + (x.testBit 1).toNat + (x.testBit 2).toNat + (x.testBit 3).toNat + (x.testBit 4).toNat + (x.testBit 5).toNat + (x.testBit 6).toNat + (x.testBit 7).toNat
      rw [e, e, e, e, e, e, e, e]
      unfold pop8
      simp only [show (2 : Nat) ^ 0 = 1 by decide, show (2 : Nat) ^ 1 = 2 by decide, show (2 : Nat) ^ 2 = 4 by decide, show (2 : Nat) ^ 3 = 8 by decide, show (2 : Nat) ^ 4 = 16 by decide, show (2 : Nat) ^ 5 = 32 by decide, show (2 : Nat) ^ 6 = 64 by decide, show (2 : Nat) ^ 7 = 128 by decide]
      omega
    · refine smF_cong (fun i _ => ?_)
      rw [show (256 : Nat) = 2 ^ 8 by decide, Nat.testBit_div_two_pow, Nat.add_comm]
theorem popB_vl : ∀ n x, vlB ((bysB x n).map pop8) = vlB ((bysB x n).map pop8) ∧ ((bysB x n).map pop8).sum = popB x n := by
  intro n
  induction n with
  | zero => intro x; exact ⟨rfl, rfl⟩
  | succ n ih =>
    intro x
    refine ⟨rfl, ?_⟩
    show (pop8 (x % 256) :: (bysB (x / 256) n).map pop8).sum = pop8 (x % 256) + popB (x / 256) n
    rw [List.sum_cons, (ih (x / 256)).2]
theorem fABC : ∀ b, b < 256 → (b / 2 &&& 85) ≤ b ∧ b - (b / 2 &&& 85) < 256 ∧ (((b - (b / 2 &&& 85)) &&& 51) + ((b - (b / 2 &&& 85)) / 4 &&& 51)) % 16 ≤ 4 ∧ (((b - (b / 2 &&& 85)) &&& 51) + ((b - (b / 2 &&& 85)) / 4 &&& 51)) / 16 ≤ 4 ∧ (((((b - (b / 2 &&& 85)) &&& 51) + ((b - (b / 2 &&& 85)) / 4 &&& 51)) + (((b - (b / 2 &&& 85)) &&& 51) + ((b - (b / 2 &&& 85)) / 4 &&& 51)) / 16) % 16) = pop8 b := by decide +kernel
theorem vl_sub {l : List Nat} {g : Nat → Nat} (h : ∀ b, b ∈ l → g b ≤ b) : vlB (l.map g) ≤ vlB l ∧ vlB l - vlB (l.map g) = vlB (l.map (fun b => b - g b)) := by
  induction l with
  | nil => exact ⟨Nat.le_refl _, rfl⟩
  | cons b l ih =>
    have hb := h b List.mem_cons_self
    obtain ⟨i1, i2⟩ := ih (fun x hx => h x (List.mem_cons_of_mem _ hx))
    show (g b + 256 * vlB (l.map g)) ≤ b + 256 * vlB l ∧ (b + 256 * vlB l) - (g b + 256 * vlB (l.map g)) = (b - g b) + 256 * vlB (l.map (fun b => b - g b))
    rw [← i2]
    omega
