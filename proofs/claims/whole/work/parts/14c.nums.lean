/-! Numbers and memory -/
theorem li_0 : (0 : Int32) = nI 0 := rfl
theorem li_1 : (1 : Int32) = nI 1 := rfl
theorem li_2 : (2 : Int32) = nI 2 := rfl
theorem li_3 : (3 : Int32) = nI 3 := rfl
theorem li_4 : (4 : Int32) = nI 4 := rfl
theorem li_5 : (5 : Int32) = nI 5 := rfl
theorem li_6 : (6 : Int32) = nI 6 := rfl
theorem li_7 : (7 : Int32) = nI 7 := rfl
theorem li_8 : (8 : Int32) = nI 8 := rfl
theorem li_9 : (9 : Int32) = nI 9 := rfl
theorem li_10 : (10 : Int32) = nI 10 := rfl
theorem li_11 : (11 : Int32) = nI 11 := rfl
theorem li_12 : (12 : Int32) = nI 12 := rfl
theorem li_13 : (13 : Int32) = nI 13 := rfl
theorem li_14 : (14 : Int32) = nI 14 := rfl
theorem li_15 : (15 : Int32) = nI 15 := rfl
theorem li_16 : (16 : Int32) = nI 16 := rfl
theorem li_17 : (17 : Int32) = nI 17 := rfl
theorem li_18 : (18 : Int32) = nI 18 := rfl
theorem li_19 : (19 : Int32) = nI 19 := rfl
theorem li_20 : (20 : Int32) = nI 20 := rfl
theorem li_21 : (21 : Int32) = nI 21 := rfl
theorem li_22 : (22 : Int32) = nI 22 := rfl
theorem li_23 : (23 : Int32) = nI 23 := rfl
theorem li_24 : (24 : Int32) = nI 24 := rfl
theorem li_25 : (25 : Int32) = nI 25 := rfl
theorem li_26 : (26 : Int32) = nI 26 := rfl
theorem li_27 : (27 : Int32) = nI 27 := rfl
theorem li_28 : (28 : Int32) = nI 28 := rfl
theorem li_29 : (29 : Int32) = nI 29 := rfl
theorem li_30 : (30 : Int32) = nI 30 := rfl
theorem li_31 : (31 : Int32) = nI 31 := rfl
theorem li_32 : (32 : Int32) = nI 32 := rfl
theorem li_33 : (33 : Int32) = nI 33 := rfl
theorem li_34 : (34 : Int32) = nI 34 := rfl
theorem li_35 : (35 : Int32) = nI 35 := rfl
theorem li_36 : (36 : Int32) = nI 36 := rfl
theorem li_37 : (37 : Int32) = nI 37 := rfl
theorem li_38 : (38 : Int32) = nI 38 := rfl
theorem li_39 : (39 : Int32) = nI 39 := rfl
theorem li_40 : (40 : Int32) = nI 40 := rfl
theorem li_41 : (41 : Int32) = nI 41 := rfl
theorem li_42 : (42 : Int32) = nI 42 := rfl
theorem li_43 : (43 : Int32) = nI 43 := rfl
theorem li_44 : (44 : Int32) = nI 44 := rfl
theorem li_45 : (45 : Int32) = nI 45 := rfl
theorem li_46 : (46 : Int32) = nI 46 := rfl
theorem li_47 : (47 : Int32) = nI 47 := rfl
theorem li_48 : (48 : Int32) = nI 48 := rfl
theorem li_49 : (49 : Int32) = nI 49 := rfl
theorem li_50 : (50 : Int32) = nI 50 := rfl
theorem li_51 : (51 : Int32) = nI 51 := rfl
theorem li_52 : (52 : Int32) = nI 52 := rfl
theorem li_53 : (53 : Int32) = nI 53 := rfl
theorem li_54 : (54 : Int32) = nI 54 := rfl
theorem li_55 : (55 : Int32) = nI 55 := rfl
theorem li_56 : (56 : Int32) = nI 56 := rfl
theorem li_57 : (57 : Int32) = nI 57 := rfl
theorem li_58 : (58 : Int32) = nI 58 := rfl
theorem li_59 : (59 : Int32) = nI 59 := rfl
theorem li_60 : (60 : Int32) = nI 60 := rfl
theorem li_61 : (61 : Int32) = nI 61 := rfl
theorem li_62 : (62 : Int32) = nI 62 := rfl
theorem li_63 : (63 : Int32) = nI 63 := rfl
theorem li_64 : (64 : Int32) = nI 64 := rfl
theorem li_65 : (65 : Int32) = nI 65 := rfl
theorem li_66 : (66 : Int32) = nI 66 := rfl
theorem li_67 : (67 : Int32) = nI 67 := rfl
theorem li_68 : (68 : Int32) = nI 68 := rfl
theorem li_69 : (69 : Int32) = nI 69 := rfl
theorem li_75 : (75 : Int32) = nI 75 := rfl
theorem li_97 : (97 : Int32) = nI 97 := rfl
theorem li_99 : (99 : Int32) = nI 99 := rfl
theorem li_100 : (100 : Int32) = nI 100 := rfl
theorem li_101 : (101 : Int32) = nI 101 := rfl
theorem li_102 : (102 : Int32) = nI 102 := rfl
theorem li_120 : (120 : Int32) = nI 120 := rfl
theorem li_122 : (122 : Int32) = nI 122 := rfl
theorem li_127 : (127 : Int32) = nI 127 := rfl
theorem li_139 : (139 : Int32) = nI 139 := rfl
theorem li_187 : (187 : Int32) = nI 187 := rfl
theorem li_222 : (222 : Int32) = nI 222 := rfl
theorem li_223 : (223 : Int32) = nI 223 := rfl
theorem li_224 : (224 : Int32) = nI 224 := rfl
theorem li_225 : (225 : Int32) = nI 225 := rfl
theorem li_226 : (226 : Int32) = nI 226 := rfl
theorem li_255 : (255 : Int32) = nI 255 := rfl
theorem li_256 : (256 : Int32) = nI 256 := rfl
theorem li_299 : (299 : Int32) = nI 299 := rfl
theorem li_400 : (400 : Int32) = nI 400 := rfl
theorem li_465 : (465 : Int32) = nI 465 := rfl
theorem li_522 : (522 : Int32) = nI 522 := rfl
theorem li_523 : (523 : Int32) = nI 523 := rfl
theorem li_571 : (571 : Int32) = nI 571 := rfl
theorem li_849 : (849 : Int32) = nI 849 := rfl
theorem li_999 : (999 : Int32) = nI 999 := rfl
theorem li_1000 : (1000 : Int32) = nI 1000 := rfl
theorem li_1100 : (1100 : Int32) = nI 1100 := rfl
theorem li_1371 : (1371 : Int32) = nI 1371 := rfl
theorem li_1372 : (1372 : Int32) = nI 1372 := rfl
theorem li_1420 : (1420 : Int32) = nI 1420 := rfl
theorem li_1984 : (1984 : Int32) = nI 1984 := rfl
theorem li_2220 : (2220 : Int32) = nI 2220 := rfl
theorem li_5742 : (5742 : Int32) = nI 5742 := rfl
theorem li_6264 : (6264 : Int32) = nI 6264 := rfl
theorem li_9999 : (9999 : Int32) = nI 9999 := rfl
theorem li_10000 : (10000 : Int32) = nI 10000 := rfl
theorem li_12345 : (12345 : Int32) = nI 12345 := rfl
theorem li_32767 : (32767 : Int32) = nI 32767 := rfl
theorem li_65536 : (65536 : Int32) = nI 65536 := rfl
theorem li_1000000 : (1000000 : Int32) = nI 1000000 := rfl
theorem li_252645135 : (252645135 : Int32) = nI 252645135 := rfl
theorem li_858993459 : (858993459 : Int32) = nI 858993459 := rfl
theorem li_1103515245 : (1103515245 : Int32) = nI 1103515245 := rfl
theorem li_1431655765 : (1431655765 : Int32) = nI 1431655765 := rfl
theorem nI_nm {n : Nat} (h : n < 2 ^ 31) : (nI n = -1) = False := by
  refine eq_false fun q => ?_
  have := congrArg Int32.toInt q
  rw [nI_toInt h] at this
  have e : (-1 : Int32).toInt = -1 := rfl
  omega
theorem nI_nm2 {n : Nat} (h : n < 2 ^ 31) : (-1 = nI n) = False := by
  refine eq_false fun q => ?_
  have := congrArg Int32.toInt q
  rw [nI_toInt h] at this
  have e : (-1 : Int32).toInt = -1 := rfl
  omega
theorem nI_nle1 {n : Nat} (h : n < 2 ^ 31) : (nI n ≤ -1) = False := by
  refine eq_false fun q => ?_
  rw [Int32.le_iff_toInt_le, nI_toInt h] at q
  have e : (-1 : Int32).toInt = -1 := rfl
  omega
theorem nI_nlt1 {n : Nat} (h : n < 2 ^ 31) : (nI n < -1) = False := by
  refine eq_false fun q => ?_
  rw [Int32.lt_iff_toInt_lt, nI_toInt h] at q
  have e : (-1 : Int32).toInt = -1 := rfl
  omega
theorem nI_le1 {n : Nat} (h : n < 2 ^ 31) : (-1 ≤ nI n) = True := by
  refine eq_true ?_
  rw [Int32.le_iff_toInt_le, nI_toInt h]
  have e : (-1 : Int32).toInt = -1 := rfl
  omega
theorem nI_lt1 {n : Nat} (h : n < 2 ^ 31) : (-1 < nI n) = True := by
  refine eq_true ?_
  rw [Int32.lt_iff_toInt_lt, nI_toInt h]
  have e : (-1 : Int32).toInt = -1 := rfl
  omega
theorem dd_us {α : Type} {I : Nat → Nat → α} {k : Nat} {f : Nat → α} : dd_u I k f k = f := if_pos rfl
theorem dd_un {α : Type} {I : Nat → Nat → α} {k a : Nat} {f : Nat → α} (h : a ≠ k) : dd_u I k f a = I a := if_neg h
theorem dd_u_u {α : Type} {I : Nat → Nat → α} {k : Nat} {f g : Nat → α} : dd_u (dd_u I k f) k g = dd_u I k g := by
  funext a
  unfold dd_u
  split <;> rfl
theorem dd_u_id {α : Type} {I : Nat → Nat → α} {k : Nat} : dd_u I k (I k) = I := by
  funext a
  unfold dd_u
  split
  · rename_i h; rw [h]
  · rfl
theorem dd_u_sw {α : Type} {I : Nat → Nat → α} {k l : Nat} {f g : Nat → α} (h : k ≠ l) : dd_u (dd_u I k f) l g = dd_u (dd_u I l g) k f := by
  funext a
  unfold dd_u
  by_cases h1 : a = k
  · subst h1; rw [if_neg h, if_pos rfl, if_pos rfl]
  · rw [if_neg h1, if_neg h1]
/-- loops -/
theorem dd_lp (P : Nat → Prop) (n : Nat) (h1 : P n) (hs : ∀ i, i < n → P (i + 1) → P i) : P 0 := by
  have : ∀ k, k ≤ n → P (n - k) := by
    intro k
    induction k with
    | zero => intro _; exact h1
    | succ k ih =>
      intro hk
      have := ih (by omega)
      refine hs (n - (k + 1)) (by omega) ?_
      rw [show n - (k + 1) + 1 = n - k by omega]
      exact this
  have h := this n (Nat.le_refl n)
  rw [Nat.sub_self] at h
  exact h
def lpf {α : Type} (f : Nat → α → α) (a : α) : Nat → α
  | 0 => a
  | n + 1 => f n (lpf f a n)
def anyN (p : Nat → Bool) : Nat → Bool
  | 0 => false
  | n + 1 => anyN p n || p n
theorem anyN_iff (p : Nat → Bool) (n : Nat) : anyN p n = true ↔ ∃ i, i < n ∧ p i = true := by
  induction n with
  | zero => exact ⟨fun h => by simp [anyN] at h, fun ⟨i, h, _⟩ => absurd h (Nat.not_lt_zero i)⟩
  | succ n ih =>
    rw [anyN, Bool.or_eq_true, ih]
    constructor
    · rintro (⟨i, h, h2⟩ | h)
      · exact ⟨i, by omega, h2⟩
      · exact ⟨n, by omega, h⟩
    · rintro ⟨i, h, h2⟩
      by_cases e : i = n
      · subst e; exact Or.inr h2
      · exact Or.inl ⟨i, by omega, h2⟩
theorem anyN_no (p : Nat → Bool) (n : Nat) : anyN p n = false ↔ ∀ i, i < n → p i = false := by
  have := anyN_iff p n
  constructor
  · intro h i hi
    cases hp : p i with
    | false => rfl
    | true => rw [this.mpr ⟨i, hi, hp⟩] at h; cases h
  · intro h
    cases hp : anyN p n with
    | false => rfl
    | true =>
      obtain ⟨i, hi, h2⟩ := this.mp hp
      rw [h i hi] at h2; cases h2
theorem anyN_cong {p q : Nat → Bool} : ∀ {n : Nat}, (∀ i, i < n → p i = q i) → anyN p n = anyN q n := by
  intro n
  induction n with
  | zero => intro _; rfl
  | succ n ih => intro h; rw [anyN, anyN, ih (fun i hi => h i (by omega)), h n (by omega)]
def allN (p : Nat → Bool) : Nat → Bool
  | 0 => true
  | n + 1 => allN p n && p n
theorem allN_iff (p : Nat → Bool) (n : Nat) : allN p n = true ↔ ∀ i, i < n → p i = true := by
  induction n with
  | zero => exact ⟨fun _ i h => absurd h (Nat.not_lt_zero i), fun _ => rfl⟩
  | succ n ih =>
    rw [allN, Bool.and_eq_true, ih]
    constructor
    · rintro ⟨h, h2⟩ i hi
      by_cases e : i = n
      · subst e; exact h2
      · exact h i (by omega)
    · intro h
      exact ⟨fun i hi => h i (by omega), h n (by omega)⟩
theorem lpf_cong {α : Type} {f g : Nat → α → α} {a : α} : ∀ {n : Nat}, (∀ i x, i < n → f i x = g i x) → lpf f a n = lpf g a n := by
  intro n
  induction n with
  | zero => intro _; rfl
  | succ n ih => intro h; rw [lpf, lpf, ih (fun i x hi => h i x (by omega)), h n _ (by omega)]
/-- a truth as an int -/
def bI (b : Bool) : Int32 := if b then 1 else 0
theorem bI_t : bI true = 1 := rfl
theorem bI_f : bI false = 0 := rfl
theorem bI_0 (b : Bool) : (bI b = 0) = (b = false) := by cases b <;> simp [bI]
theorem bI_1 (b : Bool) : (bI b = 1) = (b = true) := by cases b <;> simp [bI]
theorem bI_01 (b : Bool) : bI b = 0 ∨ bI b = 1 := by cases b <;> simp [bI]
theorem bI_c (b : Bool) : bI b = nI b.toNat := by cases b <;> rfl
/-- a number, or none -/
def oI (o : Option Nat) : Int32 := match o with | none => -1 | some n => nI n
theorem oI_n : oI none = -1 := rfl
theorem oI_s (n : Nat) : oI (some n) = nI n := rfl
