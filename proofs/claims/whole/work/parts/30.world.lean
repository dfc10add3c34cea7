/-! The world as numbers, and what the model does with it -/
def upw (w : Nat → Nat) (j v : Nat) : Nat → Nat := fun i => if i = j then v else w i
theorem upw_eq {w : Nat → Nat} {j v : Nat} : upw w j v j = v := if_pos rfl
theorem upw_ne {w : Nat → Nat} {j v i : Nat} (h : i ≠ j) : upw w j v i = w i := if_neg h
def gap (a b : Nat) : Nat := (a % 8 - b % 8) + (b % 8 - a % 8) + ((a / 8 - b / 8) + (b / 8 - a / 8))
/-- the model's world -/
def RM (w : Nat → Nat) (I : Nat → Nat → Int32) : Prop := ∀ j, j < 1371 → I 149 j = nI (w j)
theorem RM.upd {w : Nat → Nat} {I : Nat → Nat → Int32} (h : RM w I) (j v : Nat) : RM (upw w j v) (dd_u I 149 (upd (I 149) j (nI v))) := by
  intro i hi
  rw [dd_us]
  by_cases e : i = j
  · subst e; rw [pk_us, upw_eq]
  · rw [pk_un e, upw_ne e]; exact h i hi
theorem RM.of {w : Nat → Nat} {I I' : Nat → Nat → Int32} (h : RM w I) (e : I' 149 = I 149) : RM w I' := fun j hj => by rw [e]; exact h j hj
/-- one step to a side, if one can go there -/
def stp (w : Nat → Nat) (c side : Nat) : Nat :=
  if side = 1 then (if 8 ≤ c ∧ ¬ w (11 + (c - 8)) = 1 then c - 8 else c)
  else if side = 2 then (if c % 8 < 7 ∧ ¬ w (11 + (c + 1)) = 1 then c + 1 else c)
  else if side = 3 then (if c < 56 ∧ ¬ w (11 + (c + 8)) = 1 then c + 8 else c)
  else if side = 4 then (if 0 < c % 8 ∧ ¬ w (11 + (c - 1)) = 1 then c - 1 else c)
  else c
def adf (a b : Nat) : Nat := (a - b) + (b - a)
def nrx (w : Nat → Nat) (c : Nat) : Nat := if w 4 % 8 = c % 8 then c else if c % 8 < w 4 % 8 then stp w c 2 else stp w c 4
def nry (w : Nat → Nat) (c : Nat) : Nat := if w 4 / 8 = c / 8 then c else if c / 8 < w 4 / 8 then stp w c 3 else stp w c 1
def nrr (w : Nat → Nat) (c : Nat) : Nat :=
  if ¬ w 4 % 8 = c % 8 ∧ adf (w 4 / 8) (c / 8) ≤ adf (w 4 % 8) (c % 8) then (if nrx w c = c then nry w c else nrx w c) else (if nry w c = c then nrx w c else nry w c)
def cby (w : Nat → Nat) (c note : Nat) : Nat := if note = 0 then nrr w c else if note ≤ 4 then stp w c note else c
/-- what the law asks of one -/
def fct (w : Nat → Nat) (b : Nat) : Nat → Nat := fun i =>
  if i = 0 then b else if i = 1 then w (187 + 5 * b + 1) else if i = 2 then w (187 + 5 * b + 2) else if i = 3 then w (187 + 5 * b) % 8
  else if i = 4 then w (187 + 5 * b) / 8 else if i = 5 then gap (w (187 + 5 * b)) (w 4) else if i = 6 then w (187 + 5 * b + 4) else w 7
def fv (F : Nat → Nat) (sil fer : Bool) (code n : Nat) : Nat := if code < 8 then F code else if code = 8 then sil.toNat else if code = 9 then fer.toNat else n
def opv (code a b : Nat) : Nat :=
  if code = 11 then a + b else if code = 12 then (decide (a < b)).toNat else if code = 13 then (decide (b < a)).toNat
  else if code = 15 then (decide (a + b = 2)).toNat else (decide (0 < a + b)).toNat
def evS (w F : Nat → Nat) (sil fer : Bool) (i : Nat) (s : Nat × (Nat → Nat)) : Nat × (Nat → Nat) :=
  if w (571 + 2 * i) ≤ 10 then (s.1 + 1, upw s.2 s.1 (fv F sil fer (w (571 + 2 * i)) (w (571 + 2 * i + 1))))
  else if w (571 + 2 * i) = 14 then (s.1, upw s.2 (s.1 - 1) (1 - s.2 (s.1 - 1)))
  else (s.1 - 1, upw s.2 (s.1 - 2) (opv (w (571 + 2 * i)) (s.2 (s.1 - 2)) (s.2 (s.1 - 1))))
def evA (w F : Nat → Nat) (sil fer : Bool) (a : Nat) : Nat → Nat × (Nat → Nat)
  | 0 => (0, fun _ => 0)
  | n + 1 => evS w F sil fer (a + n) (evA w F sil fer a n)
def hldL (w F : Nat → Nat) (sil fer : Bool) (n : Nat) : Bool :=
  decide ((evA w F sil fer (w (523 + 4 * n + 2)) (w (523 + 4 * n + 3) - w (523 + 4 * n + 2))).1 = 0) || decide ((evA w F sil fer (w (523 + 4 * n + 2)) (w (523 + 4 * n + 3) - w (523 + 4 * n + 2))).2 0 = 1)
def sumA (w F : Nat → Nat) (sil fer : Bool) (kind : Nat) : Nat → Nat := lpf (fun n a => if w (523 + 4 * n) = kind ∧ hldL w F sil fer n = true then a + w (523 + 4 * n + 1) else a) 0
def sumL (w F : Nat → Nat) (sil fer : Bool) (kind : Nat) : Nat := if w 3 = 1 then sumA w F sil fer kind (w 522) else 0
/-- a step of a line's reckoning goes well -/
def okE (e : Nat × (Nat → Nat)) : Prop := e.1 ≤ 400 ∧ ∀ j, j < e.1 → e.2 j ≤ 400000
def okS (w : Nat → Nat) (i : Nat) (e : Nat × (Nat → Nat)) : Prop :=
  w (571 + 2 * i) ≤ 16 ∧ w (571 + 2 * i + 1) ≤ 999 ∧ (w (571 + 2 * i) ≤ 10 → e.1 < 400) ∧ (w (571 + 2 * i) = 14 → 1 ≤ e.1 ∧ e.2 (e.1 - 1) ≤ 1)
  ∧ (10 < w (571 + 2 * i) → ¬ w (571 + 2 * i) = 14 → 2 ≤ e.1)
def okN (w : Nat → Nat) (n : Nat) : Prop :=
  w (523 + 4 * n) ≤ 2 ∧ w (523 + 4 * n + 1) ≤ 20 ∧ w (523 + 4 * n + 2) ≤ w (523 + 4 * n + 3) ∧ w (523 + 4 * n + 3) ≤ 400
  ∧ ∀ (F : Nat → Nat) (sil fer : Bool), (∀ i, i < 8 → F i ≤ 999) → (∀ i, i ≤ w (523 + 4 * n + 3) - w (523 + 4 * n + 2) → okE (evA w F sil fer (w (523 + 4 * n + 2)) i)) ∧ ∀ i, i < w (523 + 4 * n + 3) - w (523 + 4 * n + 2) → okS w (w (523 + 4 * n + 2) + i) (evA w F sil fer (w (523 + 4 * n + 2)) i)
def LawOK (w : Nat → Nat) : Prop := w 3 ≤ 1 ∧ (w 3 = 1 → w 522 ≤ 12 ∧ ∀ n, n < w 522 → okN w n)
def hrs (w F : Nat → Nat) (loud fern note : Nat) : Bool :=
  decide (F 5 + fern + sumL w F (decide (note = 0)) (decide (0 < fern)) 1 ≤ F 2 + loud + sumL w F (decide (note = 0)) (decide (0 < fern)) 0)
def sts (w F : Nat → Nat) (fern note : Nat) : Bool := decide (0 < sumL w F (decide (note = 0)) (decide (0 < fern)) 2)
/-- of a boy -/
def hrB (w : Nat → Nat) (b note : Nat) : Bool := hrs w (fct w b) (w 5) (w (75 + w (187 + 5 * b))) note
def stB (w : Nat → Nat) (b note : Nat) : Bool := sts w (fct w b) (w (75 + w (187 + 5 * b))) note
def ntB (w : Nat → Nat) (b : Nat) : Nat := w (139 + 8 * w (187 + 5 * b + 1) + w 7)
def ist (w : Nat → Nat) (b c : Nat) : Nat → Nat := if c = w 4 then upw (upw w (187 + 5 * b) c) (187 + 5 * b + 3) 1 else upw w (187 + 5 * b) c
def gbW (w : Nat → Nat) (b note : Nat) : Nat → Nat :=
  if w (187 + 5 * b + 3) = 1 ∨ stB w b note = true ∨ hrB w b note = false then w else ist w b (cby w (w (187 + 5 * b)) note)
def gbS (w : Nat → Nat) (b note : Nat) : Bool := decide (¬ w (187 + 5 * b + 3) = 1) && !stB w b note && !hrB w b note
def tel (w : Nat → Nat) (b what : Nat) : Nat → Nat := fun j =>
  if j = 9 then min 60 (w 9 + 1) else if j < 222 ∨ 522 ≤ j then w j
  else if j = 222 then w 8 else if j = 223 then w 7 else if j = 224 then b else if j = 225 then what else if j = 226 then w (187 + 5 * b) else w (j - 5)
def drw (w : Nat → Nat) : Nat → Nat := upw w 10 ((1103515245 * w 10 + 12345) % 2 ^ 32)
def drn (w : Nat → Nat) (n : Nat) : Nat := (((1103515245 * w 10 + 12345) % 2 ^ 32) / 65536 % 32768) % n
def str2 (w : Nat → Nat) (b : Nat) : Nat → Nat := ist (drw w) b (stp (drw w) ((drw w) (187 + 5 * b)) (1 + drn w 4))
def str3 (w : Nat → Nat) (b : Nat) : Nat → Nat := upw (str2 w b) (187 + 5 * b + 4) (min 99 (str2 w b (187 + 5 * b + 4) + 1))
def stry (w : Nat → Nat) (b : Nat) : Nat → Nat := if w 6 ≤ drn w 100 then drw w else tel (str3 (drw w) b) b 1
def bend (w : Nat → Nat) : Nat → Nat := if w 7 + 1 < 8 then upw w 7 (w 7 + 1) else upw (upw w 7 0) 8 (min 9999 (w 8 + 1))
def oneG (calm : Bool) (w : Nat → Nat) (b : Nat) : Nat → Nat := if gbS w b (ntB w b) && !calm then stry (gbW w b (ntB w b)) b else gbW w b (ntB w b)
def oneB (calm : Bool) (b : Nat) (w : Nat → Nat) : Nat → Nat := if w (187 + 5 * b + 3) = 1 then w else if oneG calm w b (187 + 5 * b + 3) = 1 then tel (oneG calm w b) b 0 else oneG calm w b
def oneC (calm : Bool) (b : Nat) (w : Nat → Nat) : Nat := if w (187 + 5 * b + 3) = 1 then 0 else if oneG calm w b (187 + 5 * b + 3) = 1 then 1 else 0
def boysA (calm : Bool) (w : Nat → Nat) : Nat → (Nat → Nat) × Nat := lpf (fun b a => (oneB calm b a.1, a.2 + oneC calm b a.1)) (w, 0)
def beatA (calm : Bool) (w : Nat → Nat) : (Nat → Nat) × Nat := (bend (boysA calm w (w 1)).1, (boysA calm w (w 1)).2)
def goA (calm : Bool) (w : Nat → Nat) : Nat → (Nat → Nat) × Nat := lpf (fun _ a => ((beatA calm a.1).1, a.2 + (beatA calm a.1).2)) (w, 0)
/-- bounds -/
def okB (w : Nat → Nat) (b : Nat) : Prop := b ≤ 6 ∧ w (187 + 5 * b) < 64 ∧ w (187 + 5 * b + 1) < 6 ∧ w (187 + 5 * b + 2) ≤ 15 ∧ w (187 + 5 * b + 3) ≤ 1 ∧ w (187 + 5 * b + 4) ≤ 99
def okW (w : Nat → Nat) : Prop := w 0 ≤ 6 ∧ w 1 ≤ 6 ∧ w 2 ≤ 12 ∧ w 4 < 64 ∧ w 5 ≤ 15 ∧ w 6 ≤ 100 ∧ w 7 < 8 ∧ w 8 ≤ 9999 ∧ w 9 ≤ 60 ∧ w 10 < 2 ^ 32
def okT (w : Nat → Nat) : Prop := ∀ c, c < 64 → w (11 + c) ≤ 1 ∧ w (75 + c) ≤ 9
def okP (w : Nat → Nat) : Prop := ∀ p, p < 6 → ∀ b, b < 8 → w (139 + 8 * p + b) ≤ 9
def OKW (w : Nat → Nat) : Prop := okW w ∧ okT w ∧ okP w ∧ (∀ b, b ≤ 6 → okB w b) ∧ LawOK w
/-- what a call may change: cells of A, places of B in the model's own cell -/
def FR (z : Nat) (A B : List Nat) (I I' : Nat → Nat → Int32) : Prop := (∀ k, k ∉ A → k ≠ z → I' k = I k) ∧ (∀ j, j ∉ B → I' z j = I z j)
theorem FR.refl {z : Nat} {A B : List Nat} (I : Nat → Nat → Int32) : FR z A B I I := ⟨fun _ _ _ => rfl, fun _ _ => rfl⟩
theorem FR.trans {z : Nat} {A B : List Nat} {I J K : Nat → Nat → Int32} (h : FR z A B I J) (h2 : FR z A B J K) : FR z A B I K :=
  ⟨fun k a b => (h2.1 k a b).trans (h.1 k a b), fun j a => (h2.2 j a).trans (h.2 j a)⟩
theorem FR.mono {z : Nat} {A B A' B' : List Nat} {I J : Nat → Nat → Int32} (h : FR z A B I J) (ha : ∀ x, x ∈ A → x ∈ A') (hb : ∀ x, x ∈ B → x ∈ B') : FR z A' B' I J :=
  ⟨fun k a b => h.1 k (fun q => a (ha k q)) b, fun j a => h.2 j (fun q => a (hb j q))⟩
theorem FR.u {z : Nat} {A B : List Nat} {I J : Nat → Nat → Int32} (h : FR z A B I J) {k : Nat} {f : Nat → Int32} (hk : k ∈ A) (h8 : k ≠ z) : FR z A B I (dd_u J k f) :=
  ⟨fun i a b => by
    have ne : i ≠ k := fun e => a (by rw [e]; exact hk)
    rw [dd_un ne]; exact h.1 i a b, fun j a => by
    have ne : z ≠ k := fun e => h8 e.symm
    rw [dd_un ne]; exact h.2 j a⟩
theorem FR.v {z : Nat} {A B : List Nat} {I J : Nat → Nat → Int32} (h : FR z A B I J) {j : Nat} {v : Int32} (hj : j ∈ B) : FR z A B I (dd_u J z (upd (J z) j v)) :=
  ⟨fun i a b => by rw [dd_un b]; exact h.1 i a b, fun i a => by
    have ne : i ≠ j := fun e => a (by rw [e]; exact hj)
    rw [dd_us, pk_un ne]; exact h.2 i a⟩
abbrev FW (I I' : Nat → Nat → Int32) : Prop := FR 148 [149, 156] [18] I I'
/-! calls by contract, in the caller's words -/
theorem dd_qI {Ln c s : Nat} {I : Nat → Nat → Int32} {L : Nat → Nat → Int64} {v r : Int32} {K : Int32 → (Nat → Nat → Int32) → (Nat → Nat → Int64) → Prop} (h : v = r) (k : K r I L) : dd_RI Ln c s K (none, .int v, sM Ln I L c s) := ⟨v, I, L, rfl, h ▸ k⟩
theorem dd_qi {Ln c s : Nat} {I : Nat → Nat → Int32} {L : Nat → Nat → Int64} {v : Int32} {K : Int32 → (Nat → Nat → Int32) → (Nat → Nat → Int64) → Prop} (k : K v I L) : dd_RI Ln c s K (none, .int v, sM Ln I L c s) := ⟨v, I, L, rfl, k⟩
theorem dd_qV {Ln c s : Nat} {I : Nat → Nat → Int32} {L : Nat → Nat → Int64} {K : (Nat → Nat → Int32) → (Nat → Nat → Int64) → Prop} (k : K I L) : dd_RV Ln c s K (none, .null, sM Ln I L c s) := ⟨I, L, rfl, k⟩
theorem dd_qL {Ln c s : Nat} {I : Nat → Nat → Int32} {L : Nat → Nat → Int64} {v r : Int64} {K : Int64 → (Nat → Nat → Int32) → (Nat → Nat → Int64) → Prop} (h : v = r) (k : K r I L) : dd_RL Ln c s K (none, .long v, sM Ln I L c s) := ⟨v, I, L, rfl, h ▸ k⟩
/-! numbers -/
theorem abs_nI {a b : Nat} (ha : a < 2 ^ 30) (hb : b < 2 ^ 30) : (if 0 ≤ nI a - nI b then nI a - nI b else 0 - (nI a - nI b)) = nI (adf a b) := by
  have h := pk_sub_toInt ha hb
  unfold adf
  by_cases q : b ≤ a
  · rw [if_pos, pk_sub q, show a - b + (b - a) = a - b by omega]
    rw [Int32.le_iff_toInt_le, h]
    have : (0 : Int32).toInt = 0 := rfl
    omega
  · rw [if_neg, Int32.zero_sub, Int32.neg_sub, pk_sub (by omega : a ≤ b), show a - b + (b - a) = b - a by omega]
    rw [Int32.le_iff_toInt_le, h]
    have : (0 : Int32).toInt = 0 := rfl
    omega
theorem and7 {n : Nat} (h : n < 2 ^ 32) : nI n &&& 7 = nI (n % 8) := pk_andN h 3 (by decide)
theorem shr3 {n : Nat} (h : n < 2 ^ 31) : nI n >>> ((3 : Int32) &&& 31) = nI (n / 8) := pk_shrN h _ 3 (by decide)
theorem gap_adf (a b : Nat) : gap a b = adf (a % 8) (b % 8) + adf (a / 8) (b / 8) := rfl
theorem m1_0 : nI 0 + (-1) = -1 := by decide
theorem ck_and {a b : Prop} (h : a) : (a ∧ b) = b := propext ⟨fun x => x.2, fun x => ⟨h, x⟩⟩
theorem im_t {a b : Prop} (h : a) : (a → b) = b := propext ⟨fun x => x h, fun x _ => x⟩
theorem im_f {a b : Prop} (h : ¬ a) : (a → b) = True := propext ⟨fun _ => trivial, fun _ x => absurd x h⟩
theorem sdm (a b : Nat) : a - a / b * b = a % b := by
  have h := Nat.div_add_mod a b
  rw [Nat.mul_comm] at h
  omega
theorem RM.g {w : Nat → Nat} {I : Nat → Nat → Int32} (h : RM w I) {j : Nat} (hj : j < 1371) : I 149 j = nI (w j) := h j hj
theorem RM.set {w : Nat → Nat} {I : Nat → Nat → Int32} {f : Nat → Int32} (h : ∀ j, j < 1371 → f j = nI (w j)) : RM w (dd_u I 149 f) := fun j hj => by rw [dd_us]; exact h j hj
theorem nu {w : Nat → Nat} {f : Nat → Int32} {N : Nat} (h : ∀ j, j < N → f j = nI (w j)) (j v : Nat) : ∀ i, i < N → upd f j (nI v) i = nI (upw w j v i) := by
  intro i hi
  by_cases e : i = j
  · subst e; rw [pk_us, upw_eq]
  · rw [pk_un e, upw_ne e]; exact h i hi
theorem dz {a b : Nat} (ha : a < 2 ^ 30) (hb : b < 2 ^ 30) : (nI a - nI b = nI 0) = (a = b) := by
  apply propext
  have h := pk_sub_toInt ha hb
  constructor
  · intro q
    rw [q] at h
    have : (nI 0).toInt = 0 := rfl
    omega
  · intro q
    subst q
    rw [pk_sub (Nat.le_refl a), Nat.sub_self]
theorem dle {a b : Nat} (ha : a < 2 ^ 30) (hb : b < 2 ^ 30) : (nI a - nI b ≤ nI 0) = (a ≤ b) := by
  apply propext
  have h := pk_sub_toInt ha hb
  have : (nI 0).toInt = 0 := rfl
  rw [Int32.le_iff_toInt_le, h]
  omega
theorem abs_n0 {a b : Nat} (ha : a < 2 ^ 30) (hb : b < 2 ^ 30) : (if nI 0 ≤ nI a - nI b then nI a - nI b else nI 0 - (nI a - nI b)) = nI (adf a b) := abs_nI ha hb
theorem stp1 {w : Nat → Nat} {c : Nat} (h : 8 ≤ c) : stp w c 1 = if w (11 + (c - 8)) = 1 then c else c - 8 := by
  unfold stp
  rw [if_pos rfl]
  by_cases q : w (11 + (c - 8)) = 1
  · rw [if_pos q, if_neg (fun x => x.2 q)]
  · rw [if_neg q, if_pos ⟨h, q⟩]
theorem stp2 {w : Nat → Nat} {c : Nat} (h : c % 8 < 7) : stp w c 2 = if w (11 + (c + 1)) = 1 then c else c + 1 := by
  unfold stp
  rw [if_neg (by decide), if_pos rfl]
  by_cases q : w (11 + (c + 1)) = 1
  · rw [if_pos q, if_neg (fun x => x.2 q)]
  · rw [if_neg q, if_pos ⟨h, q⟩]
theorem stp3 {w : Nat → Nat} {c : Nat} (h : c < 56) : stp w c 3 = if w (11 + (c + 8)) = 1 then c else c + 8 := by
  unfold stp
  rw [if_neg (by decide), if_neg (by decide), if_pos rfl]
  by_cases q : w (11 + (c + 8)) = 1
  · rw [if_pos q, if_neg (fun x => x.2 q)]
  · rw [if_neg q, if_pos ⟨h, q⟩]
theorem stp4 {w : Nat → Nat} {c : Nat} (h : 0 < c % 8) : stp w c 4 = if w (11 + (c - 1)) = 1 then c else c - 1 := by
  unfold stp
  rw [if_neg (by decide), if_neg (by decide), if_neg (by decide), if_pos rfl]
  by_cases q : w (11 + (c - 1)) = 1
  · rw [if_pos q, if_neg (fun x => x.2 q)]
  · rw [if_neg q, if_pos ⟨h, q⟩]
theorem stp1o {w : Nat → Nat} {c : Nat} (h : ¬ 8 ≤ c) : stp w c 1 = c := by
  unfold stp
  rw [if_pos rfl, if_neg (fun x => h x.1)]
theorem stp2o {w : Nat → Nat} {c : Nat} (h : ¬ c % 8 < 7) : stp w c 2 = c := by
  unfold stp
  rw [if_neg (by decide), if_pos rfl, if_neg (fun x => h x.1)]
theorem stp3o {w : Nat → Nat} {c : Nat} (h : ¬ c < 56) : stp w c 3 = c := by
  unfold stp
  rw [if_neg (by decide), if_neg (by decide), if_pos rfl, if_neg (fun x => h x.1)]
theorem stp4o {w : Nat → Nat} {c : Nat} (h : ¬ 0 < c % 8) : stp w c 4 = c := by
  unfold stp
  rw [if_neg (by decide), if_neg (by decide), if_neg (by decide), if_pos rfl, if_neg (fun x => h x.1)]
theorem stp_o {w : Nat → Nat} {c s : Nat} (h : s = 0 ∨ 4 < s) : stp w c s = c := by
  unfold stp
  rw [if_neg (by omega), if_neg (by omega), if_neg (by omega), if_neg (by omega)]
theorem stp_lt {w : Nat → Nat} {c s : Nat} (h : c < 64) : stp w c s < 64 := by
  unfold stp
  split
  · split <;> omega
  · split
    · split <;> omega
    · split
      · split <;> omega
      · split
        · split <;> omega
        · exact h
theorem nrx_lt {w : Nat → Nat} {c : Nat} (h : c < 64) : nrx w c < 64 := by
  unfold nrx
  split
  · exact h
  · split <;> exact stp_lt h
theorem nry_lt {w : Nat → Nat} {c : Nat} (h : c < 64) : nry w c < 64 := by
  unfold nry
  split
  · exact h
  · split <;> exact stp_lt h
theorem nrr_lt {w : Nat → Nat} {c : Nat} (h : c < 64) : nrr w c < 64 := by
  unfold nrr
  split
  · split
    · exact nry_lt h
    · exact nrx_lt h
  · split
    · exact nrx_lt h
    · exact nry_lt h
theorem cby_lt {w : Nat → Nat} {c n : Nat} (h : c < 64) : cby w c n < 64 := by
  unfold cby
  split
  · exact nrr_lt h
  · split
    · exact stp_lt h
    · exact h
theorem sb_m1n {p : Nat} (h : 0 < p) : nI p + -nI 1 = nI (p - 1) := sb_m1 h
theorem nmn1 {n : Nat} (h : n < 2 ^ 31) : (nI n = -nI 1) = False := nI_nm h
theorem nmn2 {n : Nat} (h : n < 2 ^ 31) : (-nI 1 = nI n) = False := nI_nm2 h
theorem nmn3 {n : Nat} (h : n < 2 ^ 31) : (nI n ≤ -nI 1) = False := nI_nle1 h
theorem nmn4 {n : Nat} (h : n < 2 ^ 31) : (nI n < -nI 1) = False := nI_nlt1 h
theorem nmn5 {n : Nat} (h : n < 2 ^ 31) : (-nI 1 ≤ nI n) = True := nI_le1 h
theorem nmn6 {n : Nat} (h : n < 2 ^ 31) : (-nI 1 < nI n) = True := nI_lt1 h
theorem bI_0n (b : Bool) : (bI b = nI 0) = (b = false) := bI_0 b
theorem bI_1n (b : Bool) : (bI b = nI 1) = (b = true) := bI_1 b
