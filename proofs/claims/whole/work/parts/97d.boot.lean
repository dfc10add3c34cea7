/-! THE FIRST THREE new OF THE LAW: a smaller machine still, over lists -/
abbrev bA : Type := List (Nat × Nat) × List (Nat × Nat × Nat) × List (Nat × Nat × Int32) × Nat
abbrev bC : Type := Nat × List Value × List Value × bA
def lkR : List (Nat × Nat × Nat) → Nat → Nat → Nat
  | [], _, _ => 0
  | (a, b, v) :: r, k, j => match Nat.beq a k && Nat.beq b j with
    | true => v
    | false => lkR r k j
def lkI : List (Nat × Nat × Int32) → Nat → Nat → Int32
  | [], _, _ => 0
  | (a, b, v) :: r, k, j => match Nat.beq a k && Nat.beq b j with
    | true => v
    | false => lkI r k j
def shB (Ln : Nat) (S : List (Nat × Nat)) (k : Nat) : Nat × Nat := if k < 1000000 then S.getD k (60, 0) else dd_sh0 Ln k
def rfB (R : List (Nat × Nat × Nat)) (k j : Nat) : Nat := if k < 1000000 then lkR R k j else dd_rf0 k j
def iB (xs : Nat → Int32) (Q : List (Nat × Nat × Int32)) (k j : Nat) : Int32 := if k < 1000000 then lkI Q k j else dd_fI xs k j
def bS (Ln : Nat) (xs : Nat → Int32) (A : bA) : dd_M := (A.1.length, shB Ln A.1, rfB A.2.1, iB xs A.2.2.1, fun _ _ => 0, A.1.length, A.2.2.2)
theorem lkR_c {a b v k j : Nat} {r : List (Nat × Nat × Nat)} : lkR ((a, b, v) :: r) k j = if a = k ∧ b = j then v else lkR r k j := by
  rw [lkR]
  by_cases h : a = k ∧ b = j
  · obtain ⟨rfl, rfl⟩ := h
    rw [Nat.beq_refl, Nat.beq_refl, if_pos ⟨rfl, rfl⟩]; rfl
  · rw [if_neg h]
    cases e1 : Nat.beq a k with
    | false => rfl
    | true => cases e2 : Nat.beq b j with
      | false => rfl
      | true => exact absurd ⟨Nat.eq_of_beq_eq_true e1, Nat.eq_of_beq_eq_true e2⟩ h
theorem lkI_c {a b k j : Nat} {v : Int32} {r : List (Nat × Nat × Int32)} : lkI ((a, b, v) :: r) k j = if a = k ∧ b = j then v else lkI r k j := by
  rw [lkI]
  by_cases h : a = k ∧ b = j
  · obtain ⟨rfl, rfl⟩ := h
    rw [Nat.beq_refl, Nat.beq_refl, if_pos ⟨rfl, rfl⟩]; rfl
  · rw [if_neg h]
    cases e1 : Nat.beq a k with
    | false => rfl
    | true => cases e2 : Nat.beq b j with
      | false => rfl
      | true => exact absurd ⟨Nat.eq_of_beq_eq_true e1, Nat.eq_of_beq_eq_true e2⟩ h
theorem lkR_o {p : Nat × Nat × Nat → Bool} {k j : Nat} (hp : ∀ v, p (k, j, v) = false) : ∀ (R : List (Nat × Nat × Nat)), R.all p = true → lkR R k j = 0 := by
  intro R
  induction R with
  | nil => intro _; rfl
  | cons x R ih =>
    obtain ⟨a, b, v⟩ := x
    intro h
    rw [List.all_cons, Bool.and_eq_true] at h
    rw [lkR_c, if_neg (fun q => by obtain ⟨rfl, rfl⟩ := q; rw [hp v] at h; cases h.1)]
    exact ih h.2
theorem lkI_o {p : Nat × Nat × Int32 → Bool} {k j : Nat} (hp : ∀ v, p (k, j, v) = false) : ∀ (R : List (Nat × Nat × Int32)), R.all p = true → lkI R k j = 0 := by
  intro R
  induction R with
  | nil => intro _; rfl
  | cons x R ih =>
    obtain ⟨a, b, v⟩ := x
    intro h
    rw [List.all_cons, Bool.and_eq_true] at h
    rw [lkI_c, if_neg (fun q => by obtain ⟨rfl, rfl⟩ := q; rw [hp v] at h; cases h.1)]
    exact ih h.2
theorem getD_o {α : Type} {d : α} : ∀ (l : List α) (i : Nat), l.length ≤ i → l.getD i d = d := by
  intro l
  induction l with
  | nil => intro i _; cases i <;> rfl
  | cons a l ih =>
    intro i h
    cases i with
    | zero => exact absurd h (by simp)
    | succ i => exact ih i (by simpa using h)
def fr (A : bA) : Bool := A.2.1.all (fun t => Nat.blt t.1 A.1.length) && A.2.2.1.all (fun t => Nat.blt t.1 A.1.length)
def nwA (A : bA) (kd sz : Nat) : bA := (A.1 ++ [(kd, sz)], A.2.1, A.2.2.1, A.2.2.2 + sz)
theorem blt_n (n : Nat) : Nat.blt n n = false := by
  cases h : Nat.blt n n with
  | false => rfl
  | true => exact absurd (Nat.le_of_ble_eq_true h) (by omega)
theorem bS_nw {Ln : Nat} {xs : Nat → Int32} {A : bA} {kd sz : Nat} (hn : A.1.length < 100000) (hf : fr A = true) : dd_nw (bS Ln xs A) kd sz = bS Ln xs (nwA A kd sz) := by
  obtain ⟨S, R, Q, s⟩ := A
  have hn : S.length < 100000 := hn
  have hf : (R.all (fun t => Nat.blt t.1 S.length) && Q.all (fun t => Nat.blt t.1 S.length)) = true := hf
  rw [Bool.and_eq_true] at hf
  have e1 : (fun a => if a = S.length then (kd, sz) else shB Ln S a) = shB Ln (S ++ [(kd, sz)]) := by
    funext a
    unfold shB
    by_cases h1 : a = S.length
    · subst h1; rw [if_pos rfl, if_pos (by omega), getD_app]
    · rw [if_neg h1]
      by_cases h2 : a < 1000000
      · rw [if_pos h2, if_pos h2]
        by_cases h3 : a < S.length
        · rw [getD_app' S a h3]
        · rw [getD_o S a (by omega), getD_o (S ++ [(kd, sz)]) a (by rw [List.length_append]; show S.length + 1 ≤ a; omega)]
      · rw [if_neg h2, if_neg h2]
  have e2 : dd_u (rfB R) S.length (fun _ => 0) = rfB R := by
    funext a j
    unfold dd_u
    by_cases h1 : a = S.length
    · subst h1; rw [if_pos rfl]
      unfold rfB
      rw [if_pos (by omega), lkR_o (p := fun t => Nat.blt t.1 S.length) (fun _ => blt_n _) R hf.1]
    · rw [if_neg h1]
  have e3 : dd_u (iB xs Q) S.length (fun _ => 0) = iB xs Q := by
    funext a j
    unfold dd_u
    by_cases h1 : a = S.length
    · subst h1; rw [if_pos rfl]
      unfold iB
      rw [if_pos (by omega), lkI_o (p := fun t => Nat.blt t.1 S.length) (fun _ => blt_n _) Q hf.2]
    · rw [if_neg h1]
  have e4 : dd_u (fun _ _ => (0 : Int64)) S.length (fun _ => 0) = fun _ _ => 0 := by
    funext a j
    unfold dd_u
    by_cases h1 : a = S.length
    · rw [if_pos h1]
    · rw [if_neg h1]
  have e5 : S.length + 1 = (S ++ [(kd, sz)]).length := by rw [List.length_append]; rfl
  show (S.length + 1, (fun a => if a = S.length then (kd, sz) else shB Ln S a), dd_u (rfB R) S.length (fun _ => 0), dd_u (iB xs Q) S.length (fun _ => 0), dd_u (fun _ _ => (0 : Int64)) S.length (fun _ => 0), S.length + 1, s + sz) = ((S ++ [(kd, sz)]).length, shB Ln (S ++ [(kd, sz)]), rfB R, iB xs Q, (fun _ _ => (0 : Int64)), (S ++ [(kd, sz)]).length, s + sz)
  rw [e1, e2, e3, e4, e5]
theorem bS_ui {Ln : Nat} {xs : Nat → Int32} {A : bA} {k j : Nat} {v : Int32} (hk : k < 1000000) : dd_ui (bS Ln xs A) k j v = bS Ln xs (A.1, A.2.1, (k, j, v) :: A.2.2.1, A.2.2.2) := by
  obtain ⟨S, R, Q, s⟩ := A
  have e : dd_u (iB xs Q) k (upd (iB xs Q k) j v) = iB xs ((k, j, v) :: Q) := by
    funext a b
    unfold dd_u
    by_cases h1 : a = k
    · subst h1
      rw [if_pos rfl]
      by_cases h2 : b = j
      · subst h2; rw [pk_us]; unfold iB; rw [if_pos hk, lkI_c, if_pos ⟨rfl, rfl⟩]
      · rw [pk_un h2]; unfold iB; rw [if_pos hk, if_pos hk, lkI_c, if_neg (fun q => h2 q.2.symm)]
    · rw [if_neg h1]
      unfold iB
      have nq : ¬ (k = a ∧ j = b) := fun q => h1 q.1.symm
      rw [lkI_c, if_neg nq]
  show (S.length, shB Ln S, rfB R, dd_u (iB xs Q) k (upd (iB xs Q k) j v), (fun _ _ => (0 : Int64)), S.length, s) = _
  rw [e]
  rfl
theorem bS_ur {Ln : Nat} {xs : Nat → Int32} {A : bA} {k j v : Nat} (hk : k < 1000000) : dd_ur (bS Ln xs A) k j v = bS Ln xs (A.1, (k, j, v) :: A.2.1, A.2.2.1, A.2.2.2) := by
  obtain ⟨S, R, Q, s⟩ := A
  have e : dd_u (rfB R) k (va_up (rfB R k) j v) = rfB ((k, j, v) :: R) := by
    funext a b
    unfold dd_u
    by_cases h1 : a = k
    · subst h1
      rw [if_pos rfl]
      by_cases h2 : b = j
      · subst h2; rw [va_up_self]; unfold rfB; rw [if_pos hk, lkR_c, if_pos ⟨rfl, rfl⟩]
      · rw [va_up_ne _ _ h2]; unfold rfB; rw [if_pos hk, if_pos hk, lkR_c, if_neg (fun q => h2 q.2.symm)]
    · rw [if_neg h1]
      unfold rfB
      have nq : ¬ (k = a ∧ j = b) := fun q => h1 q.1.symm
      rw [lkR_c, if_neg nq]
  show (S.length, shB Ln S, dd_u (rfB R) k (va_up (rfB R k) j v), iB xs Q, (fun _ _ => (0 : Int64)), S.length, s) = _
  rw [e]
  rfl
theorem bS_sh {Ln : Nat} {xs : Nat → Int32} {A : bA} {a : Nat} (h : a < 1000000) : (bS Ln xs A).2.1 a = A.1.getD a (60, 0) := by
  show shB Ln A.1 a = _
  unfold shB
  rw [if_pos h]
theorem bS_rf {Ln : Nat} {xs : Nat → Int32} {A : bA} {a j : Nat} (h : a < 1000000) : dd_r (bS Ln xs A) a j = lkR A.2.1 a j := by
  show rfB A.2.1 a j = _
  unfold rfB
  rw [if_pos h]
/-- one step -/
def ab (e : dd_E) (ls st : List Value) (A : bA) : Option bC := match e with
  | (pc, i, len, x, y, z, k) => match i with
    | .iconst _ => some (pc + len, ls, .int k :: st, A)
    | .bipush _ => some (pc + len, ls, .int k :: st, A)
    | .sipush _ => some (pc + len, ls, .int k :: st, A)
    | .aload_n _ => match ls[x]? with
      | some (.ref v) => some (pc + len, ls, .ref v :: st, A)
      | _ => none
    | .iload_n _ => match ls[x]? with
      | some (.int v) => some (pc + len, ls, .int v :: st, A)
      | _ => none
    | .istore_n _ => match st with
      | .int v :: st => some (pc + len, dd_s1 ls x (.int v), st, A)
      | _ => none
    | .istore _ => match st with
      | .int v :: st => some (pc + len, dd_s1 ls x (.int v), st, A)
      | _ => none
    | .astore_n _ => match st with
      | .ref v :: st => some (pc + len, dd_s1 ls x (.ref v), st, A)
      | _ => none
    | .iinc _ _ => match ls[x]? with
      | some (.int v) => some (pc + len, dd_s1 ls x (.int (v + k)), st, A)
      | _ => none
    | .dup => match st with
      | .ref a :: st => some (pc + len, ls, .ref a :: .ref a :: st, A)
      | _ => none
    | .goto _ => some (x, ls, st, A)
    | .if_icmp c _ => match c with
      | .ge => match st with
        | .int b :: .int a :: st => if b ≤ a then some (x, ls, st, A) else some (pc + len, ls, st, A)
        | _ => none
      | _ => none
    | .getfield _ => match z with
      | 2 => match st with
        | .ref a :: st => if a < 1000000 ∧ dd_ck x (A.1.getD a (60, 0)).1 = true ∧ 1 ≤ lkR A.2.1 a y then some (pc + len, ls, .ref (lkR A.2.1 a y) :: st, A) else none
        | _ => none
      | _ => none
    | .putfield _ => match z with
      | 0 => match st with
        | .int v :: .ref a :: st => if a < 1000000 ∧ dd_ck x (A.1.getD a (60, 0)).1 = true then some (pc + len, ls, st, (A.1, A.2.1, (a, y, v) :: A.2.2.1, A.2.2.2)) else none
        | _ => none
      | 2 => match st with
        | .ref v :: .ref a :: st => if a < 1000000 ∧ dd_ck x (A.1.getD a (60, 0)).1 = true ∧ Nat.ble 1 v = true ∧ Nat.blt v A.1.length = true then some (pc + len, ls, st, (A.1, (a, y, v) :: A.2.1, A.2.2.1, A.2.2.2)) else none
        | _ => none
      | _ => none
    | .iastore => match st with
      | .int v :: .int j :: .ref a :: st => if a < 1000000 ∧ Nat.beq (A.1.getD a (60, 0)).1 100 = true ∧ (0 ≤ j ∧ j.toNatClampNeg < (A.1.getD a (60, 0)).2) then some (pc + len, ls, st, (A.1, A.2.1, (a, j.toNatClampNeg, v) :: A.2.2.1, A.2.2.2)) else none
      | _ => none
    | .aastore => match st with
      | .ref v :: .int j :: .ref a :: st => if a < 1000000 ∧ v < 1000000 ∧ Nat.beq (A.1.getD a (60, 0)).1 103 = true ∧ Nat.beq (A.1.getD v (60, 0)).1 7 = true ∧ Nat.ble 1 v = true ∧ (0 ≤ j ∧ j.toNatClampNeg < (A.1.getD a (60, 0)).2) then some (pc + len, ls, st, (A.1, (a, j.toNatClampNeg, v) :: A.2.1, A.2.2.1, A.2.2.2)) else none
      | _ => none
    | .newarray _ => match st with
      | .int n :: st => if (0 ≤ n ∧ n.toNatClampNeg ≤ 100000 ∧ A.1.length < 100000 ∧ (dd_okv A.1.length ls && dd_okv A.1.length st) = true) ∧ fr A = true then some (pc + len, ls, .ref A.1.length :: st, nwA A x n.toNatClampNeg) else none
      | _ => none
    | .anewarray _ => match st with
      | .int n :: st => if (0 ≤ n ∧ n.toNatClampNeg ≤ 100000 ∧ A.1.length < 100000 ∧ (dd_okv A.1.length ls && dd_okv A.1.length st) = true) ∧ fr A = true then some (pc + len, ls, .ref A.1.length :: st, nwA A 103 n.toNatClampNeg) else none
      | _ => none
    | .new _ => if (A.1.length < 100000 ∧ (dd_okv A.1.length ls && dd_okv A.1.length st) = true) ∧ fr A = true then some (pc + len, ls, .ref A.1.length :: st, nwA A x y) else none
    | _ => none
abbrev bK (Ln : Nat) (xs : Nat → Int32) (cf : bC) : dd_C := (cf.1, cf.2.1, cf.2.2.1, bS Ln xs cf.2.2.2)
theorem ab_ok {Ln : Nat} {xs : Nat → Int32} {e : dd_E} {ls st : List Value} {A : bA} {cf : bC} (h : ab e ls st A = some cf) : dd_stp e ls st (bS Ln xs A) = some (bK Ln xs cf) := by
  obtain ⟨pc, i, len, x, y, z, k⟩ := e
  have sh := fun (a : Nat) (h : a < 1000000) => bS_sh (Ln := Ln) (xs := xs) (A := A) h
  unfold ab at h
  dsimp only at h
  split at h
  · cases h; rfl
  · cases h; rfl
  · cases h; rfl
  · split at h
    · rename_i v hv
      cases h
      simp only [dd_stp, hv]
    · cases h
  · split at h
    · rename_i v hv
      cases h
      simp only [dd_stp, hv]
    · cases h
  · split at h
    · cases h; rfl
    · cases h
  · split at h
    · cases h; rfl
    · cases h
  · split at h
    · cases h; rfl
    · cases h
  · split at h
    · rename_i v hv
      cases h
      simp only [dd_stp, hv]
    · cases h
  · split at h
    · cases h; rfl
    · cases h
  · cases h; rfl
  · split at h
    · split at h
      · split at h
        · rename_i hc
          cases h
          simp only [dd_stp, hc, if_true]
        · rename_i hc
          cases h
          simp only [dd_stp, hc, if_false]
      · cases h
    · cases h
  · split at h
    · split at h
      · rename_i a st'
        split at h
        · rename_i hc
          obtain ⟨ha, hk, hr⟩ := hc
          cases h
          show (match dd_ck x ((bS Ln xs A).2.1 a).1 with
            | true => (match dd_r (bS Ln xs A) a y with
              | 0 => none
              | r + 1 => some (pc + len, ls, Value.ref (r + 1) :: st', bS Ln xs A))
            | false => none) = _
          rw [sh a ha, hk, bS_rf ha]
          obtain ⟨r, er⟩ : ∃ r, lkR A.2.1 a y = r + 1 := ⟨lkR A.2.1 a y - 1, by omega⟩
          rw [er]
        · cases h
      · cases h
    · cases h
  · split at h
    · split at h
      · rename_i v a st'
        split at h
        · rename_i hc
          obtain ⟨ha, hk⟩ := hc
          cases h
          show (match dd_ck x ((bS Ln xs A).2.1 a).1 with
            | true => some (pc + len, ls, st', dd_ui (bS Ln xs A) a y v)
            | false => none) = _
          rw [sh a ha, hk, bS_ui ha]
        · cases h
      · cases h
    · split at h
      · rename_i v a st'
        split at h
        · rename_i hc
          obtain ⟨ha, hk, h1, h2⟩ := hc
          cases h
          show (match dd_ck x ((bS Ln xs A).2.1 a).1, Nat.ble 1 v, Nat.blt v A.1.length with
            | true, true, true => some (pc + len, ls, st', dd_ur (bS Ln xs A) a y v)
            | _, _, _ => none) = _
          rw [sh a ha, hk, h1, h2, bS_ur ha]
        · cases h
      · cases h
    · cases h
  · split at h
    · rename_i v j a st'
      split at h
      · rename_i hc
        obtain ⟨ha, hk, hj⟩ := hc
        cases h
        show (match Nat.beq ((bS Ln xs A).2.1 a).1 100 with
          | true => if 0 ≤ j ∧ j.toNatClampNeg < ((bS Ln xs A).2.1 a).2 then some (pc + len, ls, st', dd_ui (bS Ln xs A) a j.toNatClampNeg v) else none
          | false => none) = _
        rw [sh a ha, hk, bS_ui ha, if_pos hj]
      · cases h
    · cases h
  · split at h
    · rename_i v j a st'
      split at h
      · rename_i hc
        obtain ⟨ha, hv, hk, h7, h1, hj⟩ := hc
        cases h
        show (match Nat.beq ((bS Ln xs A).2.1 a).1 103, Nat.beq ((bS Ln xs A).2.1 v).1 7, Nat.ble 1 v with
          | true, true, true => if 0 ≤ j ∧ j.toNatClampNeg < ((bS Ln xs A).2.1 a).2 then some (pc + len, ls, st', dd_ur (bS Ln xs A) a j.toNatClampNeg v) else none
          | _, _, _ => none) = _
        rw [sh a ha, sh v hv, hk, h7, h1, bS_ur ha, if_pos hj]
      · cases h
    · cases h
  · split at h
    · rename_i n st'
      split at h
      · rename_i hc
        obtain ⟨hc, hf⟩ := hc
        cases h
        show (if 0 ≤ n ∧ n.toNatClampNeg ≤ 100000 ∧ A.1.length < 100000 ∧ (dd_okv A.1.length ls && dd_okv A.1.length st') = true then some (pc + len, ls, Value.ref A.1.length :: st', dd_nw (bS Ln xs A) x n.toNatClampNeg) else none) = _
        rw [if_pos hc, bS_nw hc.2.2.1 hf]
      · cases h
    · cases h
  · split at h
    · rename_i n st'
      split at h
      · rename_i hc
        obtain ⟨hc, hf⟩ := hc
        cases h
        show (if 0 ≤ n ∧ n.toNatClampNeg ≤ 100000 ∧ A.1.length < 100000 ∧ (dd_okv A.1.length ls && dd_okv A.1.length st') = true then some (pc + len, ls, Value.ref A.1.length :: st', dd_nw (bS Ln xs A) 103 n.toNatClampNeg) else none) = _
        rw [if_pos hc, bS_nw hc.2.2.1 hf]
      · cases h
    · cases h
  · split at h
    · rename_i hc
      obtain ⟨hc, hf⟩ := hc
      cases h
      show (if A.1.length < 100000 ∧ (dd_okv A.1.length ls && dd_okv A.1.length st) = true then some (pc + len, ls, Value.ref A.1.length :: st, dd_nw (bS Ln xs A) x y) else none) = _
      rw [if_pos hc, bS_nw hc.1 hf]
    · cases h
  · cases h
def mD : dd_M := (0, (fun _ => (0, 0)), (fun _ _ => 0), (fun _ _ => 0), (fun _ _ => 0), 0, 0)
/-- whom a constructor's call calls -/
def ac (e : dd_E) (st : List Value) : Option (Nat × List Value × List Value) := match e with
  | (pc, i, len, x, y, z, k) => match i with
    | .invokespecial q => dd_cl dd_mt (pc, .invokespecial q, len, x, y, z, k) st mD
    | _ => none
theorem ac_ok {e : dd_E} {st : List Value} {M : dd_M} {r : Nat × List Value × List Value} (h : ac e st = some r) : dd_cl dd_mt e st M = some r := by
  obtain ⟨pc, i, len, x, y, z, k⟩ := e
  unfold ac at h
  dsimp only at h
  split at h
  · exact h
  · cases h
def abT (rt : Nat) (st : List Value) (A : bA) : Option bA := match st with
  | [] => match rt with
    | 0 => some A
    | _ => none
  | _ => none
theorem abT_ok {Ln : Nat} {xs : Nat → Int32} {rt : Nat} {st : List Value} {A A' : bA} (h : abT rt st A = some A') : dd_rt rt st (bS Ln xs A) = some (none, .null, bS Ln xs A') := by
  unfold abT at h
  split at h
  · split at h
    · cases h; rfl
    · cases h
  · cases h
def abB (x len pc : Nat) (ls st : List Value) (A : bA) : Option bC := match x with
  | 902 => match st with
    | .ref _ :: st => match Nat.ble (dd_cat st) 8 with
      | true => some (pc + len, ls, st, A)
      | false => none
    | _ => none
  | _ => none
theorem abB_ok {Ln : Nat} {xs : Nat → Int32} {x len pc : Nat} {ls st : List Value} {A : bA} {cf : bC} (h : abB x len pc ls st A = some cf) : dd_bi x len pc ls st (bS Ln xs A) = some (bK Ln xs cf) := by
  unfold abB at h
  split at h
  · split at h
    · rename_i a st'
      split at h
      · rename_i hc
        cases h
        show (match Nat.ble (dd_cat st') 8 with
          | true => some (pc + len, ls, st', bS Ln xs A)
          | false => none) = _
        rw [hc]
      · cases h
    · cases h
  · cases h
def abR : Nat → Nat → bC → Option bA
  | 0, _, _ => none
  | n + 1, y, (pc, ls, st, A) => match (dd_mt y).1 pc with
    | none => none
    | some e => match dd_how e.2.1 e.2.2.2.2.2.1 e.2.2.2.1 with
      | 0 => match ab e ls st A with
        | none => none
        | some cf => abR n y cf
      | 1 => abT (dd_mt y).2.2.1 st A
      | 2 => match ac e st with
        | none => none
        | some (x, as, rest) => match abR n x (0, dd_ent (dd_mt x).2.1 as, [], A) with
          | none => none
          | some A' => match dd_okv A.1.length ls && dd_okv A.1.length rest with
            | true => abR n y (pc + e.2.2.1, ls, rest, A')
            | false => none
      | 3 => match abB e.2.2.2.1 e.2.2.1 pc ls st A with
        | none => none
        | some cf => abR n y cf
      | _ => none
theorem abR_ok {Ln : Nat} {xs : Nat → Int32} : ∀ (n y : Nat) (cf : bC) (A' : bA), abR n y cf = some A' → ∀ d, n + 12 ≤ d → dd_run dd_mt n d y (bK Ln xs cf) = some (none, .null, bS Ln xs A') := by
  intro n
  induction n with
  | zero => intro y cf A' h; cases h
  | succ n ih =>
    intro y cf A' h d hd
    obtain ⟨pc, ls, st, A⟩ := cf
    rw [abR] at h
    show dd_run dd_mt (n + 1) d y (pc, ls, st, bS Ln xs A) = _
    rw [dd_run]
    cases he : (dd_mt y).1 pc with
    | none => rw [he] at h; cases h
    | some e =>
      rw [he] at h
      dsimp only at h ⊢
      split at h
      · rename_i hw
        rw [hw]
        cases ha : ab e ls st A with
        | none => rw [ha] at h; cases h
        | some cf =>
          rw [ha] at h
          dsimp only at h ⊢
          rw [ab_ok (Ln := Ln) (xs := xs) ha]
          exact ih y cf A' h d (by omega)
      · rename_i hw
        rw [hw]
        exact abT_ok h
      · rename_i hw
        rw [hw]
        obtain ⟨d', rfl⟩ : ∃ d', d = d' + 1 := ⟨d - 1, by omega⟩
        dsimp only
        cases ha : ac e st with
        | none => rw [ha] at h; cases h
        | some r =>
          obtain ⟨x, as, rest⟩ := r
          rw [ha] at h
          dsimp only at h
          rw [ac_ok (M := bS Ln xs A) ha]
          dsimp only
          cases hr : abR n x (0, dd_ent (dd_mt x).2.1 as, [], A) with
          | none => rw [hr] at h; cases h
          | some A1 =>
            rw [hr] at h
            dsimp only at h
            have := ih x (0, dd_ent (dd_mt x).2.1 as, [], A) A1 hr d' (by omega)
            rw [show dd_run dd_mt n d' x (0, dd_ent (dd_mt x).2.1 as, [], bS Ln xs A) = some (none, .null, bS Ln xs A1) from this]
            dsimp only
            cases ho : (dd_okv A.1.length ls && dd_okv A.1.length rest) with
            | false => rw [ho] at h; cases h
            | true =>
              rw [ho] at h
              dsimp only at h
              have e1 : (bS Ln xs A).1 = A.1.length := rfl
              rw [e1, ho, Bool.or_true]
              exact ih y (pc + e.2.2.1, ls, rest, A1) A' h (d' + 1) (by omega)
      · rename_i hw
        rw [hw]
        have hb : Nat.ble 12 d = true := Nat.ble_eq_true_of_le (by omega)
        rw [hb]
        cases ha : abB e.2.2.2.1 e.2.2.1 pc ls st A with
        | none => rw [ha] at h; cases h
        | some cf =>
          rw [ha] at h
          dsimp only at h ⊢
          rw [abB_ok (Ln := Ln) (xs := xs) ha]
          exact ih y cf A' h d (by omega)
      · cases h
/-- k steps of one method, with its calls -/
def abG (N : Nat) : Nat → Nat → bC → Option bC
  | 0, _, cf => some cf
  | k + 1, y, (pc, ls, st, A) => match (dd_mt y).1 pc with
    | none => none
    | some e => match dd_how e.2.1 e.2.2.2.2.2.1 e.2.2.2.1 with
      | 0 => match ab e ls st A with
        | none => none
        | some cf => abG N k y cf
      | 2 => match ac e st with
        | none => none
        | some (x, as, rest) => match abR N x (0, dd_ent (dd_mt x).2.1 as, [], A) with
          | none => none
          | some A' => match dd_okv A.1.length ls && dd_okv A.1.length rest with
            | true => abG N k y (pc + e.2.2.1, ls, rest, A')
            | false => none
      | _ => none
theorem abG_ok {Ln : Nat} {xs : Nat → Int32} {N d : Nat} (hd : N + 12 ≤ d) {Q : dd_O → Prop} {y : Nat} : ∀ (k : Nat) (cf cf' : bC), abG N k y cf = some cf' → dd_Rn (d + 1) y (bK Ln xs cf') Q → dd_Rn (d + 1) y (bK Ln xs cf) Q := by
  intro k
  induction k with
  | zero => intro cf cf' h r; cases h; exact r
  | succ k ih =>
    intro cf cf' h r
    obtain ⟨pc, ls, st, A⟩ := cf
    rw [abG] at h
    cases he : (dd_mt y).1 pc with
    | none => rw [he] at h; cases h
    | some e =>
      rw [he] at h
      dsimp only at h
      split at h
      · rename_i hw
        cases ha : ab e ls st A with
        | none => rw [ha] at h; cases h
        | some c1 =>
          rw [ha] at h
          exact dd_Rn.one he hw (ab_ok (Ln := Ln) (xs := xs) ha) (ih c1 cf' h r)
      · rename_i hw
        cases ha : ac e st with
        | none => rw [ha] at h; cases h
        | some r1 =>
          obtain ⟨x, as, rest⟩ := r1
          rw [ha] at h
          dsimp only at h
          cases hr : abR N x (0, dd_ent (dd_mt x).2.1 as, [], A) with
          | none => rw [hr] at h; cases h
          | some A1 =>
            rw [hr] at h
            dsimp only at h
            cases ho : (dd_okv A.1.length ls && dd_okv A.1.length rest) with
            | false => rw [ho] at h; cases h
            | true =>
              rw [ho] at h
              dsimp only at h
              refine dd_Rn.call (K := fun v M' => v = .null ∧ M' = bS Ln xs A1) 0 rfl he hw (ac_ok (M := bS Ln xs A) ha) ⟨N, _, abR_ok (Ln := Ln) (xs := xs) N x _ A1 hr d hd, ?_⟩ (fun v M' q => ?_)
              · exact ⟨rfl, rfl, rfl⟩
              · obtain ⟨rfl, rfl⟩ := q
                refine ⟨?_, ih (pc + e.2.2.1, ls, rest, A1) cf' h r⟩
                have e1 : (bS Ln xs A).1 = A.1.length := rfl
                rw [e1, ho, Bool.or_true]
      · cases h
