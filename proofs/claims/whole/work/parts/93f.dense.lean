/-- the first three steps -/
theorem nib68 {b : Nat} (h1 : b % 16 ≤ 4) (h2 : b / 16 ≤ 4) : b ≤ 68 := by omega
theorem vl_68 : ∀ l : List Nat, (∀ b, b ∈ l → b ≤ 68) → vlB l ≤ 68 * rpB 1 l.length := by
  intro l
  induction l with
  | nil => intro _; exact Nat.le_refl _
  | cons b l ih =>
    intro h
    have hb := h b List.mem_cons_self
    have ih := ih (fun x hx => h x (List.mem_cons_of_mem _ hx))
    show b + 256 * vlB l ≤ 68 * (1 + 256 * rpB 1 l.length)
    omega
theorem b68 {v : Nat} (h : v ≤ 68 * 72340172838076673) : v < 2 ^ 64 ∧ v + v / 16 < 2 ^ 64 := by omega
theorem pc3 {x : Nat} (hx : x < 2 ^ 64) : (x / 2 &&& 6148914691236517205) ≤ x ∧ ∃ s1 s2 : Nat, s1 = x - (x / 2 &&& 6148914691236517205) ∧ s1 < 2 ^ 64 ∧ s2 = (s1 &&& 3689348814741910323) + (s1 / 4 &&& 3689348814741910323) ∧ s2 < 2 ^ 64 ∧ s2 + s2 / 16 < 2 ^ 64 ∧ (s2 + s2 / 16) &&& 1085102592571150095 = vlB ((bysB x 8).map pop8) := by
  have hl := bys_lt 8 x
  have hn := bys_len 8 x
  have hv := bys_vl 8 x (by simpa using hx)
  have A1 := stA hl
  have S1 := vl_sub (l := bysB x 8) (g := fun b => (b / 2) &&& 85) (fun b hb => (fABC b (hl b hb)).1)
  rw [hn, hv] at A1
  have r85 : rpB 85 8 = 6148914691236517205 := by decide
  have r51 : rpB 51 8 = 3689348814741910323 := by decide
  have r15 : rpB 15 8 = 1085102592571150095 := by decide
  rw [r85] at A1
  rw [hv, ← A1] at S1
  refine ⟨S1.1, _, _, rfl, Nat.lt_of_le_of_lt (Nat.sub_le _ _) hx, rfl, ?_⟩
  rw [S1.2]
  have len2 : ((bysB x 8).map (fun b => b - ((b / 2) &&& 85))).length = 8 := by rw [List.length_map, hn]
  have l2 : ∀ b, b ∈ (bysB x 8).map (fun b => b - ((b / 2) &&& 85)) → b < 256 := by
    intro b hb
    obtain ⟨y, hy, rfl⟩ := List.mem_map.mp hb
    exact (fABC y (hl y hy)).2.1
  have M2 := stM (m := 51) (by omega) l2
  have B2 := stB4 l2
  rw [len2, r51] at M2 B2
  rw [M2, B2, List.map_map, List.map_map, vl_add]
  have l3 : ∀ b, b ∈ (bysB x 8).map (fun b => ((fun b => b &&& 51) ∘ fun b => b - ((b / 2) &&& 85)) b + ((fun b => b / 4 &&& 51) ∘ fun b => b - ((b / 2) &&& 85)) b) → b % 16 ≤ 4 ∧ b / 16 ≤ 4 := by
    intro b hb
    obtain ⟨y, hy, rfl⟩ := List.mem_map.mp hb
    exact ⟨(fABC y (hl y hy)).2.2.1, (fABC y (hl y hy)).2.2.2.1⟩
  have len3 : ((bysB x 8).map (fun b => ((fun b => b &&& 51) ∘ fun b => b - ((b / 2) &&& 85)) b + ((fun b => b / 4 &&& 51) ∘ fun b => b - ((b / 2) &&& 85)) b)).length = 8 := by rw [List.length_map, hn]
  have C3 := stC l3
  rw [len3, r15] at C3
  have bd : vlB ((bysB x 8).map (fun b => ((fun b => b &&& 51) ∘ fun b => b - ((b / 2) &&& 85)) b + ((fun b => b / 4 &&& 51) ∘ fun b => b - ((b / 2) &&& 85)) b)) ≤ 68 * 72340172838076673 := by
    have := vl_68 _ (fun b hb => nib68 (l3 b hb).1 (l3 b hb).2)
    rw [len3] at this
    exact this
  refine ⟨(b68 bd).1, (b68 bd).2, ?_⟩
  rw [C3, List.map_map]
  congr 1
  refine List.map_congr_left (fun b hb => ?_)
  exact (fABC b (hl b hb)).2.2.2.2
