theorem vl_8 : ∀ l : List Nat, (∀ b, b ∈ l → b ≤ 8) → vlB l ≤ 8 * rpB 1 l.length := by
  intro l
  induction l with
  | nil => intro _; exact Nat.le_refl _
  | cons b l ih =>
    intro h
    have hb := h b List.mem_cons_self
    have ih := ih (fun x hx => h x (List.mem_cons_of_mem _ hx))
    show b + 256 * vlB l ≤ 8 * (1 + 256 * rpB 1 l.length)
    omega
theorem pc5a {c0 c1 c2 y0 y1 y2 y3 : Nat} (h0 : c0 ≤ 8) (h1 : c1 ≤ 8) (h2 : c2 ≤ 8) (e0 : y0 = c0 + 256 * y1) (e1 : y1 = c1 + 256 * y2) (e2 : y2 = c2 + 256 * y3) : y0 / 256 = y1 ∧ (y0 + y1) / 65536 = y2 + y3 := by
  subst e2
  subst e1
  subst e0
  omega
theorem pc5b {f0 f1 f2 f3 t0 t1 t2 t3 t4 : Nat} (h0 : f0 ≤ 32) (h1 : f1 ≤ 32) (h2 : f2 ≤ 32) (h3 : f3 ≤ 32) (e0 : t0 = f0 + 256 * t1) (e1 : t1 = f1 + 256 * t2) (e2 : t2 = f2 + 256 * t3) (e3 : t3 = f3 + 256 * t4) : t0 / 4294967296 = t4 := by
  subst e3
  subst e2
  subst e1
  subst e0
  omega
theorem pc5c {f0 f4 t0 t1 t4 t5 : Nat} (h0 : f0 ≤ 32) (h1 : f4 ≤ 32) (e0 : t0 = f0 + 256 * t1) (e4 : t4 = f4 + 256 * t5) : (t0 + t4) % 2 ^ 32 % 128 = f0 + f4 := by
  subst e0
  subst e4
  omega
theorem lin4 {a b g e a1 b1 g1 e1 x y z u : Nat} (h1 : a = x + 256 * a1) (h2 : b = y + 256 * b1) (h3 : g = z + 256 * g1) (h4 : e = u + 256 * e1) : a + b + (g + e) = (x + y + z + u) + 256 * (a1 + b1 + (g1 + e1)) := by
  subst h1
  subst h2
  subst h3
  subst h4
  omega
theorem pc5 {c0 c1 c2 c3 c4 c5 c6 c7 : Nat} (h0 : c0 ≤ 8) (h1 : c1 ≤ 8) (h2 : c2 ≤ 8) (h3 : c3 ≤ 8) (h4 : c4 ≤ 8) (h5 : c5 ≤ 8) (h6 : c6 ≤ 8) (h7 : c7 ≤ 8) {i i1 i2 i3 : Nat} (hi : i = vlB [c0, c1, c2, c3, c4, c5, c6, c7]) (e1 : i1 = i + i / 256) (e2 : i2 = i1 + i1 / 65536) (e3 : i3 = i2 + i2 / 4294967296) : i < 2 ^ 60 ∧ i3 % 2 ^ 32 % 128 = c0 + c1 + c2 + c3 + c4 + c5 + c6 + c7 := by
  constructor
  · have := vl_8 [c0, c1, c2, c3, c4, c5, c6, c7] (by
      intro b hb
      simp only [List.mem_cons, List.not_mem_nil, or_false] at hb
      rcases hb with q | q | q | q | q | q | q | q <;> subst q <;> assumption)
    have e : 8 * rpB 1 [c0, c1, c2, c3, c4, c5, c6, c7].length = 8 * 72340172838076673 := rfl
    rw [e, ← hi] at this
    omega
  · have y7 : vlB [c7] = c7 + 256 * vlB [] := rfl
    have y6 : vlB [c6, c7] = c6 + 256 * vlB [c7] := rfl
    have y5 : vlB [c5, c6, c7] = c5 + 256 * vlB [c6, c7] := rfl
    have y4 : vlB [c4, c5, c6, c7] = c4 + 256 * vlB [c5, c6, c7] := rfl
    have y3 : vlB [c3, c4, c5, c6, c7] = c3 + 256 * vlB [c4, c5, c6, c7] := rfl
    have y2 : vlB [c2, c3, c4, c5, c6, c7] = c2 + 256 * vlB [c3, c4, c5, c6, c7] := rfl
    have y1 : vlB [c1, c2, c3, c4, c5, c6, c7] = c1 + 256 * vlB [c2, c3, c4, c5, c6, c7] := rfl
    have y0 : vlB [c0, c1, c2, c3, c4, c5, c6, c7] = c0 + 256 * vlB [c1, c2, c3, c4, c5, c6, c7] := rfl
    have y8 : vlB [] = 0 := rfl
    rw [← hi] at y0
    clear hi
    generalize vlB [c1, c2, c3, c4, c5, c6, c7] = v1 at *
    generalize vlB [c2, c3, c4, c5, c6, c7] = v2 at *
    generalize vlB [c3, c4, c5, c6, c7] = v3 at *
    generalize vlB [c4, c5, c6, c7] = v4 at *
    generalize vlB [c5, c6, c7] = v5 at *
    generalize vlB [c6, c7] = v6 at *
    generalize vlB [c7] = v7 at *
    generalize vlB [] = v8 at *
    obtain ⟨a1, a2⟩ := pc5a h0 h1 h2 y0 y1 y2
    rw [a1] at e1
    rw [e1, a2] at e2
    have z0 : i2 = (c0 + c1 + c2 + c3) + 256 * (v1 + v2 + (v3 + v4)) := e2.trans (lin4 y0 y1 y2 y3)
    have z1 : v1 + v2 + (v3 + v4) = (c1 + c2 + c3 + c4) + 256 * (v2 + v3 + (v4 + v5)) := lin4 y1 y2 y3 y4
    have z2 : v2 + v3 + (v4 + v5) = (c2 + c3 + c4 + c5) + 256 * (v3 + v4 + (v5 + v6)) := lin4 y2 y3 y4 y5
    have z3 : v3 + v4 + (v5 + v6) = (c3 + c4 + c5 + c6) + 256 * (v4 + v5 + (v6 + v7)) := lin4 y3 y4 y5 y6
    have z4 : v4 + v5 + (v6 + v7) = (c4 + c5 + c6 + c7) + 256 * (v5 + v6 + (v7 + v8)) := lin4 y4 y5 y6 y7
    clear y0 y1 y2 y3 y4 y5 y6 y7 y8 e1 e2 a1 a2
    have f0 : c0 + c1 + c2 + c3 ≤ 32 := by clear z0 z1 z2 z3 z4 e3; omega
    have f1 : c1 + c2 + c3 + c4 ≤ 32 := by clear z0 z1 z2 z3 z4 e3; omega
    have f2 : c2 + c3 + c4 + c5 ≤ 32 := by clear z0 z1 z2 z3 z4 e3; omega
    have f3 : c3 + c4 + c5 + c6 ≤ 32 := by clear z0 z1 z2 z3 z4 e3; omega
    have f4 : c4 + c5 + c6 + c7 ≤ 32 := by clear z0 z1 z2 z3 z4 e3; omega
    have d := pc5b f0 f1 f2 f3 z0 z1 z2 z3
    rw [d] at e3
    have := pc5c f0 f4 z0 z4
    rw [e3, this]
    simp only [Nat.add_assoc]
