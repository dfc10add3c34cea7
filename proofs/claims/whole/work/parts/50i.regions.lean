/-! Region lemmas, written by program (gen/regions_all.py) -/
theorem w_L_law__23 {Ln d c s : Nat} {I : Nat → Nat → Int32} {L : Nat → Nat → Int64} {Q : dd_O → Prop} {a4 : Int32} {a5 a6 : Value} (hd : 28 ≤ d) (h : (((Int32.ofNat Ln) - 6 < a4 → Q (none, .int 1, sM Ln I L c s)) ∧ (¬ ((Int32.ofNat Ln) - 6 < a4) → ((0 ≤ a4 ∧ tn a4 < Ln) ∧ ((Int32.toInt ((I 3000000 (tn a4)) &&& 63) < 0 ∨ 59 < Int32.toInt ((I 3000000 (tn a4)) &&& 63) → dd_Rn d m_L_law_ (3009, [.ref 3000000, .ref 0, .ref 148, .ref 163, .int a4, a5, a6], [], sM Ln I L c s) Q) ∧ ((I 3000000 (tn a4)) &&& 63 = 0 → dd_Rn d m_L_law_ (296, [.ref 3000000, .ref 0, .ref 148, .ref 163, .int a4, a5, a6], [], sM Ln I L c s) Q) ∧ ((I 3000000 (tn a4)) &&& 63 = 1 → dd_Rn d m_L_law_ (369, [.ref 3000000, .ref 0, .ref 148, .ref 163, .int a4, a5, a6], [], sM Ln I L c s) Q) ∧ ((I 3000000 (tn a4)) &&& 63 = 2 → dd_Rn d m_L_law_ (394, [.ref 3000000, .ref 0, .ref 148, .ref 163, .int a4, a5, a6], [], sM Ln I L c s) Q) ∧ ((I 3000000 (tn a4)) &&& 63 = 3 → dd_Rn d m_L_law_ (438, [.ref 3000000, .ref 0, .ref 148, .ref 163, .int a4, a5, a6], [], sM Ln I L c s) Q) ∧ ((I 3000000 (tn a4)) &&& 63 = 4 → dd_Rn d m_L_law_ (482, [.ref 3000000, .ref 0, .ref 148, .ref 163, .int a4, a5, a6], [], sM Ln I L c s) Q) ∧ ((I 3000000 (tn a4)) &&& 63 = 5 → dd_Rn d m_L_law_ (495, [.ref 3000000, .ref 0, .ref 148, .ref 163, .int a4, a5, a6], [], sM Ln I L c s) Q) ∧ ((I 3000000 (tn a4)) &&& 63 = 6 → dd_Rn d m_L_law_ (563, [.ref 3000000, .ref 0, .ref 148, .ref 163, .int a4, a5, a6], [], sM Ln I L c s) Q) ∧ ((I 3000000 (tn a4)) &&& 63 = 7 → dd_Rn d m_L_law_ (631, [.ref 3000000, .ref 0, .ref 148, .ref 163, .int a4, a5, a6], [], sM Ln I L c s) Q) ∧ ((I 3000000 (tn a4)) &&& 63 = 8 → dd_Rn d m_L_law_ (699, [.ref 3000000, .ref 0, .ref 148, .ref 163, .int a4, a5, a6], [], sM Ln I L c s) Q) ∧ ((I 3000000 (tn a4)) &&& 63 = 9 → dd_Rn d m_L_law_ (755, [.ref 3000000, .ref 0, .ref 148, .ref 163, .int a4, a5, a6], [], sM Ln I L c s) Q) ∧ ((I 3000000 (tn a4)) &&& 63 = 10 → dd_Rn d m_L_law_ (811, [.ref 3000000, .ref 0, .ref 148, .ref 163, .int a4, a5, a6], [], sM Ln I L c s) Q) ∧ ((I 3000000 (tn a4)) &&& 63 = 11 → dd_Rn d m_L_law_ (902, [.ref 3000000, .ref 0, .ref 148, .ref 163, .int a4, a5, a6], [], sM Ln I L c s) Q) ∧ ((I 3000000 (tn a4)) &&& 63 = 12 → dd_Rn d m_L_law_ (970, [.ref 3000000, .ref 0, .ref 148, .ref 163, .int a4, a5, a6], [], sM Ln I L c s) Q) ∧ ((I 3000000 (tn a4)) &&& 63 = 13 → dd_Rn d m_L_law_ (1050, [.ref 3000000, .ref 0, .ref 148, .ref 163, .int a4, a5, a6], [], sM Ln I L c s) Q) ∧ ((I 3000000 (tn a4)) &&& 63 = 14 → dd_Rn d m_L_law_ (1106, [.ref 3000000, .ref 0, .ref 148, .ref 163, .int a4, a5, a6], [], sM Ln I L c s) Q) ∧ ((I 3000000 (tn a4)) &&& 63 = 15 → dd_Rn d m_L_law_ (1174, [.ref 3000000, .ref 0, .ref 148, .ref 163, .int a4, a5, a6], [], sM Ln I L c s) Q) ∧ ((I 3000000 (tn a4)) &&& 63 = 16 → dd_Rn d m_L_law_ (1230, [.ref 3000000, .ref 0, .ref 148, .ref 163, .int a4, a5, a6], [], sM Ln I L c s) Q) ∧ ((I 3000000 (tn a4)) &&& 63 = 17 → dd_Rn d m_L_law_ (1298, [.ref 3000000, .ref 0, .ref 148, .ref 163, .int a4, a5, a6], [], sM Ln I L c s) Q) ∧ ((I 3000000 (tn a4)) &&& 63 = 18 → dd_Rn d m_L_law_ (1354, [.ref 3000000, .ref 0, .ref 148, .ref 163, .int a4, a5, a6], [], sM Ln I L c s) Q) ∧ ((I 3000000 (tn a4)) &&& 63 = 19 → dd_Rn d m_L_law_ (1422, [.ref 3000000, .ref 0, .ref 148, .ref 163, .int a4, a5, a6], [], sM Ln I L c s) Q) ∧ ((I 3000000 (tn a4)) &&& 63 = 20 → dd_Rn d m_L_law_ (1478, [.ref 3000000, .ref 0, .ref 148, .ref 163, .int a4, a5, a6], [], sM Ln I L c s) Q) ∧ ((I 3000000 (tn a4)) &&& 63 = 21 → dd_Rn d m_L_law_ (1491, [.ref 3000000, .ref 0, .ref 148, .ref 163, .int a4, a5, a6], [], sM Ln I L c s) Q) ∧ ((I 3000000 (tn a4)) &&& 63 = 22 → dd_Rn d m_L_law_ (1504, [.ref 3000000, .ref 0, .ref 148, .ref 163, .int a4, a5, a6], [], sM Ln I L c s) Q) ∧ ((I 3000000 (tn a4)) &&& 63 = 23 → dd_Rn d m_L_law_ (1560, [.ref 3000000, .ref 0, .ref 148, .ref 163, .int a4, a5, a6], [], sM Ln I L c s) Q) ∧ ((I 3000000 (tn a4)) &&& 63 = 24 → dd_Rn d m_L_law_ (1616, [.ref 3000000, .ref 0, .ref 148, .ref 163, .int a4, a5, a6], [], sM Ln I L c s) Q) ∧ ((I 3000000 (tn a4)) &&& 63 = 25 → dd_Rn d m_L_law_ (1684, [.ref 3000000, .ref 0, .ref 148, .ref 163, .int a4, a5, a6], [], sM Ln I L c s) Q) ∧ ((I 3000000 (tn a4)) &&& 63 = 26 → dd_Rn d m_L_law_ (1752, [.ref 3000000, .ref 0, .ref 148, .ref 163, .int a4, a5, a6], [], sM Ln I L c s) Q) ∧ ((I 3000000 (tn a4)) &&& 63 = 27 → dd_Rn d m_L_law_ (1824, [.ref 3000000, .ref 0, .ref 148, .ref 163, .int a4, a5, a6], [], sM Ln I L c s) Q) ∧ ((I 3000000 (tn a4)) &&& 63 = 28 → dd_Rn d m_L_law_ (1868, [.ref 3000000, .ref 0, .ref 148, .ref 163, .int a4, a5, a6], [], sM Ln I L c s) Q) ∧ ((I 3000000 (tn a4)) &&& 63 = 29 → dd_Rn d m_L_law_ (1924, [.ref 3000000, .ref 0, .ref 148, .ref 163, .int a4, a5, a6], [], sM Ln I L c s) Q) ∧ ((I 3000000 (tn a4)) &&& 63 = 30 → dd_Rn d m_L_law_ (1937, [.ref 3000000, .ref 0, .ref 148, .ref 163, .int a4, a5, a6], [], sM Ln I L c s) Q) ∧ ((I 3000000 (tn a4)) &&& 63 = 31 → dd_Rn d m_L_law_ (2005, [.ref 3000000, .ref 0, .ref 148, .ref 163, .int a4, a5, a6], [], sM Ln I L c s) Q) ∧ ((I 3000000 (tn a4)) &&& 63 = 32 → dd_Rn d m_L_law_ (2061, [.ref 3000000, .ref 0, .ref 148, .ref 163, .int a4, a5, a6], [], sM Ln I L c s) Q) ∧ ((I 3000000 (tn a4)) &&& 63 = 33 → dd_Rn d m_L_law_ (2117, [.ref 3000000, .ref 0, .ref 148, .ref 163, .int a4, a5, a6], [], sM Ln I L c s) Q) ∧ ((I 3000000 (tn a4)) &&& 63 = 34 → dd_Rn d m_L_law_ (2130, [.ref 3000000, .ref 0, .ref 148, .ref 163, .int a4, a5, a6], [], sM Ln I L c s) Q) ∧ ((I 3000000 (tn a4)) &&& 63 = 35 → dd_Rn d m_L_law_ (2186, [.ref 3000000, .ref 0, .ref 148, .ref 163, .int a4, a5, a6], [], sM Ln I L c s) Q) ∧ ((I 3000000 (tn a4)) &&& 63 = 36 → dd_Rn d m_L_law_ (2254, [.ref 3000000, .ref 0, .ref 148, .ref 163, .int a4, a5, a6], [], sM Ln I L c s) Q) ∧ ((I 3000000 (tn a4)) &&& 63 = 37 → dd_Rn d m_L_law_ (2267, [.ref 3000000, .ref 0, .ref 148, .ref 163, .int a4, a5, a6], [], sM Ln I L c s) Q) ∧ ((I 3000000 (tn a4)) &&& 63 = 38 → dd_Rn d m_L_law_ (2280, [.ref 3000000, .ref 0, .ref 148, .ref 163, .int a4, a5, a6], [], sM Ln I L c s) Q) ∧ ((I 3000000 (tn a4)) &&& 63 = 39 → dd_Rn d m_L_law_ (2293, [.ref 3000000, .ref 0, .ref 148, .ref 163, .int a4, a5, a6], [], sM Ln I L c s) Q) ∧ ((I 3000000 (tn a4)) &&& 63 = 40 → dd_Rn d m_L_law_ (2306, [.ref 3000000, .ref 0, .ref 148, .ref 163, .int a4, a5, a6], [], sM Ln I L c s) Q) ∧ ((I 3000000 (tn a4)) &&& 63 = 41 → dd_Rn d m_L_law_ (2319, [.ref 3000000, .ref 0, .ref 148, .ref 163, .int a4, a5, a6], [], sM Ln I L c s) Q) ∧ ((I 3000000 (tn a4)) &&& 63 = 42 → dd_Rn d m_L_law_ (2375, [.ref 3000000, .ref 0, .ref 148, .ref 163, .int a4, a5, a6], [], sM Ln I L c s) Q) ∧ ((I 3000000 (tn a4)) &&& 63 = 43 → dd_Rn d m_L_law_ (2388, [.ref 3000000, .ref 0, .ref 148, .ref 163, .int a4, a5, a6], [], sM Ln I L c s) Q) ∧ ((I 3000000 (tn a4)) &&& 63 = 44 → dd_Rn d m_L_law_ (2401, [.ref 3000000, .ref 0, .ref 148, .ref 163, .int a4, a5, a6], [], sM Ln I L c s) Q) ∧ ((I 3000000 (tn a4)) &&& 63 = 45 → dd_Rn d m_L_law_ (2414, [.ref 3000000, .ref 0, .ref 148, .ref 163, .int a4, a5, a6], [], sM Ln I L c s) Q) ∧ ((I 3000000 (tn a4)) &&& 63 = 46 → dd_Rn d m_L_law_ (2427, [.ref 3000000, .ref 0, .ref 148, .ref 163, .int a4, a5, a6], [], sM Ln I L c s) Q) ∧ ((I 3000000 (tn a4)) &&& 63 = 47 → dd_Rn d m_L_law_ (2440, [.ref 3000000, .ref 0, .ref 148, .ref 163, .int a4, a5, a6], [], sM Ln I L c s) Q) ∧ ((I 3000000 (tn a4)) &&& 63 = 48 → dd_Rn d m_L_law_ (2453, [.ref 3000000, .ref 0, .ref 148, .ref 163, .int a4, a5, a6], [], sM Ln I L c s) Q) ∧ ((I 3000000 (tn a4)) &&& 63 = 49 → dd_Rn d m_L_law_ (2521, [.ref 3000000, .ref 0, .ref 148, .ref 163, .int a4, a5, a6], [], sM Ln I L c s) Q) ∧ ((I 3000000 (tn a4)) &&& 63 = 50 → dd_Rn d m_L_law_ (2534, [.ref 3000000, .ref 0, .ref 148, .ref 163, .int a4, a5, a6], [], sM Ln I L c s) Q) ∧ ((I 3000000 (tn a4)) &&& 63 = 51 → dd_Rn d m_L_law_ (2602, [.ref 3000000, .ref 0, .ref 148, .ref 163, .int a4, a5, a6], [], sM Ln I L c s) Q) ∧ ((I 3000000 (tn a4)) &&& 63 = 52 → dd_Rn d m_L_law_ (2686, [.ref 3000000, .ref 0, .ref 148, .ref 163, .int a4, a5, a6], [], sM Ln I L c s) Q) ∧ ((I 3000000 (tn a4)) &&& 63 = 53 → dd_Rn d m_L_law_ (2770, [.ref 3000000, .ref 0, .ref 148, .ref 163, .int a4, a5, a6], [], sM Ln I L c s) Q) ∧ ((I 3000000 (tn a4)) &&& 63 = 54 → dd_Rn d m_L_law_ (2854, [.ref 3000000, .ref 0, .ref 148, .ref 163, .int a4, a5, a6], [], sM Ln I L c s) Q) ∧ ((I 3000000 (tn a4)) &&& 63 = 55 → dd_Rn d m_L_law_ (2922, [.ref 3000000, .ref 0, .ref 148, .ref 163, .int a4, a5, a6], [], sM Ln I L c s) Q) ∧ ((I 3000000 (tn a4)) &&& 63 = 56 → dd_Rn d m_L_law_ (2947, [.ref 3000000, .ref 0, .ref 148, .ref 163, .int a4, a5, a6], [], sM Ln I L c s) Q) ∧ ((I 3000000 (tn a4)) &&& 63 = 57 → dd_Rn d m_L_law_ (2960, [.ref 3000000, .ref 0, .ref 148, .ref 163, .int a4, a5, a6], [], sM Ln I L c s) Q) ∧ ((I 3000000 (tn a4)) &&& 63 = 58 → dd_Rn d m_L_law_ (2971, [.ref 3000000, .ref 0, .ref 148, .ref 163, .int a4, a5, a6], [], sM Ln I L c s) Q) ∧ ((I 3000000 (tn a4)) &&& 63 = 59 → dd_Rn d m_L_law_ (2984, [.ref 3000000, .ref 0, .ref 148, .ref 163, .int a4, a5, a6], [], sM Ln I L c s) Q)))))) : dd_Rn d m_L_law_ (23, [.ref 3000000, .ref 0, .ref 148, .ref 163, .int a4, a5, a6], [], sM Ln I L c s) Q := by
  obtain ⟨e, rfl⟩ : ∃ e, d = e + 16 := ⟨d - 16, by omega⟩
  refine dd_Rn.ite 5 (c := (Int32.ofNat Ln) - 6 < a4) (A := (3015, [.ref 3000000, .ref 0, .ref 148, .ref 163, .int a4, a5, a6], [], sM Ln I L c s)) (B := (33, [.ref 3000000, .ref 0, .ref 148, .ref 163, .int a4, a5, a6], [], sM Ln I L c s)) rfl (fun hc => ?_) (fun hc => ?_) (by omega)
  · have h := h.1 hc
    exact dd_Rn.retK 1 (pc := 3016) (ls := [.ref 3000000, .ref 0, .ref 148, .ref 163, .int a4, a5, a6]) (st := [.int 1]) (M := sM Ln I L c s) (o := (none, .int 1, sM Ln I L c s)) rfl rfl h (by omega)
  · have h := h.2 hc
    obtain ⟨hc, h⟩ := h
    refine dd_Rn.chk 2 (c := 0 ≤ a4 ∧ tn a4 < Ln) (A := (37, [.ref 3000000, .ref 0, .ref 148, .ref 163, .int a4, a5, a6], [.int (I 3000000 (tn a4))], sM Ln I L c s)) rfl hc ?_ (by omega)
    refine dd_Rn.go 2 (cf' := (40, [.ref 3000000, .ref 0, .ref 148, .ref 163, .int a4, a5, a6], [.int ((I 3000000 (tn a4)) &&& 63)], sM Ln I L c s)) rfl ?_ (by omega)
    by_cases hs : Int32.toInt ((I 3000000 (tn a4)) &&& 63) < 0 ∨ 59 < Int32.toInt ((I 3000000 (tn a4)) &&& 63)
    · have h := h.1 hs
      refine dd_Rn.pos 0 (c := Int32.toInt ((I 3000000 (tn a4)) &&& 63) < 0 ∨ 59 < Int32.toInt ((I 3000000 (tn a4)) &&& 63)) (A := (3009, [.ref 3000000, .ref 0, .ref 148, .ref 163, .int a4, a5, a6], [], sM Ln I L c s)) rfl hs ?_ (by omega)
      exact dd_Rn.go 0 (cf' := (3009, [.ref 3000000, .ref 0, .ref 148, .ref 163, .int a4, a5, a6], [], sM Ln I L c s)) rfl h (by omega)
    have h := h.2
    have hs : Int32.toInt ((I 3000000 (tn a4)) &&& 63) = 0 ∨ Int32.toInt ((I 3000000 (tn a4)) &&& 63) = 1 ∨ Int32.toInt ((I 3000000 (tn a4)) &&& 63) = 2 ∨ Int32.toInt ((I 3000000 (tn a4)) &&& 63) = 3 ∨ Int32.toInt ((I 3000000 (tn a4)) &&& 63) = 4 ∨ Int32.toInt ((I 3000000 (tn a4)) &&& 63) = 5 ∨ Int32.toInt ((I 3000000 (tn a4)) &&& 63) = 6 ∨ Int32.toInt ((I 3000000 (tn a4)) &&& 63) = 7 ∨ Int32.toInt ((I 3000000 (tn a4)) &&& 63) = 8 ∨ Int32.toInt ((I 3000000 (tn a4)) &&& 63) = 9 ∨ Int32.toInt ((I 3000000 (tn a4)) &&& 63) = 10 ∨ Int32.toInt ((I 3000000 (tn a4)) &&& 63) = 11 ∨ Int32.toInt ((I 3000000 (tn a4)) &&& 63) = 12 ∨ Int32.toInt ((I 3000000 (tn a4)) &&& 63) = 13 ∨ Int32.toInt ((I 3000000 (tn a4)) &&& 63) = 14 ∨ Int32.toInt ((I 3000000 (tn a4)) &&& 63) = 15 ∨ Int32.toInt ((I 3000000 (tn a4)) &&& 63) = 16 ∨ Int32.toInt ((I 3000000 (tn a4)) &&& 63) = 17 ∨ Int32.toInt ((I 3000000 (tn a4)) &&& 63) = 18 ∨ Int32.toInt ((I 3000000 (tn a4)) &&& 63) = 19 ∨ Int32.toInt ((I 3000000 (tn a4)) &&& 63) = 20 ∨ Int32.toInt ((I 3000000 (tn a4)) &&& 63) = 21 ∨ Int32.toInt ((I 3000000 (tn a4)) &&& 63) = 22 ∨ Int32.toInt ((I 3000000 (tn a4)) &&& 63) = 23 ∨ Int32.toInt ((I 3000000 (tn a4)) &&& 63) = 24 ∨ Int32.toInt ((I 3000000 (tn a4)) &&& 63) = 25 ∨ Int32.toInt ((I 3000000 (tn a4)) &&& 63) = 26 ∨ Int32.toInt ((I 3000000 (tn a4)) &&& 63) = 27 ∨ Int32.toInt ((I 3000000 (tn a4)) &&& 63) = 28 ∨ Int32.toInt ((I 3000000 (tn a4)) &&& 63) = 29 ∨ Int32.toInt ((I 3000000 (tn a4)) &&& 63) = 30 ∨ Int32.toInt ((I 3000000 (tn a4)) &&& 63) = 31 ∨ Int32.toInt ((I 3000000 (tn a4)) &&& 63) = 32 ∨ Int32.toInt ((I 3000000 (tn a4)) &&& 63) = 33 ∨ Int32.toInt ((I 3000000 (tn a4)) &&& 63) = 34 ∨ Int32.toInt ((I 3000000 (tn a4)) &&& 63) = 35 ∨ Int32.toInt ((I 3000000 (tn a4)) &&& 63) = 36 ∨ Int32.toInt ((I 3000000 (tn a4)) &&& 63) = 37 ∨ Int32.toInt ((I 3000000 (tn a4)) &&& 63) = 38 ∨ Int32.toInt ((I 3000000 (tn a4)) &&& 63) = 39 ∨ Int32.toInt ((I 3000000 (tn a4)) &&& 63) = 40 ∨ Int32.toInt ((I 3000000 (tn a4)) &&& 63) = 41 ∨ Int32.toInt ((I 3000000 (tn a4)) &&& 63) = 42 ∨ Int32.toInt ((I 3000000 (tn a4)) &&& 63) = 43 ∨ Int32.toInt ((I 3000000 (tn a4)) &&& 63) = 44 ∨ Int32.toInt ((I 3000000 (tn a4)) &&& 63) = 45 ∨ Int32.toInt ((I 3000000 (tn a4)) &&& 63) = 46 ∨ Int32.toInt ((I 3000000 (tn a4)) &&& 63) = 47 ∨ Int32.toInt ((I 3000000 (tn a4)) &&& 63) = 48 ∨ Int32.toInt ((I 3000000 (tn a4)) &&& 63) = 49 ∨ Int32.toInt ((I 3000000 (tn a4)) &&& 63) = 50 ∨ Int32.toInt ((I 3000000 (tn a4)) &&& 63) = 51 ∨ Int32.toInt ((I 3000000 (tn a4)) &&& 63) = 52 ∨ Int32.toInt ((I 3000000 (tn a4)) &&& 63) = 53 ∨ Int32.toInt ((I 3000000 (tn a4)) &&& 63) = 54 ∨ Int32.toInt ((I 3000000 (tn a4)) &&& 63) = 55 ∨ Int32.toInt ((I 3000000 (tn a4)) &&& 63) = 56 ∨ Int32.toInt ((I 3000000 (tn a4)) &&& 63) = 57 ∨ Int32.toInt ((I 3000000 (tn a4)) &&& 63) = 58 ∨ Int32.toInt ((I 3000000 (tn a4)) &&& 63) = 59 := by omega
    rcases hs with hs | hs
    · have hv : (I 3000000 (tn a4)) &&& 63 = 0 := Int32.toInt_inj.mp (by rw [hs]; rfl)
      have h := h.1 hv
      refine dd_Rn.lit hv ?_
      refine dd_Rn.go 1 (cf' := (296, [.ref 3000000, .ref 0, .ref 148, .ref 163, .int a4, a5, a6], [], sM Ln I L c s)) rfl ?_ (by omega)
      exact dd_Rn.go 0 (cf' := (296, [.ref 3000000, .ref 0, .ref 148, .ref 163, .int a4, a5, a6], [], sM Ln I L c s)) rfl h (by omega)
    have h := h.2
    rcases hs with hs | hs
    · have hv : (I 3000000 (tn a4)) &&& 63 = 1 := Int32.toInt_inj.mp (by rw [hs]; rfl)
      have h := h.1 hv
      refine dd_Rn.lit hv ?_
      refine dd_Rn.go 1 (cf' := (369, [.ref 3000000, .ref 0, .ref 148, .ref 163, .int a4, a5, a6], [], sM Ln I L c s)) rfl ?_ (by omega)
      exact dd_Rn.go 0 (cf' := (369, [.ref 3000000, .ref 0, .ref 148, .ref 163, .int a4, a5, a6], [], sM Ln I L c s)) rfl h (by omega)
    have h := h.2
    rcases hs with hs | hs
    · have hv : (I 3000000 (tn a4)) &&& 63 = 2 := Int32.toInt_inj.mp (by rw [hs]; rfl)
      have h := h.1 hv
      refine dd_Rn.lit hv ?_
      refine dd_Rn.go 1 (cf' := (394, [.ref 3000000, .ref 0, .ref 148, .ref 163, .int a4, a5, a6], [], sM Ln I L c s)) rfl ?_ (by omega)
      exact dd_Rn.go 0 (cf' := (394, [.ref 3000000, .ref 0, .ref 148, .ref 163, .int a4, a5, a6], [], sM Ln I L c s)) rfl h (by omega)
    have h := h.2
    rcases hs with hs | hs
    · have hv : (I 3000000 (tn a4)) &&& 63 = 3 := Int32.toInt_inj.mp (by rw [hs]; rfl)
      have h := h.1 hv
      refine dd_Rn.lit hv ?_
      refine dd_Rn.go 1 (cf' := (438, [.ref 3000000, .ref 0, .ref 148, .ref 163, .int a4, a5, a6], [], sM Ln I L c s)) rfl ?_ (by omega)
      exact dd_Rn.go 0 (cf' := (438, [.ref 3000000, .ref 0, .ref 148, .ref 163, .int a4, a5, a6], [], sM Ln I L c s)) rfl h (by omega)
    have h := h.2
    rcases hs with hs | hs
    · have hv : (I 3000000 (tn a4)) &&& 63 = 4 := Int32.toInt_inj.mp (by rw [hs]; rfl)
      have h := h.1 hv
      refine dd_Rn.lit hv ?_
      refine dd_Rn.go 1 (cf' := (482, [.ref 3000000, .ref 0, .ref 148, .ref 163, .int a4, a5, a6], [], sM Ln I L c s)) rfl ?_ (by omega)
      exact dd_Rn.go 0 (cf' := (482, [.ref 3000000, .ref 0, .ref 148, .ref 163, .int a4, a5, a6], [], sM Ln I L c s)) rfl h (by omega)
    have h := h.2
    rcases hs with hs | hs
    · have hv : (I 3000000 (tn a4)) &&& 63 = 5 := Int32.toInt_inj.mp (by rw [hs]; rfl)
      have h := h.1 hv
      refine dd_Rn.lit hv ?_
      refine dd_Rn.go 1 (cf' := (495, [.ref 3000000, .ref 0, .ref 148, .ref 163, .int a4, a5, a6], [], sM Ln I L c s)) rfl ?_ (by omega)
      exact dd_Rn.go 0 (cf' := (495, [.ref 3000000, .ref 0, .ref 148, .ref 163, .int a4, a5, a6], [], sM Ln I L c s)) rfl h (by omega)
    have h := h.2
    rcases hs with hs | hs
    · have hv : (I 3000000 (tn a4)) &&& 63 = 6 := Int32.toInt_inj.mp (by rw [hs]; rfl)
      have h := h.1 hv
      refine dd_Rn.lit hv ?_
      refine dd_Rn.go 1 (cf' := (563, [.ref 3000000, .ref 0, .ref 148, .ref 163, .int a4, a5, a6], [], sM Ln I L c s)) rfl ?_ (by omega)
      exact dd_Rn.go 0 (cf' := (563, [.ref 3000000, .ref 0, .ref 148, .ref 163, .int a4, a5, a6], [], sM Ln I L c s)) rfl h (by omega)
    have h := h.2
    rcases hs with hs | hs
    · have hv : (I 3000000 (tn a4)) &&& 63 = 7 := Int32.toInt_inj.mp (by rw [hs]; rfl)
      have h := h.1 hv
      refine dd_Rn.lit hv ?_
      refine dd_Rn.go 1 (cf' := (631, [.ref 3000000, .ref 0, .ref 148, .ref 163, .int a4, a5, a6], [], sM Ln I L c s)) rfl ?_ (by omega)
      exact dd_Rn.go 0 (cf' := (631, [.ref 3000000, .ref 0, .ref 148, .ref 163, .int a4, a5, a6], [], sM Ln I L c s)) rfl h (by omega)
    have h := h.2
    rcases hs with hs | hs
    · have hv : (I 3000000 (tn a4)) &&& 63 = 8 := Int32.toInt_inj.mp (by rw [hs]; rfl)
      have h := h.1 hv
      refine dd_Rn.lit hv ?_
      refine dd_Rn.go 1 (cf' := (699, [.ref 3000000, .ref 0, .ref 148, .ref 163, .int a4, a5, a6], [], sM Ln I L c s)) rfl ?_ (by omega)
      exact dd_Rn.go 0 (cf' := (699, [.ref 3000000, .ref 0, .ref 148, .ref 163, .int a4, a5, a6], [], sM Ln I L c s)) rfl h (by omega)
    have h := h.2
    rcases hs with hs | hs
    · have hv : (I 3000000 (tn a4)) &&& 63 = 9 := Int32.toInt_inj.mp (by rw [hs]; rfl)
      have h := h.1 hv
      refine dd_Rn.lit hv ?_
      refine dd_Rn.go 1 (cf' := (755, [.ref 3000000, .ref 0, .ref 148, .ref 163, .int a4, a5, a6], [], sM Ln I L c s)) rfl ?_ (by omega)
      exact dd_Rn.go 0 (cf' := (755, [.ref 3000000, .ref 0, .ref 148, .ref 163, .int a4, a5, a6], [], sM Ln I L c s)) rfl h (by omega)
    have h := h.2
    rcases hs with hs | hs
    · have hv : (I 3000000 (tn a4)) &&& 63 = 10 := Int32.toInt_inj.mp (by rw [hs]; rfl)
      have h := h.1 hv
      refine dd_Rn.lit hv ?_
      refine dd_Rn.go 1 (cf' := (811, [.ref 3000000, .ref 0, .ref 148, .ref 163, .int a4, a5, a6], [], sM Ln I L c s)) rfl ?_ (by omega)
      exact dd_Rn.go 0 (cf' := (811, [.ref 3000000, .ref 0, .ref 148, .ref 163, .int a4, a5, a6], [], sM Ln I L c s)) rfl h (by omega)
    have h := h.2
    rcases hs with hs | hs
    · have hv : (I 3000000 (tn a4)) &&& 63 = 11 := Int32.toInt_inj.mp (by rw [hs]; rfl)
      have h := h.1 hv
      refine dd_Rn.lit hv ?_
      refine dd_Rn.go 1 (cf' := (902, [.ref 3000000, .ref 0, .ref 148, .ref 163, .int a4, a5, a6], [], sM Ln I L c s)) rfl ?_ (by omega)
      exact dd_Rn.go 0 (cf' := (902, [.ref 3000000, .ref 0, .ref 148, .ref 163, .int a4, a5, a6], [], sM Ln I L c s)) rfl h (by omega)
    have h := h.2
    rcases hs with hs | hs
    · have hv : (I 3000000 (tn a4)) &&& 63 = 12 := Int32.toInt_inj.mp (by rw [hs]; rfl)
      have h := h.1 hv
      refine dd_Rn.lit hv ?_
      refine dd_Rn.go 1 (cf' := (970, [.ref 3000000, .ref 0, .ref 148, .ref 163, .int a4, a5, a6], [], sM Ln I L c s)) rfl ?_ (by omega)
      exact dd_Rn.go 0 (cf' := (970, [.ref 3000000, .ref 0, .ref 148, .ref 163, .int a4, a5, a6], [], sM Ln I L c s)) rfl h (by omega)
    have h := h.2
    rcases hs with hs | hs
    · have hv : (I 3000000 (tn a4)) &&& 63 = 13 := Int32.toInt_inj.mp (by rw [hs]; rfl)
      have h := h.1 hv
      refine dd_Rn.lit hv ?_
      refine dd_Rn.go 1 (cf' := (1050, [.ref 3000000, .ref 0, .ref 148, .ref 163, .int a4, a5, a6], [], sM Ln I L c s)) rfl ?_ (by omega)
      exact dd_Rn.go 0 (cf' := (1050, [.ref 3000000, .ref 0, .ref 148, .ref 163, .int a4, a5, a6], [], sM Ln I L c s)) rfl h (by omega)
    have h := h.2
    rcases hs with hs | hs
    · have hv : (I 3000000 (tn a4)) &&& 63 = 14 := Int32.toInt_inj.mp (by rw [hs]; rfl)
      have h := h.1 hv
      refine dd_Rn.lit hv ?_
      refine dd_Rn.go 1 (cf' := (1106, [.ref 3000000, .ref 0, .ref 148, .ref 163, .int a4, a5, a6], [], sM Ln I L c s)) rfl ?_ (by omega)
      exact dd_Rn.go 0 (cf' := (1106, [.ref 3000000, .ref 0, .ref 148, .ref 163, .int a4, a5, a6], [], sM Ln I L c s)) rfl h (by omega)
    have h := h.2
    rcases hs with hs | hs
    · have hv : (I 3000000 (tn a4)) &&& 63 = 15 := Int32.toInt_inj.mp (by rw [hs]; rfl)
      have h := h.1 hv
      refine dd_Rn.lit hv ?_
      refine dd_Rn.go 1 (cf' := (1174, [.ref 3000000, .ref 0, .ref 148, .ref 163, .int a4, a5, a6], [], sM Ln I L c s)) rfl ?_ (by omega)
      exact dd_Rn.go 0 (cf' := (1174, [.ref 3000000, .ref 0, .ref 148, .ref 163, .int a4, a5, a6], [], sM Ln I L c s)) rfl h (by omega)
    have h := h.2
    rcases hs with hs | hs
    · have hv : (I 3000000 (tn a4)) &&& 63 = 16 := Int32.toInt_inj.mp (by rw [hs]; rfl)
      have h := h.1 hv
      refine dd_Rn.lit hv ?_
      refine dd_Rn.go 1 (cf' := (1230, [.ref 3000000, .ref 0, .ref 148, .ref 163, .int a4, a5, a6], [], sM Ln I L c s)) rfl ?_ (by omega)
      exact dd_Rn.go 0 (cf' := (1230, [.ref 3000000, .ref 0, .ref 148, .ref 163, .int a4, a5, a6], [], sM Ln I L c s)) rfl h (by omega)
    have h := h.2
    rcases hs with hs | hs
    · have hv : (I 3000000 (tn a4)) &&& 63 = 17 := Int32.toInt_inj.mp (by rw [hs]; rfl)
      have h := h.1 hv
      refine dd_Rn.lit hv ?_
      refine dd_Rn.go 1 (cf' := (1298, [.ref 3000000, .ref 0, .ref 148, .ref 163, .int a4, a5, a6], [], sM Ln I L c s)) rfl ?_ (by omega)
      exact dd_Rn.go 0 (cf' := (1298, [.ref 3000000, .ref 0, .ref 148, .ref 163, .int a4, a5, a6], [], sM Ln I L c s)) rfl h (by omega)
    have h := h.2
    rcases hs with hs | hs
    · have hv : (I 3000000 (tn a4)) &&& 63 = 18 := Int32.toInt_inj.mp (by rw [hs]; rfl)
      have h := h.1 hv
      refine dd_Rn.lit hv ?_
      refine dd_Rn.go 1 (cf' := (1354, [.ref 3000000, .ref 0, .ref 148, .ref 163, .int a4, a5, a6], [], sM Ln I L c s)) rfl ?_ (by omega)
      exact dd_Rn.go 0 (cf' := (1354, [.ref 3000000, .ref 0, .ref 148, .ref 163, .int a4, a5, a6], [], sM Ln I L c s)) rfl h (by omega)
    have h := h.2
    rcases hs with hs | hs
    · have hv : (I 3000000 (tn a4)) &&& 63 = 19 := Int32.toInt_inj.mp (by rw [hs]; rfl)
      have h := h.1 hv
      refine dd_Rn.lit hv ?_
      refine dd_Rn.go 1 (cf' := (1422, [.ref 3000000, .ref 0, .ref 148, .ref 163, .int a4, a5, a6], [], sM Ln I L c s)) rfl ?_ (by omega)
      exact dd_Rn.go 0 (cf' := (1422, [.ref 3000000, .ref 0, .ref 148, .ref 163, .int a4, a5, a6], [], sM Ln I L c s)) rfl h (by omega)
    have h := h.2
    rcases hs with hs | hs
    · have hv : (I 3000000 (tn a4)) &&& 63 = 20 := Int32.toInt_inj.mp (by rw [hs]; rfl)
      have h := h.1 hv
      refine dd_Rn.lit hv ?_
      refine dd_Rn.go 1 (cf' := (1478, [.ref 3000000, .ref 0, .ref 148, .ref 163, .int a4, a5, a6], [], sM Ln I L c s)) rfl ?_ (by omega)
      exact dd_Rn.go 0 (cf' := (1478, [.ref 3000000, .ref 0, .ref 148, .ref 163, .int a4, a5, a6], [], sM Ln I L c s)) rfl h (by omega)
    have h := h.2
    rcases hs with hs | hs
    · have hv : (I 3000000 (tn a4)) &&& 63 = 21 := Int32.toInt_inj.mp (by rw [hs]; rfl)
      have h := h.1 hv
      refine dd_Rn.lit hv ?_
      refine dd_Rn.go 1 (cf' := (1491, [.ref 3000000, .ref 0, .ref 148, .ref 163, .int a4, a5, a6], [], sM Ln I L c s)) rfl ?_ (by omega)
      exact dd_Rn.go 0 (cf' := (1491, [.ref 3000000, .ref 0, .ref 148, .ref 163, .int a4, a5, a6], [], sM Ln I L c s)) rfl h (by omega)
    have h := h.2
    rcases hs with hs | hs
    · have hv : (I 3000000 (tn a4)) &&& 63 = 22 := Int32.toInt_inj.mp (by rw [hs]; rfl)
      have h := h.1 hv
      refine dd_Rn.lit hv ?_
      refine dd_Rn.go 1 (cf' := (1504, [.ref 3000000, .ref 0, .ref 148, .ref 163, .int a4, a5, a6], [], sM Ln I L c s)) rfl ?_ (by omega)
      exact dd_Rn.go 0 (cf' := (1504, [.ref 3000000, .ref 0, .ref 148, .ref 163, .int a4, a5, a6], [], sM Ln I L c s)) rfl h (by omega)
    have h := h.2
    rcases hs with hs | hs
    · have hv : (I 3000000 (tn a4)) &&& 63 = 23 := Int32.toInt_inj.mp (by rw [hs]; rfl)
      have h := h.1 hv
      refine dd_Rn.lit hv ?_
      refine dd_Rn.go 1 (cf' := (1560, [.ref 3000000, .ref 0, .ref 148, .ref 163, .int a4, a5, a6], [], sM Ln I L c s)) rfl ?_ (by omega)
      exact dd_Rn.go 0 (cf' := (1560, [.ref 3000000, .ref 0, .ref 148, .ref 163, .int a4, a5, a6], [], sM Ln I L c s)) rfl h (by omega)
    have h := h.2
    rcases hs with hs | hs
    · have hv : (I 3000000 (tn a4)) &&& 63 = 24 := Int32.toInt_inj.mp (by rw [hs]; rfl)
      have h := h.1 hv
      refine dd_Rn.lit hv ?_
      refine dd_Rn.go 1 (cf' := (1616, [.ref 3000000, .ref 0, .ref 148, .ref 163, .int a4, a5, a6], [], sM Ln I L c s)) rfl ?_ (by omega)
      exact dd_Rn.go 0 (cf' := (1616, [.ref 3000000, .ref 0, .ref 148, .ref 163, .int a4, a5, a6], [], sM Ln I L c s)) rfl h (by omega)
    have h := h.2
    rcases hs with hs | hs
    · have hv : (I 3000000 (tn a4)) &&& 63 = 25 := Int32.toInt_inj.mp (by rw [hs]; rfl)
      have h := h.1 hv
      refine dd_Rn.lit hv ?_
      refine dd_Rn.go 1 (cf' := (1684, [.ref 3000000, .ref 0, .ref 148, .ref 163, .int a4, a5, a6], [], sM Ln I L c s)) rfl ?_ (by omega)
      exact dd_Rn.go 0 (cf' := (1684, [.ref 3000000, .ref 0, .ref 148, .ref 163, .int a4, a5, a6], [], sM Ln I L c s)) rfl h (by omega)
    have h := h.2
    rcases hs with hs | hs
    · have hv : (I 3000000 (tn a4)) &&& 63 = 26 := Int32.toInt_inj.mp (by rw [hs]; rfl)
      have h := h.1 hv
      refine dd_Rn.lit hv ?_
      refine dd_Rn.go 1 (cf' := (1752, [.ref 3000000, .ref 0, .ref 148, .ref 163, .int a4, a5, a6], [], sM Ln I L c s)) rfl ?_ (by omega)
      exact dd_Rn.go 0 (cf' := (1752, [.ref 3000000, .ref 0, .ref 148, .ref 163, .int a4, a5, a6], [], sM Ln I L c s)) rfl h (by omega)
    have h := h.2
    rcases hs with hs | hs
    · have hv : (I 3000000 (tn a4)) &&& 63 = 27 := Int32.toInt_inj.mp (by rw [hs]; rfl)
      have h := h.1 hv
      refine dd_Rn.lit hv ?_
      refine dd_Rn.go 1 (cf' := (1824, [.ref 3000000, .ref 0, .ref 148, .ref 163, .int a4, a5, a6], [], sM Ln I L c s)) rfl ?_ (by omega)
      exact dd_Rn.go 0 (cf' := (1824, [.ref 3000000, .ref 0, .ref 148, .ref 163, .int a4, a5, a6], [], sM Ln I L c s)) rfl h (by omega)
    have h := h.2
    rcases hs with hs | hs
    · have hv : (I 3000000 (tn a4)) &&& 63 = 28 := Int32.toInt_inj.mp (by rw [hs]; rfl)
      have h := h.1 hv
      refine dd_Rn.lit hv ?_
      refine dd_Rn.go 1 (cf' := (1868, [.ref 3000000, .ref 0, .ref 148, .ref 163, .int a4, a5, a6], [], sM Ln I L c s)) rfl ?_ (by omega)
      exact dd_Rn.go 0 (cf' := (1868, [.ref 3000000, .ref 0, .ref 148, .ref 163, .int a4, a5, a6], [], sM Ln I L c s)) rfl h (by omega)
    have h := h.2
    rcases hs with hs | hs
    · have hv : (I 3000000 (tn a4)) &&& 63 = 29 := Int32.toInt_inj.mp (by rw [hs]; rfl)
      have h := h.1 hv
      refine dd_Rn.lit hv ?_
      refine dd_Rn.go 1 (cf' := (1924, [.ref 3000000, .ref 0, .ref 148, .ref 163, .int a4, a5, a6], [], sM Ln I L c s)) rfl ?_ (by omega)
      exact dd_Rn.go 0 (cf' := (1924, [.ref 3000000, .ref 0, .ref 148, .ref 163, .int a4, a5, a6], [], sM Ln I L c s)) rfl h (by omega)
    have h := h.2
    rcases hs with hs | hs
    · have hv : (I 3000000 (tn a4)) &&& 63 = 30 := Int32.toInt_inj.mp (by rw [hs]; rfl)
      have h := h.1 hv
      refine dd_Rn.lit hv ?_
      refine dd_Rn.go 1 (cf' := (1937, [.ref 3000000, .ref 0, .ref 148, .ref 163, .int a4, a5, a6], [], sM Ln I L c s)) rfl ?_ (by omega)
      exact dd_Rn.go 0 (cf' := (1937, [.ref 3000000, .ref 0, .ref 148, .ref 163, .int a4, a5, a6], [], sM Ln I L c s)) rfl h (by omega)
    have h := h.2
    rcases hs with hs | hs
    · have hv : (I 3000000 (tn a4)) &&& 63 = 31 := Int32.toInt_inj.mp (by rw [hs]; rfl)
      have h := h.1 hv
      refine dd_Rn.lit hv ?_
      refine dd_Rn.go 1 (cf' := (2005, [.ref 3000000, .ref 0, .ref 148, .ref 163, .int a4, a5, a6], [], sM Ln I L c s)) rfl ?_ (by omega)
      exact dd_Rn.go 0 (cf' := (2005, [.ref 3000000, .ref 0, .ref 148, .ref 163, .int a4, a5, a6], [], sM Ln I L c s)) rfl h (by omega)
    have h := h.2
    rcases hs with hs | hs
    · have hv : (I 3000000 (tn a4)) &&& 63 = 32 := Int32.toInt_inj.mp (by rw [hs]; rfl)
      have h := h.1 hv
      refine dd_Rn.lit hv ?_
      refine dd_Rn.go 1 (cf' := (2061, [.ref 3000000, .ref 0, .ref 148, .ref 163, .int a4, a5, a6], [], sM Ln I L c s)) rfl ?_ (by omega)
      exact dd_Rn.go 0 (cf' := (2061, [.ref 3000000, .ref 0, .ref 148, .ref 163, .int a4, a5, a6], [], sM Ln I L c s)) rfl h (by omega)
    have h := h.2
    rcases hs with hs | hs
    · have hv : (I 3000000 (tn a4)) &&& 63 = 33 := Int32.toInt_inj.mp (by rw [hs]; rfl)
      have h := h.1 hv
      refine dd_Rn.lit hv ?_
      refine dd_Rn.go 1 (cf' := (2117, [.ref 3000000, .ref 0, .ref 148, .ref 163, .int a4, a5, a6], [], sM Ln I L c s)) rfl ?_ (by omega)
      exact dd_Rn.go 0 (cf' := (2117, [.ref 3000000, .ref 0, .ref 148, .ref 163, .int a4, a5, a6], [], sM Ln I L c s)) rfl h (by omega)
    have h := h.2
    rcases hs with hs | hs
    · have hv : (I 3000000 (tn a4)) &&& 63 = 34 := Int32.toInt_inj.mp (by rw [hs]; rfl)
      have h := h.1 hv
      refine dd_Rn.lit hv ?_
      refine dd_Rn.go 1 (cf' := (2130, [.ref 3000000, .ref 0, .ref 148, .ref 163, .int a4, a5, a6], [], sM Ln I L c s)) rfl ?_ (by omega)
      exact dd_Rn.go 0 (cf' := (2130, [.ref 3000000, .ref 0, .ref 148, .ref 163, .int a4, a5, a6], [], sM Ln I L c s)) rfl h (by omega)
    have h := h.2
    rcases hs with hs | hs
    · have hv : (I 3000000 (tn a4)) &&& 63 = 35 := Int32.toInt_inj.mp (by rw [hs]; rfl)
      have h := h.1 hv
      refine dd_Rn.lit hv ?_
      refine dd_Rn.go 1 (cf' := (2186, [.ref 3000000, .ref 0, .ref 148, .ref 163, .int a4, a5, a6], [], sM Ln I L c s)) rfl ?_ (by omega)
      exact dd_Rn.go 0 (cf' := (2186, [.ref 3000000, .ref 0, .ref 148, .ref 163, .int a4, a5, a6], [], sM Ln I L c s)) rfl h (by omega)
    have h := h.2
    rcases hs with hs | hs
    · have hv : (I 3000000 (tn a4)) &&& 63 = 36 := Int32.toInt_inj.mp (by rw [hs]; rfl)
      have h := h.1 hv
      refine dd_Rn.lit hv ?_
      refine dd_Rn.go 1 (cf' := (2254, [.ref 3000000, .ref 0, .ref 148, .ref 163, .int a4, a5, a6], [], sM Ln I L c s)) rfl ?_ (by omega)
      exact dd_Rn.go 0 (cf' := (2254, [.ref 3000000, .ref 0, .ref 148, .ref 163, .int a4, a5, a6], [], sM Ln I L c s)) rfl h (by omega)
    have h := h.2
    rcases hs with hs | hs
    · have hv : (I 3000000 (tn a4)) &&& 63 = 37 := Int32.toInt_inj.mp (by rw [hs]; rfl)
      have h := h.1 hv
      refine dd_Rn.lit hv ?_
      refine dd_Rn.go 1 (cf' := (2267, [.ref 3000000, .ref 0, .ref 148, .ref 163, .int a4, a5, a6], [], sM Ln I L c s)) rfl ?_ (by omega)
      exact dd_Rn.go 0 (cf' := (2267, [.ref 3000000, .ref 0, .ref 148, .ref 163, .int a4, a5, a6], [], sM Ln I L c s)) rfl h (by omega)
    have h := h.2
    rcases hs with hs | hs
    · have hv : (I 3000000 (tn a4)) &&& 63 = 38 := Int32.toInt_inj.mp (by rw [hs]; rfl)
      have h := h.1 hv
      refine dd_Rn.lit hv ?_
      refine dd_Rn.go 1 (cf' := (2280, [.ref 3000000, .ref 0, .ref 148, .ref 163, .int a4, a5, a6], [], sM Ln I L c s)) rfl ?_ (by omega)
      exact dd_Rn.go 0 (cf' := (2280, [.ref 3000000, .ref 0, .ref 148, .ref 163, .int a4, a5, a6], [], sM Ln I L c s)) rfl h (by omega)
    have h := h.2
    rcases hs with hs | hs
    · have hv : (I 3000000 (tn a4)) &&& 63 = 39 := Int32.toInt_inj.mp (by rw [hs]; rfl)
      have h := h.1 hv
      refine dd_Rn.lit hv ?_
      refine dd_Rn.go 1 (cf' := (2293, [.ref 3000000, .ref 0, .ref 148, .ref 163, .int a4, a5, a6], [], sM Ln I L c s)) rfl ?_ (by omega)
      exact dd_Rn.go 0 (cf' := (2293, [.ref 3000000, .ref 0, .ref 148, .ref 163, .int a4, a5, a6], [], sM Ln I L c s)) rfl h (by omega)
    have h := h.2
    rcases hs with hs | hs
    · have hv : (I 3000000 (tn a4)) &&& 63 = 40 := Int32.toInt_inj.mp (by rw [hs]; rfl)
      have h := h.1 hv
      refine dd_Rn.lit hv ?_
      refine dd_Rn.go 1 (cf' := (2306, [.ref 3000000, .ref 0, .ref 148, .ref 163, .int a4, a5, a6], [], sM Ln I L c s)) rfl ?_ (by omega)
      exact dd_Rn.go 0 (cf' := (2306, [.ref 3000000, .ref 0, .ref 148, .ref 163, .int a4, a5, a6], [], sM Ln I L c s)) rfl h (by omega)
    have h := h.2
    rcases hs with hs | hs
    · have hv : (I 3000000 (tn a4)) &&& 63 = 41 := Int32.toInt_inj.mp (by rw [hs]; rfl)
      have h := h.1 hv
      refine dd_Rn.lit hv ?_
      refine dd_Rn.go 1 (cf' := (2319, [.ref 3000000, .ref 0, .ref 148, .ref 163, .int a4, a5, a6], [], sM Ln I L c s)) rfl ?_ (by omega)
      exact dd_Rn.go 0 (cf' := (2319, [.ref 3000000, .ref 0, .ref 148, .ref 163, .int a4, a5, a6], [], sM Ln I L c s)) rfl h (by omega)
    have h := h.2
    rcases hs with hs | hs
    · have hv : (I 3000000 (tn a4)) &&& 63 = 42 := Int32.toInt_inj.mp (by rw [hs]; rfl)
      have h := h.1 hv
      refine dd_Rn.lit hv ?_
      refine dd_Rn.go 1 (cf' := (2375, [.ref 3000000, .ref 0, .ref 148, .ref 163, .int a4, a5, a6], [], sM Ln I L c s)) rfl ?_ (by omega)
      exact dd_Rn.go 0 (cf' := (2375, [.ref 3000000, .ref 0, .ref 148, .ref 163, .int a4, a5, a6], [], sM Ln I L c s)) rfl h (by omega)
    have h := h.2
    rcases hs with hs | hs
    · have hv : (I 3000000 (tn a4)) &&& 63 = 43 := Int32.toInt_inj.mp (by rw [hs]; rfl)
      have h := h.1 hv
      refine dd_Rn.lit hv ?_
      refine dd_Rn.go 1 (cf' := (2388, [.ref 3000000, .ref 0, .ref 148, .ref 163, .int a4, a5, a6], [], sM Ln I L c s)) rfl ?_ (by omega)
      exact dd_Rn.go 0 (cf' := (2388, [.ref 3000000, .ref 0, .ref 148, .ref 163, .int a4, a5, a6], [], sM Ln I L c s)) rfl h (by omega)
    have h := h.2
    rcases hs with hs | hs
    · have hv : (I 3000000 (tn a4)) &&& 63 = 44 := Int32.toInt_inj.mp (by rw [hs]; rfl)
      have h := h.1 hv
      refine dd_Rn.lit hv ?_
      refine dd_Rn.go 1 (cf' := (2401, [.ref 3000000, .ref 0, .ref 148, .ref 163, .int a4, a5, a6], [], sM Ln I L c s)) rfl ?_ (by omega)
      exact dd_Rn.go 0 (cf' := (2401, [.ref 3000000, .ref 0, .ref 148, .ref 163, .int a4, a5, a6], [], sM Ln I L c s)) rfl h (by omega)
    have h := h.2
    rcases hs with hs | hs
    · have hv : (I 3000000 (tn a4)) &&& 63 = 45 := Int32.toInt_inj.mp (by rw [hs]; rfl)
      have h := h.1 hv
      refine dd_Rn.lit hv ?_
      refine dd_Rn.go 1 (cf' := (2414, [.ref 3000000, .ref 0, .ref 148, .ref 163, .int a4, a5, a6], [], sM Ln I L c s)) rfl ?_ (by omega)
      exact dd_Rn.go 0 (cf' := (2414, [.ref 3000000, .ref 0, .ref 148, .ref 163, .int a4, a5, a6], [], sM Ln I L c s)) rfl h (by omega)
    have h := h.2
    rcases hs with hs | hs
    · have hv : (I 3000000 (tn a4)) &&& 63 = 46 := Int32.toInt_inj.mp (by rw [hs]; rfl)
      have h := h.1 hv
      refine dd_Rn.lit hv ?_
      refine dd_Rn.go 1 (cf' := (2427, [.ref 3000000, .ref 0, .ref 148, .ref 163, .int a4, a5, a6], [], sM Ln I L c s)) rfl ?_ (by omega)
      exact dd_Rn.go 0 (cf' := (2427, [.ref 3000000, .ref 0, .ref 148, .ref 163, .int a4, a5, a6], [], sM Ln I L c s)) rfl h (by omega)
    have h := h.2
    rcases hs with hs | hs
    · have hv : (I 3000000 (tn a4)) &&& 63 = 47 := Int32.toInt_inj.mp (by rw [hs]; rfl)
      have h := h.1 hv
      refine dd_Rn.lit hv ?_
      refine dd_Rn.go 1 (cf' := (2440, [.ref 3000000, .ref 0, .ref 148, .ref 163, .int a4, a5, a6], [], sM Ln I L c s)) rfl ?_ (by omega)
      exact dd_Rn.go 0 (cf' := (2440, [.ref 3000000, .ref 0, .ref 148, .ref 163, .int a4, a5, a6], [], sM Ln I L c s)) rfl h (by omega)
    have h := h.2
    rcases hs with hs | hs
    · have hv : (I 3000000 (tn a4)) &&& 63 = 48 := Int32.toInt_inj.mp (by rw [hs]; rfl)
      have h := h.1 hv
      refine dd_Rn.lit hv ?_
      refine dd_Rn.go 1 (cf' := (2453, [.ref 3000000, .ref 0, .ref 148, .ref 163, .int a4, a5, a6], [], sM Ln I L c s)) rfl ?_ (by omega)
      exact dd_Rn.go 0 (cf' := (2453, [.ref 3000000, .ref 0, .ref 148, .ref 163, .int a4, a5, a6], [], sM Ln I L c s)) rfl h (by omega)
    have h := h.2
    rcases hs with hs | hs
    · have hv : (I 3000000 (tn a4)) &&& 63 = 49 := Int32.toInt_inj.mp (by rw [hs]; rfl)
      have h := h.1 hv
      refine dd_Rn.lit hv ?_
      refine dd_Rn.go 1 (cf' := (2521, [.ref 3000000, .ref 0, .ref 148, .ref 163, .int a4, a5, a6], [], sM Ln I L c s)) rfl ?_ (by omega)
      exact dd_Rn.go 0 (cf' := (2521, [.ref 3000000, .ref 0, .ref 148, .ref 163, .int a4, a5, a6], [], sM Ln I L c s)) rfl h (by omega)
    have h := h.2
    rcases hs with hs | hs
    · have hv : (I 3000000 (tn a4)) &&& 63 = 50 := Int32.toInt_inj.mp (by rw [hs]; rfl)
      have h := h.1 hv
      refine dd_Rn.lit hv ?_
      refine dd_Rn.go 1 (cf' := (2534, [.ref 3000000, .ref 0, .ref 148, .ref 163, .int a4, a5, a6], [], sM Ln I L c s)) rfl ?_ (by omega)
      exact dd_Rn.go 0 (cf' := (2534, [.ref 3000000, .ref 0, .ref 148, .ref 163, .int a4, a5, a6], [], sM Ln I L c s)) rfl h (by omega)
    have h := h.2
    rcases hs with hs | hs
    · have hv : (I 3000000 (tn a4)) &&& 63 = 51 := Int32.toInt_inj.mp (by rw [hs]; rfl)
      have h := h.1 hv
      refine dd_Rn.lit hv ?_
      refine dd_Rn.go 1 (cf' := (2602, [.ref 3000000, .ref 0, .ref 148, .ref 163, .int a4, a5, a6], [], sM Ln I L c s)) rfl ?_ (by omega)
      exact dd_Rn.go 0 (cf' := (2602, [.ref 3000000, .ref 0, .ref 148, .ref 163, .int a4, a5, a6], [], sM Ln I L c s)) rfl h (by omega)
    have h := h.2
    rcases hs with hs | hs
    · have hv : (I 3000000 (tn a4)) &&& 63 = 52 := Int32.toInt_inj.mp (by rw [hs]; rfl)
      have h := h.1 hv
      refine dd_Rn.lit hv ?_
      refine dd_Rn.go 1 (cf' := (2686, [.ref 3000000, .ref 0, .ref 148, .ref 163, .int a4, a5, a6], [], sM Ln I L c s)) rfl ?_ (by omega)
      exact dd_Rn.go 0 (cf' := (2686, [.ref 3000000, .ref 0, .ref 148, .ref 163, .int a4, a5, a6], [], sM Ln I L c s)) rfl h (by omega)
    have h := h.2
    rcases hs with hs | hs
    · have hv : (I 3000000 (tn a4)) &&& 63 = 53 := Int32.toInt_inj.mp (by rw [hs]; rfl)
      have h := h.1 hv
      refine dd_Rn.lit hv ?_
      refine dd_Rn.go 1 (cf' := (2770, [.ref 3000000, .ref 0, .ref 148, .ref 163, .int a4, a5, a6], [], sM Ln I L c s)) rfl ?_ (by omega)
      exact dd_Rn.go 0 (cf' := (2770, [.ref 3000000, .ref 0, .ref 148, .ref 163, .int a4, a5, a6], [], sM Ln I L c s)) rfl h (by omega)
    have h := h.2
    rcases hs with hs | hs
    · have hv : (I 3000000 (tn a4)) &&& 63 = 54 := Int32.toInt_inj.mp (by rw [hs]; rfl)
      have h := h.1 hv
      refine dd_Rn.lit hv ?_
      refine dd_Rn.go 1 (cf' := (2854, [.ref 3000000, .ref 0, .ref 148, .ref 163, .int a4, a5, a6], [], sM Ln I L c s)) rfl ?_ (by omega)
      exact dd_Rn.go 0 (cf' := (2854, [.ref 3000000, .ref 0, .ref 148, .ref 163, .int a4, a5, a6], [], sM Ln I L c s)) rfl h (by omega)
    have h := h.2
    rcases hs with hs | hs
    · have hv : (I 3000000 (tn a4)) &&& 63 = 55 := Int32.toInt_inj.mp (by rw [hs]; rfl)
      have h := h.1 hv
      refine dd_Rn.lit hv ?_
      refine dd_Rn.go 1 (cf' := (2922, [.ref 3000000, .ref 0, .ref 148, .ref 163, .int a4, a5, a6], [], sM Ln I L c s)) rfl ?_ (by omega)
      exact dd_Rn.go 0 (cf' := (2922, [.ref 3000000, .ref 0, .ref 148, .ref 163, .int a4, a5, a6], [], sM Ln I L c s)) rfl h (by omega)
    have h := h.2
    rcases hs with hs | hs
    · have hv : (I 3000000 (tn a4)) &&& 63 = 56 := Int32.toInt_inj.mp (by rw [hs]; rfl)
      have h := h.1 hv
      refine dd_Rn.lit hv ?_
      refine dd_Rn.go 1 (cf' := (2947, [.ref 3000000, .ref 0, .ref 148, .ref 163, .int a4, a5, a6], [], sM Ln I L c s)) rfl ?_ (by omega)
      exact dd_Rn.go 0 (cf' := (2947, [.ref 3000000, .ref 0, .ref 148, .ref 163, .int a4, a5, a6], [], sM Ln I L c s)) rfl h (by omega)
    have h := h.2
    rcases hs with hs | hs
    · have hv : (I 3000000 (tn a4)) &&& 63 = 57 := Int32.toInt_inj.mp (by rw [hs]; rfl)
      have h := h.1 hv
      refine dd_Rn.lit hv ?_
      refine dd_Rn.go 1 (cf' := (2960, [.ref 3000000, .ref 0, .ref 148, .ref 163, .int a4, a5, a6], [], sM Ln I L c s)) rfl ?_ (by omega)
      exact dd_Rn.go 0 (cf' := (2960, [.ref 3000000, .ref 0, .ref 148, .ref 163, .int a4, a5, a6], [], sM Ln I L c s)) rfl h (by omega)
    have h := h.2
    rcases hs with hs | hs
    · have hv : (I 3000000 (tn a4)) &&& 63 = 58 := Int32.toInt_inj.mp (by rw [hs]; rfl)
      have h := h.1 hv
      refine dd_Rn.lit hv ?_
      refine dd_Rn.go 1 (cf' := (2971, [.ref 3000000, .ref 0, .ref 148, .ref 163, .int a4, a5, a6], [], sM Ln I L c s)) rfl ?_ (by omega)
      exact dd_Rn.go 0 (cf' := (2971, [.ref 3000000, .ref 0, .ref 148, .ref 163, .int a4, a5, a6], [], sM Ln I L c s)) rfl h (by omega)
    have h := h.2
    · have hv : (I 3000000 (tn a4)) &&& 63 = 59 := Int32.toInt_inj.mp (by rw [hs]; rfl)
      have h := h hv
      refine dd_Rn.lit hv ?_
      refine dd_Rn.go 1 (cf' := (2984, [.ref 3000000, .ref 0, .ref 148, .ref 163, .int a4, a5, a6], [], sM Ln I L c s)) rfl ?_ (by omega)
      exact dd_Rn.go 0 (cf' := (2984, [.ref 3000000, .ref 0, .ref 148, .ref 163, .int a4, a5, a6], [], sM Ln I L c s)) rfl h (by omega)

theorem w_L_law__296 {Ln d c s : Nat} {I : Nat → Nat → Int32} {L : Nat → Nat → Int64} {Q : dd_O → Prop} {a4 : Int32} {a5 a6 : Value} (hd : 28 ≤ d) (h : ((0 ≤ a4 + 1 ∧ tn (a4 + 1) < Ln) ∧ ((0 ≤ a4 + 2 ∧ tn (a4 + 2) < Ln) ∧ ((0 ≤ a4 + 3 ∧ tn (a4 + 3) < Ln) ∧ ((0 ≤ a4 + 4 ∧ tn (a4 + 4) < Ln) ∧ ((0 ≤ a4 + 5 ∧ tn (a4 + 5) < Ln) ∧ dd_Ev (d - 1) m_X10_feed [.ref 0, .int (I 3000000 (tn (a4 + 1))), .int (I 3000000 (tn (a4 + 2))), .int (I 3000000 (tn (a4 + 3))), .int (I 3000000 (tn (a4 + 4))), .int (I 3000000 (tn (a4 + 5)))] (sM Ln I L c s) (dd_RI Ln c s (fun x1 I1 L1 => ((0 ≤ a4 + 1 ∧ tn (a4 + 1) < Ln) ∧ ((0 ≤ a4 + 2 ∧ tn (a4 + 2) < Ln) ∧ ((0 ≤ a4 + 3 ∧ tn (a4 + 3) < Ln) ∧ ((0 ≤ a4 + 4 ∧ tn (a4 + 4) < Ln) ∧ ((0 ≤ a4 + 5 ∧ tn (a4 + 5) < Ln) ∧ dd_Ev (d - 1) m_X11_feed [.ref 148, .int (I1 3000000 (tn (a4 + 1))), .int (I1 3000000 (tn (a4 + 2))), .int (I1 3000000 (tn (a4 + 3))), .int (I1 3000000 (tn (a4 + 4))), .int (I1 3000000 (tn (a4 + 5)))] (sM Ln I1 L1 c s) (dd_RI Ln c s (fun x2 I2 L2 => ((x1 = x2 → dd_Rn d m_L_law_ (3009, [.ref 3000000, .ref 0, .ref 148, .ref 163, .int a4, a5, a6], [], sM Ln I2 L2 c s) Q) ∧ (¬ (x1 = x2) → Q (none, .int 0, sM Ln I2 L2 c s)))))))))))))))))) : dd_Rn d m_L_law_ (296, [.ref 3000000, .ref 0, .ref 148, .ref 163, .int a4, a5, a6], [], sM Ln I L c s) Q := by
  obtain ⟨e, rfl⟩ : ∃ e, d = e + 16 := ⟨d - 16, by omega⟩
  obtain ⟨hc, h⟩ := h
  refine dd_Rn.go 5 (cf' := (302, [.ref 3000000, .ref 0, .ref 148, .ref 163, .int a4, a5, a6], [.int (a4 + 1), .ref 3000000, .ref 0], sM Ln I L c s)) rfl ?_ (by omega)
  refine dd_Rn.ci (fun j0 => (302, [.ref 3000000, .ref 0, .ref 148, .ref 163, .int a4, a5, a6], [.int j0, .ref 3000000, .ref 0], sM Ln I L c s)) (fun j0 => (303, [.ref 3000000, .ref 0, .ref 148, .ref 163, .int a4, a5, a6], [.int (I 3000000 (tn j0)), .ref 0], sM Ln I L c s)) (fun j0 => 0 ≤ j0 ∧ tn j0 < Ln) (a4 + 1) (fun j0 hc h => dd_Rn.chk 0 (c := 0 ≤ j0 ∧ tn j0 < Ln) (A := (303, [.ref 3000000, .ref 0, .ref 148, .ref 163, .int a4, a5, a6], [.int (I 3000000 (tn j0)), .ref 0], sM Ln I L c s)) rfl hc h (by omega)) hc ?_
  refine dd_Rn.se (cf := (303, [.ref 3000000, .ref 0, .ref 148, .ref 163, .int a4, a5, a6], [.int (I 3000000 (tn (a4 + 1))), .ref 0], sM Ln I L c s)) ?_
  obtain ⟨hc, h⟩ := h
  refine dd_Rn.go 4 (cf' := (308, [.ref 3000000, .ref 0, .ref 148, .ref 163, .int a4, a5, a6], [.int (a4 + 2), .ref 3000000, .int (I 3000000 (tn (a4 + 1))), .ref 0], sM Ln I L c s)) rfl ?_ (by omega)
  refine dd_Rn.ci (fun j0 => (308, [.ref 3000000, .ref 0, .ref 148, .ref 163, .int a4, a5, a6], [.int j0, .ref 3000000, .int (I 3000000 (tn (a4 + 1))), .ref 0], sM Ln I L c s)) (fun j0 => (309, [.ref 3000000, .ref 0, .ref 148, .ref 163, .int a4, a5, a6], [.int (I 3000000 (tn j0)), .int (I 3000000 (tn (a4 + 1))), .ref 0], sM Ln I L c s)) (fun j0 => 0 ≤ j0 ∧ tn j0 < Ln) (a4 + 2) (fun j0 hc h => dd_Rn.chk 0 (c := 0 ≤ j0 ∧ tn j0 < Ln) (A := (309, [.ref 3000000, .ref 0, .ref 148, .ref 163, .int a4, a5, a6], [.int (I 3000000 (tn j0)), .int (I 3000000 (tn (a4 + 1))), .ref 0], sM Ln I L c s)) rfl hc h (by omega)) hc ?_
  refine dd_Rn.se (cf := (309, [.ref 3000000, .ref 0, .ref 148, .ref 163, .int a4, a5, a6], [.int (I 3000000 (tn (a4 + 2))), .int (I 3000000 (tn (a4 + 1))), .ref 0], sM Ln I L c s)) ?_
  obtain ⟨hc, h⟩ := h
  refine dd_Rn.go 4 (cf' := (314, [.ref 3000000, .ref 0, .ref 148, .ref 163, .int a4, a5, a6], [.int (a4 + 3), .ref 3000000, .int (I 3000000 (tn (a4 + 2))), .int (I 3000000 (tn (a4 + 1))), .ref 0], sM Ln I L c s)) rfl ?_ (by omega)
  refine dd_Rn.ci (fun j0 => (314, [.ref 3000000, .ref 0, .ref 148, .ref 163, .int a4, a5, a6], [.int j0, .ref 3000000, .int (I 3000000 (tn (a4 + 2))), .int (I 3000000 (tn (a4 + 1))), .ref 0], sM Ln I L c s)) (fun j0 => (315, [.ref 3000000, .ref 0, .ref 148, .ref 163, .int a4, a5, a6], [.int (I 3000000 (tn j0)), .int (I 3000000 (tn (a4 + 2))), .int (I 3000000 (tn (a4 + 1))), .ref 0], sM Ln I L c s)) (fun j0 => 0 ≤ j0 ∧ tn j0 < Ln) (a4 + 3) (fun j0 hc h => dd_Rn.chk 0 (c := 0 ≤ j0 ∧ tn j0 < Ln) (A := (315, [.ref 3000000, .ref 0, .ref 148, .ref 163, .int a4, a5, a6], [.int (I 3000000 (tn j0)), .int (I 3000000 (tn (a4 + 2))), .int (I 3000000 (tn (a4 + 1))), .ref 0], sM Ln I L c s)) rfl hc h (by omega)) hc ?_
  refine dd_Rn.se (cf := (315, [.ref 3000000, .ref 0, .ref 148, .ref 163, .int a4, a5, a6], [.int (I 3000000 (tn (a4 + 3))), .int (I 3000000 (tn (a4 + 2))), .int (I 3000000 (tn (a4 + 1))), .ref 0], sM Ln I L c s)) ?_
  obtain ⟨hc, h⟩ := h
  refine dd_Rn.go 4 (cf' := (320, [.ref 3000000, .ref 0, .ref 148, .ref 163, .int a4, a5, a6], [.int (a4 + 4), .ref 3000000, .int (I 3000000 (tn (a4 + 3))), .int (I 3000000 (tn (a4 + 2))), .int (I 3000000 (tn (a4 + 1))), .ref 0], sM Ln I L c s)) rfl ?_ (by omega)
  refine dd_Rn.ci (fun j0 => (320, [.ref 3000000, .ref 0, .ref 148, .ref 163, .int a4, a5, a6], [.int j0, .ref 3000000, .int (I 3000000 (tn (a4 + 3))), .int (I 3000000 (tn (a4 + 2))), .int (I 3000000 (tn (a4 + 1))), .ref 0], sM Ln I L c s)) (fun j0 => (321, [.ref 3000000, .ref 0, .ref 148, .ref 163, .int a4, a5, a6], [.int (I 3000000 (tn j0)), .int (I 3000000 (tn (a4 + 3))), .int (I 3000000 (tn (a4 + 2))), .int (I 3000000 (tn (a4 + 1))), .ref 0], sM Ln I L c s)) (fun j0 => 0 ≤ j0 ∧ tn j0 < Ln) (a4 + 4) (fun j0 hc h => dd_Rn.chk 0 (c := 0 ≤ j0 ∧ tn j0 < Ln) (A := (321, [.ref 3000000, .ref 0, .ref 148, .ref 163, .int a4, a5, a6], [.int (I 3000000 (tn j0)), .int (I 3000000 (tn (a4 + 3))), .int (I 3000000 (tn (a4 + 2))), .int (I 3000000 (tn (a4 + 1))), .ref 0], sM Ln I L c s)) rfl hc h (by omega)) hc ?_
  refine dd_Rn.se (cf := (321, [.ref 3000000, .ref 0, .ref 148, .ref 163, .int a4, a5, a6], [.int (I 3000000 (tn (a4 + 4))), .int (I 3000000 (tn (a4 + 3))), .int (I 3000000 (tn (a4 + 2))), .int (I 3000000 (tn (a4 + 1))), .ref 0], sM Ln I L c s)) ?_
  obtain ⟨hc, h⟩ := h
  refine dd_Rn.go 4 (cf' := (326, [.ref 3000000, .ref 0, .ref 148, .ref 163, .int a4, a5, a6], [.int (a4 + 5), .ref 3000000, .int (I 3000000 (tn (a4 + 4))), .int (I 3000000 (tn (a4 + 3))), .int (I 3000000 (tn (a4 + 2))), .int (I 3000000 (tn (a4 + 1))), .ref 0], sM Ln I L c s)) rfl ?_ (by omega)
  refine dd_Rn.ci (fun j0 => (326, [.ref 3000000, .ref 0, .ref 148, .ref 163, .int a4, a5, a6], [.int j0, .ref 3000000, .int (I 3000000 (tn (a4 + 4))), .int (I 3000000 (tn (a4 + 3))), .int (I 3000000 (tn (a4 + 2))), .int (I 3000000 (tn (a4 + 1))), .ref 0], sM Ln I L c s)) (fun j0 => (327, [.ref 3000000, .ref 0, .ref 148, .ref 163, .int a4, a5, a6], [.int (I 3000000 (tn j0)), .int (I 3000000 (tn (a4 + 4))), .int (I 3000000 (tn (a4 + 3))), .int (I 3000000 (tn (a4 + 2))), .int (I 3000000 (tn (a4 + 1))), .ref 0], sM Ln I L c s)) (fun j0 => 0 ≤ j0 ∧ tn j0 < Ln) (a4 + 5) (fun j0 hc h => dd_Rn.chk 0 (c := 0 ≤ j0 ∧ tn j0 < Ln) (A := (327, [.ref 3000000, .ref 0, .ref 148, .ref 163, .int a4, a5, a6], [.int (I 3000000 (tn j0)), .int (I 3000000 (tn (a4 + 4))), .int (I 3000000 (tn (a4 + 3))), .int (I 3000000 (tn (a4 + 2))), .int (I 3000000 (tn (a4 + 1))), .ref 0], sM Ln I L c s)) rfl hc h (by omega)) hc ?_
  refine dd_Rn.se (cf := (327, [.ref 3000000, .ref 0, .ref 148, .ref 163, .int a4, a5, a6], [.int (I 3000000 (tn (a4 + 5))), .int (I 3000000 (tn (a4 + 4))), .int (I 3000000 (tn (a4 + 3))), .int (I 3000000 (tn (a4 + 2))), .int (I 3000000 (tn (a4 + 1))), .ref 0], sM Ln I L c s)) ?_
  refine dd_Rn.cI 0 (pc := 327) (ls := [.ref 3000000, .ref 0, .ref 148, .ref 163, .int a4, a5, a6]) (st := [.int (I 3000000 (tn (a4 + 5))), .int (I 3000000 (tn (a4 + 4))), .int (I 3000000 (tn (a4 + 3))), .int (I 3000000 (tn (a4 + 2))), .int (I 3000000 (tn (a4 + 1))), .ref 0]) (x := m_X10_feed) (as := [.ref 0, .int (I 3000000 (tn (a4 + 1))), .int (I 3000000 (tn (a4 + 2))), .int (I 3000000 (tn (a4 + 3))), .int (I 3000000 (tn (a4 + 4))), .int (I 3000000 (tn (a4 + 5)))]) (rest := []) rfl rfl rfl rfl h ?_
  intro x1 I1 L1 h
  show dd_Rn (e + 16) m_L_law_ (330, [.ref 3000000, .ref 0, .ref 148, .ref 163, .int a4, a5, a6], [.int x1], sM Ln I1 L1 c s) _
  obtain ⟨hc, h⟩ := h
  refine dd_Rn.go 5 (cf' := (336, [.ref 3000000, .ref 0, .ref 148, .ref 163, .int a4, a5, a6], [.int (a4 + 1), .ref 3000000, .ref 148, .int x1], sM Ln I1 L1 c s)) rfl ?_ (by omega)
  refine dd_Rn.ci (fun j0 => (336, [.ref 3000000, .ref 0, .ref 148, .ref 163, .int a4, a5, a6], [.int j0, .ref 3000000, .ref 148, .int x1], sM Ln I1 L1 c s)) (fun j0 => (337, [.ref 3000000, .ref 0, .ref 148, .ref 163, .int a4, a5, a6], [.int (I1 3000000 (tn j0)), .ref 148, .int x1], sM Ln I1 L1 c s)) (fun j0 => 0 ≤ j0 ∧ tn j0 < Ln) (a4 + 1) (fun j0 hc h => dd_Rn.chk 0 (c := 0 ≤ j0 ∧ tn j0 < Ln) (A := (337, [.ref 3000000, .ref 0, .ref 148, .ref 163, .int a4, a5, a6], [.int (I1 3000000 (tn j0)), .ref 148, .int x1], sM Ln I1 L1 c s)) rfl hc h (by omega)) hc ?_
  refine dd_Rn.se (cf := (337, [.ref 3000000, .ref 0, .ref 148, .ref 163, .int a4, a5, a6], [.int (I1 3000000 (tn (a4 + 1))), .ref 148, .int x1], sM Ln I1 L1 c s)) ?_
  obtain ⟨hc, h⟩ := h
  refine dd_Rn.go 4 (cf' := (342, [.ref 3000000, .ref 0, .ref 148, .ref 163, .int a4, a5, a6], [.int (a4 + 2), .ref 3000000, .int (I1 3000000 (tn (a4 + 1))), .ref 148, .int x1], sM Ln I1 L1 c s)) rfl ?_ (by omega)
  refine dd_Rn.ci (fun j0 => (342, [.ref 3000000, .ref 0, .ref 148, .ref 163, .int a4, a5, a6], [.int j0, .ref 3000000, .int (I1 3000000 (tn (a4 + 1))), .ref 148, .int x1], sM Ln I1 L1 c s)) (fun j0 => (343, [.ref 3000000, .ref 0, .ref 148, .ref 163, .int a4, a5, a6], [.int (I1 3000000 (tn j0)), .int (I1 3000000 (tn (a4 + 1))), .ref 148, .int x1], sM Ln I1 L1 c s)) (fun j0 => 0 ≤ j0 ∧ tn j0 < Ln) (a4 + 2) (fun j0 hc h => dd_Rn.chk 0 (c := 0 ≤ j0 ∧ tn j0 < Ln) (A := (343, [.ref 3000000, .ref 0, .ref 148, .ref 163, .int a4, a5, a6], [.int (I1 3000000 (tn j0)), .int (I1 3000000 (tn (a4 + 1))), .ref 148, .int x1], sM Ln I1 L1 c s)) rfl hc h (by omega)) hc ?_
  refine dd_Rn.se (cf := (343, [.ref 3000000, .ref 0, .ref 148, .ref 163, .int a4, a5, a6], [.int (I1 3000000 (tn (a4 + 2))), .int (I1 3000000 (tn (a4 + 1))), .ref 148, .int x1], sM Ln I1 L1 c s)) ?_
  obtain ⟨hc, h⟩ := h
  refine dd_Rn.go 4 (cf' := (348, [.ref 3000000, .ref 0, .ref 148, .ref 163, .int a4, a5, a6], [.int (a4 + 3), .ref 3000000, .int (I1 3000000 (tn (a4 + 2))), .int (I1 3000000 (tn (a4 + 1))), .ref 148, .int x1], sM Ln I1 L1 c s)) rfl ?_ (by omega)
  refine dd_Rn.ci (fun j0 => (348, [.ref 3000000, .ref 0, .ref 148, .ref 163, .int a4, a5, a6], [.int j0, .ref 3000000, .int (I1 3000000 (tn (a4 + 2))), .int (I1 3000000 (tn (a4 + 1))), .ref 148, .int x1], sM Ln I1 L1 c s)) (fun j0 => (349, [.ref 3000000, .ref 0, .ref 148, .ref 163, .int a4, a5, a6], [.int (I1 3000000 (tn j0)), .int (I1 3000000 (tn (a4 + 2))), .int (I1 3000000 (tn (a4 + 1))), .ref 148, .int x1], sM Ln I1 L1 c s)) (fun j0 => 0 ≤ j0 ∧ tn j0 < Ln) (a4 + 3) (fun j0 hc h => dd_Rn.chk 0 (c := 0 ≤ j0 ∧ tn j0 < Ln) (A := (349, [.ref 3000000, .ref 0, .ref 148, .ref 163, .int a4, a5, a6], [.int (I1 3000000 (tn j0)), .int (I1 3000000 (tn (a4 + 2))), .int (I1 3000000 (tn (a4 + 1))), .ref 148, .int x1], sM Ln I1 L1 c s)) rfl hc h (by omega)) hc ?_
  refine dd_Rn.se (cf := (349, [.ref 3000000, .ref 0, .ref 148, .ref 163, .int a4, a5, a6], [.int (I1 3000000 (tn (a4 + 3))), .int (I1 3000000 (tn (a4 + 2))), .int (I1 3000000 (tn (a4 + 1))), .ref 148, .int x1], sM Ln I1 L1 c s)) ?_
  obtain ⟨hc, h⟩ := h
  refine dd_Rn.go 4 (cf' := (354, [.ref 3000000, .ref 0, .ref 148, .ref 163, .int a4, a5, a6], [.int (a4 + 4), .ref 3000000, .int (I1 3000000 (tn (a4 + 3))), .int (I1 3000000 (tn (a4 + 2))), .int (I1 3000000 (tn (a4 + 1))), .ref 148, .int x1], sM Ln I1 L1 c s)) rfl ?_ (by omega)
  refine dd_Rn.ci (fun j0 => (354, [.ref 3000000, .ref 0, .ref 148, .ref 163, .int a4, a5, a6], [.int j0, .ref 3000000, .int (I1 3000000 (tn (a4 + 3))), .int (I1 3000000 (tn (a4 + 2))), .int (I1 3000000 (tn (a4 + 1))), .ref 148, .int x1], sM Ln I1 L1 c s)) (fun j0 => (355, [.ref 3000000, .ref 0, .ref 148, .ref 163, .int a4, a5, a6], [.int (I1 3000000 (tn j0)), .int (I1 3000000 (tn (a4 + 3))), .int (I1 3000000 (tn (a4 + 2))), .int (I1 3000000 (tn (a4 + 1))), .ref 148, .int x1], sM Ln I1 L1 c s)) (fun j0 => 0 ≤ j0 ∧ tn j0 < Ln) (a4 + 4) (fun j0 hc h => dd_Rn.chk 0 (c := 0 ≤ j0 ∧ tn j0 < Ln) (A := (355, [.ref 3000000, .ref 0, .ref 148, .ref 163, .int a4, a5, a6], [.int (I1 3000000 (tn j0)), .int (I1 3000000 (tn (a4 + 3))), .int (I1 3000000 (tn (a4 + 2))), .int (I1 3000000 (tn (a4 + 1))), .ref 148, .int x1], sM Ln I1 L1 c s)) rfl hc h (by omega)) hc ?_
  refine dd_Rn.se (cf := (355, [.ref 3000000, .ref 0, .ref 148, .ref 163, .int a4, a5, a6], [.int (I1 3000000 (tn (a4 + 4))), .int (I1 3000000 (tn (a4 + 3))), .int (I1 3000000 (tn (a4 + 2))), .int (I1 3000000 (tn (a4 + 1))), .ref 148, .int x1], sM Ln I1 L1 c s)) ?_
  obtain ⟨hc, h⟩ := h
  refine dd_Rn.go 4 (cf' := (360, [.ref 3000000, .ref 0, .ref 148, .ref 163, .int a4, a5, a6], [.int (a4 + 5), .ref 3000000, .int (I1 3000000 (tn (a4 + 4))), .int (I1 3000000 (tn (a4 + 3))), .int (I1 3000000 (tn (a4 + 2))), .int (I1 3000000 (tn (a4 + 1))), .ref 148, .int x1], sM Ln I1 L1 c s)) rfl ?_ (by omega)
  refine dd_Rn.ci (fun j0 => (360, [.ref 3000000, .ref 0, .ref 148, .ref 163, .int a4, a5, a6], [.int j0, .ref 3000000, .int (I1 3000000 (tn (a4 + 4))), .int (I1 3000000 (tn (a4 + 3))), .int (I1 3000000 (tn (a4 + 2))), .int (I1 3000000 (tn (a4 + 1))), .ref 148, .int x1], sM Ln I1 L1 c s)) (fun j0 => (361, [.ref 3000000, .ref 0, .ref 148, .ref 163, .int a4, a5, a6], [.int (I1 3000000 (tn j0)), .int (I1 3000000 (tn (a4 + 4))), .int (I1 3000000 (tn (a4 + 3))), .int (I1 3000000 (tn (a4 + 2))), .int (I1 3000000 (tn (a4 + 1))), .ref 148, .int x1], sM Ln I1 L1 c s)) (fun j0 => 0 ≤ j0 ∧ tn j0 < Ln) (a4 + 5) (fun j0 hc h => dd_Rn.chk 0 (c := 0 ≤ j0 ∧ tn j0 < Ln) (A := (361, [.ref 3000000, .ref 0, .ref 148, .ref 163, .int a4, a5, a6], [.int (I1 3000000 (tn j0)), .int (I1 3000000 (tn (a4 + 4))), .int (I1 3000000 (tn (a4 + 3))), .int (I1 3000000 (tn (a4 + 2))), .int (I1 3000000 (tn (a4 + 1))), .ref 148, .int x1], sM Ln I1 L1 c s)) rfl hc h (by omega)) hc ?_
  refine dd_Rn.se (cf := (361, [.ref 3000000, .ref 0, .ref 148, .ref 163, .int a4, a5, a6], [.int (I1 3000000 (tn (a4 + 5))), .int (I1 3000000 (tn (a4 + 4))), .int (I1 3000000 (tn (a4 + 3))), .int (I1 3000000 (tn (a4 + 2))), .int (I1 3000000 (tn (a4 + 1))), .ref 148, .int x1], sM Ln I1 L1 c s)) ?_
  refine dd_Rn.cI 0 (pc := 361) (ls := [.ref 3000000, .ref 0, .ref 148, .ref 163, .int a4, a5, a6]) (st := [.int (I1 3000000 (tn (a4 + 5))), .int (I1 3000000 (tn (a4 + 4))), .int (I1 3000000 (tn (a4 + 3))), .int (I1 3000000 (tn (a4 + 2))), .int (I1 3000000 (tn (a4 + 1))), .ref 148, .int x1]) (x := m_X11_feed) (as := [.ref 148, .int (I1 3000000 (tn (a4 + 1))), .int (I1 3000000 (tn (a4 + 2))), .int (I1 3000000 (tn (a4 + 3))), .int (I1 3000000 (tn (a4 + 4))), .int (I1 3000000 (tn (a4 + 5)))]) (rest := [.int x1]) rfl rfl rfl rfl h ?_
  intro x2 I2 L2 h
  show dd_Rn (e + 16) m_L_law_ (364, [.ref 3000000, .ref 0, .ref 148, .ref 163, .int a4, a5, a6], [.int x2, .int x1], sM Ln I2 L2 c s) _
  refine dd_Rn.ite 0 (c := x1 = x2) (A := (3009, [.ref 3000000, .ref 0, .ref 148, .ref 163, .int a4, a5, a6], [], sM Ln I2 L2 c s)) (B := (367, [.ref 3000000, .ref 0, .ref 148, .ref 163, .int a4, a5, a6], [], sM Ln I2 L2 c s)) rfl (fun hc => ?_) (fun hc => ?_) (by omega)
  · have h := h.1 hc
    exact dd_Rn.go 0 (cf' := (3009, [.ref 3000000, .ref 0, .ref 148, .ref 163, .int a4, a5, a6], [], sM Ln I2 L2 c s)) rfl h (by omega)
  · have h := h.2 hc
    exact dd_Rn.retK 1 (pc := 368) (ls := [.ref 3000000, .ref 0, .ref 148, .ref 163, .int a4, a5, a6]) (st := [.int 0]) (M := sM Ln I2 L2 c s) (o := (none, .int 0, sM Ln I2 L2 c s)) rfl rfl h (by omega)

theorem w_L_law__369 {Ln d c s : Nat} {I : Nat → Nat → Int32} {L : Nat → Nat → Int64} {Q : dd_O → Prop} {a4 : Int32} {a5 a6 : Value} (hd : 28 ≤ d) (h : ((0 ≤ a4 + 1 ∧ tn (a4 + 1) < Ln) ∧ dd_Ev (d - 1) m_X10_end [.ref 0, .int (I 3000000 (tn (a4 + 1)))] (sM Ln I L c s) (dd_RI Ln c s (fun x1 I1 L1 => ((0 ≤ a4 + 1 ∧ tn (a4 + 1) < Ln) ∧ dd_Ev (d - 1) m_X11_end [.ref 148, .int (I1 3000000 (tn (a4 + 1)))] (sM Ln I1 L1 c s) (dd_RI Ln c s (fun x2 I2 L2 => ((x1 = x2 → dd_Rn d m_L_law_ (3009, [.ref 3000000, .ref 0, .ref 148, .ref 163, .int a4, a5, a6], [], sM Ln I2 L2 c s) Q) ∧ (¬ (x1 = x2) → Q (none, .int 0, sM Ln I2 L2 c s)))))))))) : dd_Rn d m_L_law_ (369, [.ref 3000000, .ref 0, .ref 148, .ref 163, .int a4, a5, a6], [], sM Ln I L c s) Q := by
  obtain ⟨e, rfl⟩ : ∃ e, d = e + 16 := ⟨d - 16, by omega⟩
  obtain ⟨hc, h⟩ := h
  refine dd_Rn.go 5 (cf' := (375, [.ref 3000000, .ref 0, .ref 148, .ref 163, .int a4, a5, a6], [.int (a4 + 1), .ref 3000000, .ref 0], sM Ln I L c s)) rfl ?_ (by omega)
  refine dd_Rn.ci (fun j0 => (375, [.ref 3000000, .ref 0, .ref 148, .ref 163, .int a4, a5, a6], [.int j0, .ref 3000000, .ref 0], sM Ln I L c s)) (fun j0 => (376, [.ref 3000000, .ref 0, .ref 148, .ref 163, .int a4, a5, a6], [.int (I 3000000 (tn j0)), .ref 0], sM Ln I L c s)) (fun j0 => 0 ≤ j0 ∧ tn j0 < Ln) (a4 + 1) (fun j0 hc h => dd_Rn.chk 0 (c := 0 ≤ j0 ∧ tn j0 < Ln) (A := (376, [.ref 3000000, .ref 0, .ref 148, .ref 163, .int a4, a5, a6], [.int (I 3000000 (tn j0)), .ref 0], sM Ln I L c s)) rfl hc h (by omega)) hc ?_
  refine dd_Rn.se (cf := (376, [.ref 3000000, .ref 0, .ref 148, .ref 163, .int a4, a5, a6], [.int (I 3000000 (tn (a4 + 1))), .ref 0], sM Ln I L c s)) ?_
  refine dd_Rn.cI 0 (pc := 376) (ls := [.ref 3000000, .ref 0, .ref 148, .ref 163, .int a4, a5, a6]) (st := [.int (I 3000000 (tn (a4 + 1))), .ref 0]) (x := m_X10_end) (as := [.ref 0, .int (I 3000000 (tn (a4 + 1)))]) (rest := []) rfl rfl rfl rfl h ?_
  intro x1 I1 L1 h
  show dd_Rn (e + 16) m_L_law_ (379, [.ref 3000000, .ref 0, .ref 148, .ref 163, .int a4, a5, a6], [.int x1], sM Ln I1 L1 c s) _
  obtain ⟨hc, h⟩ := h
  refine dd_Rn.go 5 (cf' := (385, [.ref 3000000, .ref 0, .ref 148, .ref 163, .int a4, a5, a6], [.int (a4 + 1), .ref 3000000, .ref 148, .int x1], sM Ln I1 L1 c s)) rfl ?_ (by omega)
  refine dd_Rn.ci (fun j0 => (385, [.ref 3000000, .ref 0, .ref 148, .ref 163, .int a4, a5, a6], [.int j0, .ref 3000000, .ref 148, .int x1], sM Ln I1 L1 c s)) (fun j0 => (386, [.ref 3000000, .ref 0, .ref 148, .ref 163, .int a4, a5, a6], [.int (I1 3000000 (tn j0)), .ref 148, .int x1], sM Ln I1 L1 c s)) (fun j0 => 0 ≤ j0 ∧ tn j0 < Ln) (a4 + 1) (fun j0 hc h => dd_Rn.chk 0 (c := 0 ≤ j0 ∧ tn j0 < Ln) (A := (386, [.ref 3000000, .ref 0, .ref 148, .ref 163, .int a4, a5, a6], [.int (I1 3000000 (tn j0)), .ref 148, .int x1], sM Ln I1 L1 c s)) rfl hc h (by omega)) hc ?_
  refine dd_Rn.se (cf := (386, [.ref 3000000, .ref 0, .ref 148, .ref 163, .int a4, a5, a6], [.int (I1 3000000 (tn (a4 + 1))), .ref 148, .int x1], sM Ln I1 L1 c s)) ?_
  refine dd_Rn.cI 0 (pc := 386) (ls := [.ref 3000000, .ref 0, .ref 148, .ref 163, .int a4, a5, a6]) (st := [.int (I1 3000000 (tn (a4 + 1))), .ref 148, .int x1]) (x := m_X11_end) (as := [.ref 148, .int (I1 3000000 (tn (a4 + 1)))]) (rest := [.int x1]) rfl rfl rfl rfl h ?_
  intro x2 I2 L2 h
  show dd_Rn (e + 16) m_L_law_ (389, [.ref 3000000, .ref 0, .ref 148, .ref 163, .int a4, a5, a6], [.int x2, .int x1], sM Ln I2 L2 c s) _
  refine dd_Rn.ite 0 (c := x1 = x2) (A := (3009, [.ref 3000000, .ref 0, .ref 148, .ref 163, .int a4, a5, a6], [], sM Ln I2 L2 c s)) (B := (392, [.ref 3000000, .ref 0, .ref 148, .ref 163, .int a4, a5, a6], [], sM Ln I2 L2 c s)) rfl (fun hc => ?_) (fun hc => ?_) (by omega)
  · have h := h.1 hc
    exact dd_Rn.go 0 (cf' := (3009, [.ref 3000000, .ref 0, .ref 148, .ref 163, .int a4, a5, a6], [], sM Ln I2 L2 c s)) rfl h (by omega)
  · have h := h.2 hc
    exact dd_Rn.retK 1 (pc := 393) (ls := [.ref 3000000, .ref 0, .ref 148, .ref 163, .int a4, a5, a6]) (st := [.int 0]) (M := sM Ln I2 L2 c s) (o := (none, .int 0, sM Ln I2 L2 c s)) rfl rfl h (by omega)

theorem w_L_law__394 {Ln d c s : Nat} {I : Nat → Nat → Int32} {L : Nat → Nat → Int64} {Q : dd_O → Prop} {a4 : Int32} {a5 a6 : Value} (hd : 28 ≤ d) (h : dd_Ev (d - 1) m_L_wood [.ref 0, .ref 163] (sM Ln I L c s) (dd_RJ Ln c s (fun x1 I1 L1 c1 s1 => dd_Ev (d - 1) m_X11_wood [.ref 148] (sM Ln I1 L1 c1 s1) (dd_RI Ln c1 s1 (fun x2 I2 L2 => ((I2 148 0 = x1 → ((x1 = 0 → ((lg_cmp (L2 163 0) x2.toInt64 = 0 → dd_Rn d m_L_law_ (435, [.ref 3000000, .ref 0, .ref 148, .ref 163, .int a4, .int x1, .int x2], [], sM Ln I2 L2 c1 s1) Q) ∧ (¬ (lg_cmp (L2 163 0) x2.toInt64 = 0) → Q (none, .int 0, sM Ln I2 L2 c1 s1)))) ∧ (¬ (x1 = 0) → dd_Rn d m_L_law_ (435, [.ref 3000000, .ref 0, .ref 148, .ref 163, .int a4, .int x1, .int x2], [], sM Ln I2 L2 c1 s1) Q))) ∧ (¬ (I2 148 0 = x1) → Q (none, .int 0, sM Ln I2 L2 c1 s1)))))))) : dd_Rn d m_L_law_ (394, [.ref 3000000, .ref 0, .ref 148, .ref 163, .int a4, a5, a6], [], sM Ln I L c s) Q := by
  obtain ⟨e, rfl⟩ : ∃ e, d = e + 16 := ⟨d - 16, by omega⟩
  refine dd_Rn.cJ 2 (pc := 396) (ls := [.ref 3000000, .ref 0, .ref 148, .ref 163, .int a4, a5, a6]) (st := [.ref 163, .ref 0]) (x := m_L_wood) (as := [.ref 0, .ref 163]) (rest := []) rfl rfl rfl rfl h ?_
  intro x1 I1 L1 c1 s1 h
  show dd_Rn (e + 16) m_L_law_ (399, [.ref 3000000, .ref 0, .ref 148, .ref 163, .int a4, a5, a6], [.int x1], sM Ln I1 L1 c1 s1) _
  refine dd_Rn.cI 2 (pc := 402) (ls := [.ref 3000000, .ref 0, .ref 148, .ref 163, .int a4, .int x1, a6]) (st := [.ref 148]) (x := m_X11_wood) (as := [.ref 148]) (rest := []) rfl rfl rfl rfl h ?_
  intro x2 I2 L2 h
  show dd_Rn (e + 16) m_L_law_ (405, [.ref 3000000, .ref 0, .ref 148, .ref 163, .int a4, .int x1, a6], [.int x2], sM Ln I2 L2 c1 s1) _
  refine dd_Rn.sub 2 (pc := 408) (ls := [.ref 3000000, .ref 0, .ref 148, .ref 163, .int a4, .int x1, .int x2]) (st := [.ref 148]) (M := sM Ln I2 L2 c1 s1) (x := m_X11_thrown) (as := [.ref 148]) (rest := []) rfl rfl rfl rfl ?_
  show dd_Rn (e + 15) m_X11_thrown (0, [.ref 148], [], sM Ln I2 L2 c1 s1) _
  refine dd_Rn.retK 2 (pc := 4) (ls := [.ref 148]) (st := [.int (I2 148 0)]) (M := sM Ln I2 L2 c1 s1) (o := (none, .int (I2 148 0), sM Ln I2 L2 c1 s1)) rfl rfl (dd_Af.ret rfl ?_) (by omega)
  show dd_Rn (e + 16) m_L_law_ (411, [.ref 3000000, .ref 0, .ref 148, .ref 163, .int a4, .int x1, .int x2], [.int (I2 148 0)], sM Ln I2 L2 c1 s1) _
  refine dd_Rn.ite 1 (c := I2 148 0 = x1) (A := (418, [.ref 3000000, .ref 0, .ref 148, .ref 163, .int a4, .int x1, .int x2], [], sM Ln I2 L2 c1 s1)) (B := (416, [.ref 3000000, .ref 0, .ref 148, .ref 163, .int a4, .int x1, .int x2], [], sM Ln I2 L2 c1 s1)) rfl (fun hc => ?_) (fun hc => ?_) (by omega)
  · have h := h.1 hc
    refine dd_Rn.ite 1 (c := x1 = 0) (A := (423, [.ref 3000000, .ref 0, .ref 148, .ref 163, .int a4, .int x1, .int x2], [], sM Ln I2 L2 c1 s1)) (B := (435, [.ref 3000000, .ref 0, .ref 148, .ref 163, .int a4, .int x1, .int x2], [], sM Ln I2 L2 c1 s1)) rfl (fun hc => ?_) (fun hc => ?_) (by omega)
    · have h := h.1 hc
      refine dd_Rn.ite 6 (c := lg_cmp (L2 163 0) x2.toInt64 = 0) (A := (435, [.ref 3000000, .ref 0, .ref 148, .ref 163, .int a4, .int x1, .int x2], [], sM Ln I2 L2 c1 s1)) (B := (433, [.ref 3000000, .ref 0, .ref 148, .ref 163, .int a4, .int x1, .int x2], [], sM Ln I2 L2 c1 s1)) rfl (fun hc => ?_) (fun hc => ?_) (by omega)
      · have h := h.1 hc
        exact dd_Rn.go 0 (cf' := (435, [.ref 3000000, .ref 0, .ref 148, .ref 163, .int a4, .int x1, .int x2], [], sM Ln I2 L2 c1 s1)) rfl h (by omega)
      · have h := h.2 hc
        exact dd_Rn.retK 1 (pc := 434) (ls := [.ref 3000000, .ref 0, .ref 148, .ref 163, .int a4, .int x1, .int x2]) (st := [.int 0]) (M := sM Ln I2 L2 c1 s1) (o := (none, .int 0, sM Ln I2 L2 c1 s1)) rfl rfl h (by omega)
    · have h := h.2 hc
      exact dd_Rn.go 0 (cf' := (435, [.ref 3000000, .ref 0, .ref 148, .ref 163, .int a4, .int x1, .int x2], [], sM Ln I2 L2 c1 s1)) rfl h (by omega)
  · have h := h.2 hc
    exact dd_Rn.retK 1 (pc := 417) (ls := [.ref 3000000, .ref 0, .ref 148, .ref 163, .int a4, .int x1, .int x2]) (st := [.int 0]) (M := sM Ln I2 L2 c1 s1) (o := (none, .int 0, sM Ln I2 L2 c1 s1)) rfl rfl h (by omega)

theorem w_L_law__435 {Ln d c s : Nat} {I : Nat → Nat → Int32} {L : Nat → Nat → Int64} {Q : dd_O → Prop} {a4 a5 a6 : Int32} (hd : 28 ≤ d) (h : dd_Rn d m_L_law_ (3009, [.ref 3000000, .ref 0, .ref 148, .ref 163, .int a4, .int a5, .int a6], [], sM Ln I L c s) Q) : dd_Rn d m_L_law_ (435, [.ref 3000000, .ref 0, .ref 148, .ref 163, .int a4, .int a5, .int a6], [], sM Ln I L c s) Q := by
  obtain ⟨e, rfl⟩ : ∃ e, d = e + 16 := ⟨d - 16, by omega⟩
  exact dd_Rn.go 1 (cf' := (3009, [.ref 3000000, .ref 0, .ref 148, .ref 163, .int a4, .int a5, .int a6], [], sM Ln I L c s)) rfl h (by omega)

theorem w_L_law__438 {Ln d c s : Nat} {I : Nat → Nat → Int32} {L : Nat → Nat → Int64} {Q : dd_O → Prop} {a4 : Int32} {a5 a6 : Value} (hd : 28 ≤ d) (h : dd_Ev (d - 1) m_L_law [.ref 0, .ref 163] (sM Ln I L c s) (dd_RJ Ln c s (fun x1 I1 L1 c1 s1 => dd_Ev (d - 1) m_X11_law [.ref 148] (sM Ln I1 L1 c1 s1) (dd_RI Ln c1 s1 (fun x2 I2 L2 => ((I2 148 0 = x1 → ((x1 = 0 → ((lg_cmp (L2 163 0) x2.toInt64 = 0 → dd_Rn d m_L_law_ (479, [.ref 3000000, .ref 0, .ref 148, .ref 163, .int a4, .int x1, .int x2], [], sM Ln I2 L2 c1 s1) Q) ∧ (¬ (lg_cmp (L2 163 0) x2.toInt64 = 0) → Q (none, .int 0, sM Ln I2 L2 c1 s1)))) ∧ (¬ (x1 = 0) → dd_Rn d m_L_law_ (479, [.ref 3000000, .ref 0, .ref 148, .ref 163, .int a4, .int x1, .int x2], [], sM Ln I2 L2 c1 s1) Q))) ∧ (¬ (I2 148 0 = x1) → Q (none, .int 0, sM Ln I2 L2 c1 s1)))))))) : dd_Rn d m_L_law_ (438, [.ref 3000000, .ref 0, .ref 148, .ref 163, .int a4, a5, a6], [], sM Ln I L c s) Q := by
  obtain ⟨e, rfl⟩ : ∃ e, d = e + 16 := ⟨d - 16, by omega⟩
  refine dd_Rn.cJ 2 (pc := 440) (ls := [.ref 3000000, .ref 0, .ref 148, .ref 163, .int a4, a5, a6]) (st := [.ref 163, .ref 0]) (x := m_L_law) (as := [.ref 0, .ref 163]) (rest := []) rfl rfl rfl rfl h ?_
  intro x1 I1 L1 c1 s1 h
  show dd_Rn (e + 16) m_L_law_ (443, [.ref 3000000, .ref 0, .ref 148, .ref 163, .int a4, a5, a6], [.int x1], sM Ln I1 L1 c1 s1) _
  refine dd_Rn.cI 2 (pc := 446) (ls := [.ref 3000000, .ref 0, .ref 148, .ref 163, .int a4, .int x1, a6]) (st := [.ref 148]) (x := m_X11_law) (as := [.ref 148]) (rest := []) rfl rfl rfl rfl h ?_
  intro x2 I2 L2 h
  show dd_Rn (e + 16) m_L_law_ (449, [.ref 3000000, .ref 0, .ref 148, .ref 163, .int a4, .int x1, a6], [.int x2], sM Ln I2 L2 c1 s1) _
  refine dd_Rn.sub 2 (pc := 452) (ls := [.ref 3000000, .ref 0, .ref 148, .ref 163, .int a4, .int x1, .int x2]) (st := [.ref 148]) (M := sM Ln I2 L2 c1 s1) (x := m_X11_thrown) (as := [.ref 148]) (rest := []) rfl rfl rfl rfl ?_
  show dd_Rn (e + 15) m_X11_thrown (0, [.ref 148], [], sM Ln I2 L2 c1 s1) _
  refine dd_Rn.retK 2 (pc := 4) (ls := [.ref 148]) (st := [.int (I2 148 0)]) (M := sM Ln I2 L2 c1 s1) (o := (none, .int (I2 148 0), sM Ln I2 L2 c1 s1)) rfl rfl (dd_Af.ret rfl ?_) (by omega)
  show dd_Rn (e + 16) m_L_law_ (455, [.ref 3000000, .ref 0, .ref 148, .ref 163, .int a4, .int x1, .int x2], [.int (I2 148 0)], sM Ln I2 L2 c1 s1) _
  refine dd_Rn.ite 1 (c := I2 148 0 = x1) (A := (462, [.ref 3000000, .ref 0, .ref 148, .ref 163, .int a4, .int x1, .int x2], [], sM Ln I2 L2 c1 s1)) (B := (460, [.ref 3000000, .ref 0, .ref 148, .ref 163, .int a4, .int x1, .int x2], [], sM Ln I2 L2 c1 s1)) rfl (fun hc => ?_) (fun hc => ?_) (by omega)
  · have h := h.1 hc
    refine dd_Rn.ite 1 (c := x1 = 0) (A := (467, [.ref 3000000, .ref 0, .ref 148, .ref 163, .int a4, .int x1, .int x2], [], sM Ln I2 L2 c1 s1)) (B := (479, [.ref 3000000, .ref 0, .ref 148, .ref 163, .int a4, .int x1, .int x2], [], sM Ln I2 L2 c1 s1)) rfl (fun hc => ?_) (fun hc => ?_) (by omega)
    · have h := h.1 hc
      refine dd_Rn.ite 6 (c := lg_cmp (L2 163 0) x2.toInt64 = 0) (A := (479, [.ref 3000000, .ref 0, .ref 148, .ref 163, .int a4, .int x1, .int x2], [], sM Ln I2 L2 c1 s1)) (B := (477, [.ref 3000000, .ref 0, .ref 148, .ref 163, .int a4, .int x1, .int x2], [], sM Ln I2 L2 c1 s1)) rfl (fun hc => ?_) (fun hc => ?_) (by omega)
      · have h := h.1 hc
        exact dd_Rn.go 0 (cf' := (479, [.ref 3000000, .ref 0, .ref 148, .ref 163, .int a4, .int x1, .int x2], [], sM Ln I2 L2 c1 s1)) rfl h (by omega)
      · have h := h.2 hc
        exact dd_Rn.retK 1 (pc := 478) (ls := [.ref 3000000, .ref 0, .ref 148, .ref 163, .int a4, .int x1, .int x2]) (st := [.int 0]) (M := sM Ln I2 L2 c1 s1) (o := (none, .int 0, sM Ln I2 L2 c1 s1)) rfl rfl h (by omega)
    · have h := h.2 hc
      exact dd_Rn.go 0 (cf' := (479, [.ref 3000000, .ref 0, .ref 148, .ref 163, .int a4, .int x1, .int x2], [], sM Ln I2 L2 c1 s1)) rfl h (by omega)
  · have h := h.2 hc
    exact dd_Rn.retK 1 (pc := 461) (ls := [.ref 3000000, .ref 0, .ref 148, .ref 163, .int a4, .int x1, .int x2]) (st := [.int 0]) (M := sM Ln I2 L2 c1 s1) (o := (none, .int 0, sM Ln I2 L2 c1 s1)) rfl rfl h (by omega)

theorem w_L_law__479 {Ln d c s : Nat} {I : Nat → Nat → Int32} {L : Nat → Nat → Int64} {Q : dd_O → Prop} {a4 a5 a6 : Int32} (hd : 28 ≤ d) (h : dd_Rn d m_L_law_ (3009, [.ref 3000000, .ref 0, .ref 148, .ref 163, .int a4, .int a5, .int a6], [], sM Ln I L c s) Q) : dd_Rn d m_L_law_ (479, [.ref 3000000, .ref 0, .ref 148, .ref 163, .int a4, .int a5, .int a6], [], sM Ln I L c s) Q := by
  obtain ⟨e, rfl⟩ : ∃ e, d = e + 16 := ⟨d - 16, by omega⟩
  exact dd_Rn.go 1 (cf' := (3009, [.ref 3000000, .ref 0, .ref 148, .ref 163, .int a4, .int a5, .int a6], [], sM Ln I L c s)) rfl h (by omega)

theorem w_L_law__482 {Ln d c s : Nat} {I : Nat → Nat → Int32} {L : Nat → Nat → Int64} {Q : dd_O → Prop} {a4 : Int32} {a5 a6 : Value} (hd : 28 ≤ d) (h : dd_Ev (d - 1) m_X10_fault [.ref 0] (sM Ln I L c s) (dd_RI Ln c s (fun x1 I1 L1 => dd_Ev (d - 1) m_X11_fault [.ref 148] (sM Ln I1 L1 c s) (dd_RI Ln c s (fun x2 I2 L2 => ((x1 = x2 → dd_Rn d m_L_law_ (3009, [.ref 3000000, .ref 0, .ref 148, .ref 163, .int a4, a5, a6], [], sM Ln I2 L2 c s) Q) ∧ (¬ (x1 = x2) → Q (none, .int 0, sM Ln I2 L2 c s)))))))) : dd_Rn d m_L_law_ (482, [.ref 3000000, .ref 0, .ref 148, .ref 163, .int a4, a5, a6], [], sM Ln I L c s) Q := by
  obtain ⟨e, rfl⟩ : ∃ e, d = e + 16 := ⟨d - 16, by omega⟩
  refine dd_Rn.cI 1 (pc := 483) (ls := [.ref 3000000, .ref 0, .ref 148, .ref 163, .int a4, a5, a6]) (st := [.ref 0]) (x := m_X10_fault) (as := [.ref 0]) (rest := []) rfl rfl rfl rfl h ?_
  intro x1 I1 L1 h
  show dd_Rn (e + 16) m_L_law_ (486, [.ref 3000000, .ref 0, .ref 148, .ref 163, .int a4, a5, a6], [.int x1], sM Ln I1 L1 c s) _
  refine dd_Rn.cI 1 (pc := 487) (ls := [.ref 3000000, .ref 0, .ref 148, .ref 163, .int a4, a5, a6]) (st := [.ref 148, .int x1]) (x := m_X11_fault) (as := [.ref 148]) (rest := [.int x1]) rfl rfl rfl rfl h ?_
  intro x2 I2 L2 h
  show dd_Rn (e + 16) m_L_law_ (490, [.ref 3000000, .ref 0, .ref 148, .ref 163, .int a4, a5, a6], [.int x2, .int x1], sM Ln I2 L2 c s) _
  refine dd_Rn.ite 0 (c := x1 = x2) (A := (3009, [.ref 3000000, .ref 0, .ref 148, .ref 163, .int a4, a5, a6], [], sM Ln I2 L2 c s)) (B := (493, [.ref 3000000, .ref 0, .ref 148, .ref 163, .int a4, a5, a6], [], sM Ln I2 L2 c s)) rfl (fun hc => ?_) (fun hc => ?_) (by omega)
  · have h := h.1 hc
    exact dd_Rn.go 0 (cf' := (3009, [.ref 3000000, .ref 0, .ref 148, .ref 163, .int a4, a5, a6], [], sM Ln I2 L2 c s)) rfl h (by omega)
  · have h := h.2 hc
    exact dd_Rn.retK 1 (pc := 494) (ls := [.ref 3000000, .ref 0, .ref 148, .ref 163, .int a4, a5, a6]) (st := [.int 0]) (M := sM Ln I2 L2 c s) (o := (none, .int 0, sM Ln I2 L2 c s)) rfl rfl h (by omega)

theorem w_L_law__495 {Ln d c s : Nat} {I : Nat → Nat → Int32} {L : Nat → Nat → Int64} {Q : dd_O → Prop} {a4 : Int32} {a5 a6 : Value} (hd : 28 ≤ d) (h : ((0 ≤ a4 + 1 ∧ tn (a4 + 1) < Ln) ∧ ((0 ≤ a4 + 2 ∧ tn (a4 + 2) < Ln) ∧ dd_Ev (d - 1) m_L_cell [.ref 0, .int (I 3000000 (tn (a4 + 1))), .int (I 3000000 (tn (a4 + 2))), .ref 163] (sM Ln I L c s) (dd_RJ Ln c s (fun x1 I1 L1 c1 s1 => ((0 ≤ a4 + 1 ∧ tn (a4 + 1) < Ln) ∧ ((0 ≤ a4 + 2 ∧ tn (a4 + 2) < Ln) ∧ dd_Ev (d - 1) m_X11_cell [.ref 148, .int (I1 3000000 (tn (a4 + 1))), .int (I1 3000000 (tn (a4 + 2)))] (sM Ln I1 L1 c1 s1) (dd_RI Ln c1 s1 (fun x2 I2 L2 => ((I2 148 0 = x1 → ((x1 = 0 → ((lg_cmp (L2 163 0) x2.toInt64 = 0 → dd_Rn d m_L_law_ (560, [.ref 3000000, .ref 0, .ref 148, .ref 163, .int a4, .int x1, .int x2], [], sM Ln I2 L2 c1 s1) Q) ∧ (¬ (lg_cmp (L2 163 0) x2.toInt64 = 0) → Q (none, .int 0, sM Ln I2 L2 c1 s1)))) ∧ (¬ (x1 = 0) → dd_Rn d m_L_law_ (560, [.ref 3000000, .ref 0, .ref 148, .ref 163, .int a4, .int x1, .int x2], [], sM Ln I2 L2 c1 s1) Q))) ∧ (¬ (I2 148 0 = x1) → Q (none, .int 0, sM Ln I2 L2 c1 s1)))))))))))) : dd_Rn d m_L_law_ (495, [.ref 3000000, .ref 0, .ref 148, .ref 163, .int a4, a5, a6], [], sM Ln I L c s) Q := by
  obtain ⟨e, rfl⟩ : ∃ e, d = e + 16 := ⟨d - 16, by omega⟩
  obtain ⟨hc, h⟩ := h
  refine dd_Rn.go 5 (cf' := (501, [.ref 3000000, .ref 0, .ref 148, .ref 163, .int a4, a5, a6], [.int (a4 + 1), .ref 3000000, .ref 0], sM Ln I L c s)) rfl ?_ (by omega)
  refine dd_Rn.ci (fun j0 => (501, [.ref 3000000, .ref 0, .ref 148, .ref 163, .int a4, a5, a6], [.int j0, .ref 3000000, .ref 0], sM Ln I L c s)) (fun j0 => (502, [.ref 3000000, .ref 0, .ref 148, .ref 163, .int a4, a5, a6], [.int (I 3000000 (tn j0)), .ref 0], sM Ln I L c s)) (fun j0 => 0 ≤ j0 ∧ tn j0 < Ln) (a4 + 1) (fun j0 hc h => dd_Rn.chk 0 (c := 0 ≤ j0 ∧ tn j0 < Ln) (A := (502, [.ref 3000000, .ref 0, .ref 148, .ref 163, .int a4, a5, a6], [.int (I 3000000 (tn j0)), .ref 0], sM Ln I L c s)) rfl hc h (by omega)) hc ?_
  refine dd_Rn.se (cf := (502, [.ref 3000000, .ref 0, .ref 148, .ref 163, .int a4, a5, a6], [.int (I 3000000 (tn (a4 + 1))), .ref 0], sM Ln I L c s)) ?_
  obtain ⟨hc, h⟩ := h
  refine dd_Rn.go 4 (cf' := (507, [.ref 3000000, .ref 0, .ref 148, .ref 163, .int a4, a5, a6], [.int (a4 + 2), .ref 3000000, .int (I 3000000 (tn (a4 + 1))), .ref 0], sM Ln I L c s)) rfl ?_ (by omega)
  refine dd_Rn.ci (fun j0 => (507, [.ref 3000000, .ref 0, .ref 148, .ref 163, .int a4, a5, a6], [.int j0, .ref 3000000, .int (I 3000000 (tn (a4 + 1))), .ref 0], sM Ln I L c s)) (fun j0 => (508, [.ref 3000000, .ref 0, .ref 148, .ref 163, .int a4, a5, a6], [.int (I 3000000 (tn j0)), .int (I 3000000 (tn (a4 + 1))), .ref 0], sM Ln I L c s)) (fun j0 => 0 ≤ j0 ∧ tn j0 < Ln) (a4 + 2) (fun j0 hc h => dd_Rn.chk 0 (c := 0 ≤ j0 ∧ tn j0 < Ln) (A := (508, [.ref 3000000, .ref 0, .ref 148, .ref 163, .int a4, a5, a6], [.int (I 3000000 (tn j0)), .int (I 3000000 (tn (a4 + 1))), .ref 0], sM Ln I L c s)) rfl hc h (by omega)) hc ?_
  refine dd_Rn.se (cf := (508, [.ref 3000000, .ref 0, .ref 148, .ref 163, .int a4, a5, a6], [.int (I 3000000 (tn (a4 + 2))), .int (I 3000000 (tn (a4 + 1))), .ref 0], sM Ln I L c s)) ?_
  refine dd_Rn.cJ 1 (pc := 509) (ls := [.ref 3000000, .ref 0, .ref 148, .ref 163, .int a4, a5, a6]) (st := [.ref 163, .int (I 3000000 (tn (a4 + 2))), .int (I 3000000 (tn (a4 + 1))), .ref 0]) (x := m_L_cell) (as := [.ref 0, .int (I 3000000 (tn (a4 + 1))), .int (I 3000000 (tn (a4 + 2))), .ref 163]) (rest := []) rfl rfl rfl rfl h ?_
  intro x1 I1 L1 c1 s1 h
  show dd_Rn (e + 16) m_L_law_ (512, [.ref 3000000, .ref 0, .ref 148, .ref 163, .int a4, a5, a6], [.int x1], sM Ln I1 L1 c1 s1) _
  obtain ⟨hc, h⟩ := h
  refine dd_Rn.go 6 (cf' := (520, [.ref 3000000, .ref 0, .ref 148, .ref 163, .int a4, .int x1, a6], [.int (a4 + 1), .ref 3000000, .ref 148], sM Ln I1 L1 c1 s1)) rfl ?_ (by omega)
  refine dd_Rn.ci (fun j0 => (520, [.ref 3000000, .ref 0, .ref 148, .ref 163, .int a4, .int x1, a6], [.int j0, .ref 3000000, .ref 148], sM Ln I1 L1 c1 s1)) (fun j0 => (521, [.ref 3000000, .ref 0, .ref 148, .ref 163, .int a4, .int x1, a6], [.int (I1 3000000 (tn j0)), .ref 148], sM Ln I1 L1 c1 s1)) (fun j0 => 0 ≤ j0 ∧ tn j0 < Ln) (a4 + 1) (fun j0 hc h => dd_Rn.chk 0 (c := 0 ≤ j0 ∧ tn j0 < Ln) (A := (521, [.ref 3000000, .ref 0, .ref 148, .ref 163, .int a4, .int x1, a6], [.int (I1 3000000 (tn j0)), .ref 148], sM Ln I1 L1 c1 s1)) rfl hc h (by omega)) hc ?_
  refine dd_Rn.se (cf := (521, [.ref 3000000, .ref 0, .ref 148, .ref 163, .int a4, .int x1, a6], [.int (I1 3000000 (tn (a4 + 1))), .ref 148], sM Ln I1 L1 c1 s1)) ?_
  obtain ⟨hc, h⟩ := h
  refine dd_Rn.go 4 (cf' := (526, [.ref 3000000, .ref 0, .ref 148, .ref 163, .int a4, .int x1, a6], [.int (a4 + 2), .ref 3000000, .int (I1 3000000 (tn (a4 + 1))), .ref 148], sM Ln I1 L1 c1 s1)) rfl ?_ (by omega)
  refine dd_Rn.ci (fun j0 => (526, [.ref 3000000, .ref 0, .ref 148, .ref 163, .int a4, .int x1, a6], [.int j0, .ref 3000000, .int (I1 3000000 (tn (a4 + 1))), .ref 148], sM Ln I1 L1 c1 s1)) (fun j0 => (527, [.ref 3000000, .ref 0, .ref 148, .ref 163, .int a4, .int x1, a6], [.int (I1 3000000 (tn j0)), .int (I1 3000000 (tn (a4 + 1))), .ref 148], sM Ln I1 L1 c1 s1)) (fun j0 => 0 ≤ j0 ∧ tn j0 < Ln) (a4 + 2) (fun j0 hc h => dd_Rn.chk 0 (c := 0 ≤ j0 ∧ tn j0 < Ln) (A := (527, [.ref 3000000, .ref 0, .ref 148, .ref 163, .int a4, .int x1, a6], [.int (I1 3000000 (tn j0)), .int (I1 3000000 (tn (a4 + 1))), .ref 148], sM Ln I1 L1 c1 s1)) rfl hc h (by omega)) hc ?_
  refine dd_Rn.se (cf := (527, [.ref 3000000, .ref 0, .ref 148, .ref 163, .int a4, .int x1, a6], [.int (I1 3000000 (tn (a4 + 2))), .int (I1 3000000 (tn (a4 + 1))), .ref 148], sM Ln I1 L1 c1 s1)) ?_
  refine dd_Rn.cI 0 (pc := 527) (ls := [.ref 3000000, .ref 0, .ref 148, .ref 163, .int a4, .int x1, a6]) (st := [.int (I1 3000000 (tn (a4 + 2))), .int (I1 3000000 (tn (a4 + 1))), .ref 148]) (x := m_X11_cell) (as := [.ref 148, .int (I1 3000000 (tn (a4 + 1))), .int (I1 3000000 (tn (a4 + 2)))]) (rest := []) rfl rfl rfl rfl h ?_
  intro x2 I2 L2 h
  show dd_Rn (e + 16) m_L_law_ (530, [.ref 3000000, .ref 0, .ref 148, .ref 163, .int a4, .int x1, a6], [.int x2], sM Ln I2 L2 c1 s1) _
  refine dd_Rn.sub 2 (pc := 533) (ls := [.ref 3000000, .ref 0, .ref 148, .ref 163, .int a4, .int x1, .int x2]) (st := [.ref 148]) (M := sM Ln I2 L2 c1 s1) (x := m_X11_thrown) (as := [.ref 148]) (rest := []) rfl rfl rfl rfl ?_
  show dd_Rn (e + 15) m_X11_thrown (0, [.ref 148], [], sM Ln I2 L2 c1 s1) _
  refine dd_Rn.retK 2 (pc := 4) (ls := [.ref 148]) (st := [.int (I2 148 0)]) (M := sM Ln I2 L2 c1 s1) (o := (none, .int (I2 148 0), sM Ln I2 L2 c1 s1)) rfl rfl (dd_Af.ret rfl ?_) (by omega)
  show dd_Rn (e + 16) m_L_law_ (536, [.ref 3000000, .ref 0, .ref 148, .ref 163, .int a4, .int x1, .int x2], [.int (I2 148 0)], sM Ln I2 L2 c1 s1) _
  refine dd_Rn.ite 1 (c := I2 148 0 = x1) (A := (543, [.ref 3000000, .ref 0, .ref 148, .ref 163, .int a4, .int x1, .int x2], [], sM Ln I2 L2 c1 s1)) (B := (541, [.ref 3000000, .ref 0, .ref 148, .ref 163, .int a4, .int x1, .int x2], [], sM Ln I2 L2 c1 s1)) rfl (fun hc => ?_) (fun hc => ?_) (by omega)
  · have h := h.1 hc
    refine dd_Rn.ite 1 (c := x1 = 0) (A := (548, [.ref 3000000, .ref 0, .ref 148, .ref 163, .int a4, .int x1, .int x2], [], sM Ln I2 L2 c1 s1)) (B := (560, [.ref 3000000, .ref 0, .ref 148, .ref 163, .int a4, .int x1, .int x2], [], sM Ln I2 L2 c1 s1)) rfl (fun hc => ?_) (fun hc => ?_) (by omega)
    · have h := h.1 hc
      refine dd_Rn.ite 6 (c := lg_cmp (L2 163 0) x2.toInt64 = 0) (A := (560, [.ref 3000000, .ref 0, .ref 148, .ref 163, .int a4, .int x1, .int x2], [], sM Ln I2 L2 c1 s1)) (B := (558, [.ref 3000000, .ref 0, .ref 148, .ref 163, .int a4, .int x1, .int x2], [], sM Ln I2 L2 c1 s1)) rfl (fun hc => ?_) (fun hc => ?_) (by omega)
      · have h := h.1 hc
        exact dd_Rn.go 0 (cf' := (560, [.ref 3000000, .ref 0, .ref 148, .ref 163, .int a4, .int x1, .int x2], [], sM Ln I2 L2 c1 s1)) rfl h (by omega)
      · have h := h.2 hc
        exact dd_Rn.retK 1 (pc := 559) (ls := [.ref 3000000, .ref 0, .ref 148, .ref 163, .int a4, .int x1, .int x2]) (st := [.int 0]) (M := sM Ln I2 L2 c1 s1) (o := (none, .int 0, sM Ln I2 L2 c1 s1)) rfl rfl h (by omega)
    · have h := h.2 hc
      exact dd_Rn.go 0 (cf' := (560, [.ref 3000000, .ref 0, .ref 148, .ref 163, .int a4, .int x1, .int x2], [], sM Ln I2 L2 c1 s1)) rfl h (by omega)
  · have h := h.2 hc
    exact dd_Rn.retK 1 (pc := 542) (ls := [.ref 3000000, .ref 0, .ref 148, .ref 163, .int a4, .int x1, .int x2]) (st := [.int 0]) (M := sM Ln I2 L2 c1 s1) (o := (none, .int 0, sM Ln I2 L2 c1 s1)) rfl rfl h (by omega)

theorem w_L_law__560 {Ln d c s : Nat} {I : Nat → Nat → Int32} {L : Nat → Nat → Int64} {Q : dd_O → Prop} {a4 a5 a6 : Int32} (hd : 28 ≤ d) (h : dd_Rn d m_L_law_ (3009, [.ref 3000000, .ref 0, .ref 148, .ref 163, .int a4, .int a5, .int a6], [], sM Ln I L c s) Q) : dd_Rn d m_L_law_ (560, [.ref 3000000, .ref 0, .ref 148, .ref 163, .int a4, .int a5, .int a6], [], sM Ln I L c s) Q := by
  obtain ⟨e, rfl⟩ : ∃ e, d = e + 16 := ⟨d - 16, by omega⟩
  exact dd_Rn.go 1 (cf' := (3009, [.ref 3000000, .ref 0, .ref 148, .ref 163, .int a4, .int a5, .int a6], [], sM Ln I L c s)) rfl h (by omega)

theorem w_L_law__563 {Ln d c s : Nat} {I : Nat → Nat → Int32} {L : Nat → Nat → Int64} {Q : dd_O → Prop} {a4 : Int32} {a5 a6 : Value} (hd : 28 ≤ d) (h : ((0 ≤ a4 + 1 ∧ tn (a4 + 1) < Ln) ∧ ((0 ≤ a4 + 2 ∧ tn (a4 + 2) < Ln) ∧ dd_Ev (d - 1) m_L_note [.ref 0, .int (I 3000000 (tn (a4 + 1))), .int (I 3000000 (tn (a4 + 2))), .ref 163] (sM Ln I L c s) (dd_RJ Ln c s (fun x1 I1 L1 c1 s1 => ((0 ≤ a4 + 1 ∧ tn (a4 + 1) < Ln) ∧ ((0 ≤ a4 + 2 ∧ tn (a4 + 2) < Ln) ∧ dd_Ev (d - 1) m_X11_note [.ref 148, .int (I1 3000000 (tn (a4 + 1))), .int (I1 3000000 (tn (a4 + 2)))] (sM Ln I1 L1 c1 s1) (dd_RI Ln c1 s1 (fun x2 I2 L2 => ((I2 148 0 = x1 → ((x1 = 0 → ((lg_cmp (L2 163 0) x2.toInt64 = 0 → dd_Rn d m_L_law_ (628, [.ref 3000000, .ref 0, .ref 148, .ref 163, .int a4, .int x1, .int x2], [], sM Ln I2 L2 c1 s1) Q) ∧ (¬ (lg_cmp (L2 163 0) x2.toInt64 = 0) → Q (none, .int 0, sM Ln I2 L2 c1 s1)))) ∧ (¬ (x1 = 0) → dd_Rn d m_L_law_ (628, [.ref 3000000, .ref 0, .ref 148, .ref 163, .int a4, .int x1, .int x2], [], sM Ln I2 L2 c1 s1) Q))) ∧ (¬ (I2 148 0 = x1) → Q (none, .int 0, sM Ln I2 L2 c1 s1)))))))))))) : dd_Rn d m_L_law_ (563, [.ref 3000000, .ref 0, .ref 148, .ref 163, .int a4, a5, a6], [], sM Ln I L c s) Q := by
  obtain ⟨e, rfl⟩ : ∃ e, d = e + 16 := ⟨d - 16, by omega⟩
  obtain ⟨hc, h⟩ := h
  refine dd_Rn.go 5 (cf' := (569, [.ref 3000000, .ref 0, .ref 148, .ref 163, .int a4, a5, a6], [.int (a4 + 1), .ref 3000000, .ref 0], sM Ln I L c s)) rfl ?_ (by omega)
  refine dd_Rn.ci (fun j0 => (569, [.ref 3000000, .ref 0, .ref 148, .ref 163, .int a4, a5, a6], [.int j0, .ref 3000000, .ref 0], sM Ln I L c s)) (fun j0 => (570, [.ref 3000000, .ref 0, .ref 148, .ref 163, .int a4, a5, a6], [.int (I 3000000 (tn j0)), .ref 0], sM Ln I L c s)) (fun j0 => 0 ≤ j0 ∧ tn j0 < Ln) (a4 + 1) (fun j0 hc h => dd_Rn.chk 0 (c := 0 ≤ j0 ∧ tn j0 < Ln) (A := (570, [.ref 3000000, .ref 0, .ref 148, .ref 163, .int a4, a5, a6], [.int (I 3000000 (tn j0)), .ref 0], sM Ln I L c s)) rfl hc h (by omega)) hc ?_
  refine dd_Rn.se (cf := (570, [.ref 3000000, .ref 0, .ref 148, .ref 163, .int a4, a5, a6], [.int (I 3000000 (tn (a4 + 1))), .ref 0], sM Ln I L c s)) ?_
  obtain ⟨hc, h⟩ := h
  refine dd_Rn.go 4 (cf' := (575, [.ref 3000000, .ref 0, .ref 148, .ref 163, .int a4, a5, a6], [.int (a4 + 2), .ref 3000000, .int (I 3000000 (tn (a4 + 1))), .ref 0], sM Ln I L c s)) rfl ?_ (by omega)
  refine dd_Rn.ci (fun j0 => (575, [.ref 3000000, .ref 0, .ref 148, .ref 163, .int a4, a5, a6], [.int j0, .ref 3000000, .int (I 3000000 (tn (a4 + 1))), .ref 0], sM Ln I L c s)) (fun j0 => (576, [.ref 3000000, .ref 0, .ref 148, .ref 163, .int a4, a5, a6], [.int (I 3000000 (tn j0)), .int (I 3000000 (tn (a4 + 1))), .ref 0], sM Ln I L c s)) (fun j0 => 0 ≤ j0 ∧ tn j0 < Ln) (a4 + 2) (fun j0 hc h => dd_Rn.chk 0 (c := 0 ≤ j0 ∧ tn j0 < Ln) (A := (576, [.ref 3000000, .ref 0, .ref 148, .ref 163, .int a4, a5, a6], [.int (I 3000000 (tn j0)), .int (I 3000000 (tn (a4 + 1))), .ref 0], sM Ln I L c s)) rfl hc h (by omega)) hc ?_
  refine dd_Rn.se (cf := (576, [.ref 3000000, .ref 0, .ref 148, .ref 163, .int a4, a5, a6], [.int (I 3000000 (tn (a4 + 2))), .int (I 3000000 (tn (a4 + 1))), .ref 0], sM Ln I L c s)) ?_
  refine dd_Rn.cJ 1 (pc := 577) (ls := [.ref 3000000, .ref 0, .ref 148, .ref 163, .int a4, a5, a6]) (st := [.ref 163, .int (I 3000000 (tn (a4 + 2))), .int (I 3000000 (tn (a4 + 1))), .ref 0]) (x := m_L_note) (as := [.ref 0, .int (I 3000000 (tn (a4 + 1))), .int (I 3000000 (tn (a4 + 2))), .ref 163]) (rest := []) rfl rfl rfl rfl h ?_
  intro x1 I1 L1 c1 s1 h
  show dd_Rn (e + 16) m_L_law_ (580, [.ref 3000000, .ref 0, .ref 148, .ref 163, .int a4, a5, a6], [.int x1], sM Ln I1 L1 c1 s1) _
  obtain ⟨hc, h⟩ := h
  refine dd_Rn.go 6 (cf' := (588, [.ref 3000000, .ref 0, .ref 148, .ref 163, .int a4, .int x1, a6], [.int (a4 + 1), .ref 3000000, .ref 148], sM Ln I1 L1 c1 s1)) rfl ?_ (by omega)
  refine dd_Rn.ci (fun j0 => (588, [.ref 3000000, .ref 0, .ref 148, .ref 163, .int a4, .int x1, a6], [.int j0, .ref 3000000, .ref 148], sM Ln I1 L1 c1 s1)) (fun j0 => (589, [.ref 3000000, .ref 0, .ref 148, .ref 163, .int a4, .int x1, a6], [.int (I1 3000000 (tn j0)), .ref 148], sM Ln I1 L1 c1 s1)) (fun j0 => 0 ≤ j0 ∧ tn j0 < Ln) (a4 + 1) (fun j0 hc h => dd_Rn.chk 0 (c := 0 ≤ j0 ∧ tn j0 < Ln) (A := (589, [.ref 3000000, .ref 0, .ref 148, .ref 163, .int a4, .int x1, a6], [.int (I1 3000000 (tn j0)), .ref 148], sM Ln I1 L1 c1 s1)) rfl hc h (by omega)) hc ?_
  refine dd_Rn.se (cf := (589, [.ref 3000000, .ref 0, .ref 148, .ref 163, .int a4, .int x1, a6], [.int (I1 3000000 (tn (a4 + 1))), .ref 148], sM Ln I1 L1 c1 s1)) ?_
  obtain ⟨hc, h⟩ := h
  refine dd_Rn.go 4 (cf' := (594, [.ref 3000000, .ref 0, .ref 148, .ref 163, .int a4, .int x1, a6], [.int (a4 + 2), .ref 3000000, .int (I1 3000000 (tn (a4 + 1))), .ref 148], sM Ln I1 L1 c1 s1)) rfl ?_ (by omega)
  refine dd_Rn.ci (fun j0 => (594, [.ref 3000000, .ref 0, .ref 148, .ref 163, .int a4, .int x1, a6], [.int j0, .ref 3000000, .int (I1 3000000 (tn (a4 + 1))), .ref 148], sM Ln I1 L1 c1 s1)) (fun j0 => (595, [.ref 3000000, .ref 0, .ref 148, .ref 163, .int a4, .int x1, a6], [.int (I1 3000000 (tn j0)), .int (I1 3000000 (tn (a4 + 1))), .ref 148], sM Ln I1 L1 c1 s1)) (fun j0 => 0 ≤ j0 ∧ tn j0 < Ln) (a4 + 2) (fun j0 hc h => dd_Rn.chk 0 (c := 0 ≤ j0 ∧ tn j0 < Ln) (A := (595, [.ref 3000000, .ref 0, .ref 148, .ref 163, .int a4, .int x1, a6], [.int (I1 3000000 (tn j0)), .int (I1 3000000 (tn (a4 + 1))), .ref 148], sM Ln I1 L1 c1 s1)) rfl hc h (by omega)) hc ?_
  refine dd_Rn.se (cf := (595, [.ref 3000000, .ref 0, .ref 148, .ref 163, .int a4, .int x1, a6], [.int (I1 3000000 (tn (a4 + 2))), .int (I1 3000000 (tn (a4 + 1))), .ref 148], sM Ln I1 L1 c1 s1)) ?_
  refine dd_Rn.cI 0 (pc := 595) (ls := [.ref 3000000, .ref 0, .ref 148, .ref 163, .int a4, .int x1, a6]) (st := [.int (I1 3000000 (tn (a4 + 2))), .int (I1 3000000 (tn (a4 + 1))), .ref 148]) (x := m_X11_note) (as := [.ref 148, .int (I1 3000000 (tn (a4 + 1))), .int (I1 3000000 (tn (a4 + 2)))]) (rest := []) rfl rfl rfl rfl h ?_
  intro x2 I2 L2 h
  show dd_Rn (e + 16) m_L_law_ (598, [.ref 3000000, .ref 0, .ref 148, .ref 163, .int a4, .int x1, a6], [.int x2], sM Ln I2 L2 c1 s1) _
  refine dd_Rn.sub 2 (pc := 601) (ls := [.ref 3000000, .ref 0, .ref 148, .ref 163, .int a4, .int x1, .int x2]) (st := [.ref 148]) (M := sM Ln I2 L2 c1 s1) (x := m_X11_thrown) (as := [.ref 148]) (rest := []) rfl rfl rfl rfl ?_
  show dd_Rn (e + 15) m_X11_thrown (0, [.ref 148], [], sM Ln I2 L2 c1 s1) _
  refine dd_Rn.retK 2 (pc := 4) (ls := [.ref 148]) (st := [.int (I2 148 0)]) (M := sM Ln I2 L2 c1 s1) (o := (none, .int (I2 148 0), sM Ln I2 L2 c1 s1)) rfl rfl (dd_Af.ret rfl ?_) (by omega)
  show dd_Rn (e + 16) m_L_law_ (604, [.ref 3000000, .ref 0, .ref 148, .ref 163, .int a4, .int x1, .int x2], [.int (I2 148 0)], sM Ln I2 L2 c1 s1) _
  refine dd_Rn.ite 1 (c := I2 148 0 = x1) (A := (611, [.ref 3000000, .ref 0, .ref 148, .ref 163, .int a4, .int x1, .int x2], [], sM Ln I2 L2 c1 s1)) (B := (609, [.ref 3000000, .ref 0, .ref 148, .ref 163, .int a4, .int x1, .int x2], [], sM Ln I2 L2 c1 s1)) rfl (fun hc => ?_) (fun hc => ?_) (by omega)
  · have h := h.1 hc
    refine dd_Rn.ite 1 (c := x1 = 0) (A := (616, [.ref 3000000, .ref 0, .ref 148, .ref 163, .int a4, .int x1, .int x2], [], sM Ln I2 L2 c1 s1)) (B := (628, [.ref 3000000, .ref 0, .ref 148, .ref 163, .int a4, .int x1, .int x2], [], sM Ln I2 L2 c1 s1)) rfl (fun hc => ?_) (fun hc => ?_) (by omega)
    · have h := h.1 hc
      refine dd_Rn.ite 6 (c := lg_cmp (L2 163 0) x2.toInt64 = 0) (A := (628, [.ref 3000000, .ref 0, .ref 148, .ref 163, .int a4, .int x1, .int x2], [], sM Ln I2 L2 c1 s1)) (B := (626, [.ref 3000000, .ref 0, .ref 148, .ref 163, .int a4, .int x1, .int x2], [], sM Ln I2 L2 c1 s1)) rfl (fun hc => ?_) (fun hc => ?_) (by omega)
      · have h := h.1 hc
        exact dd_Rn.go 0 (cf' := (628, [.ref 3000000, .ref 0, .ref 148, .ref 163, .int a4, .int x1, .int x2], [], sM Ln I2 L2 c1 s1)) rfl h (by omega)
      · have h := h.2 hc
        exact dd_Rn.retK 1 (pc := 627) (ls := [.ref 3000000, .ref 0, .ref 148, .ref 163, .int a4, .int x1, .int x2]) (st := [.int 0]) (M := sM Ln I2 L2 c1 s1) (o := (none, .int 0, sM Ln I2 L2 c1 s1)) rfl rfl h (by omega)
    · have h := h.2 hc
      exact dd_Rn.go 0 (cf' := (628, [.ref 3000000, .ref 0, .ref 148, .ref 163, .int a4, .int x1, .int x2], [], sM Ln I2 L2 c1 s1)) rfl h (by omega)
  · have h := h.2 hc
    exact dd_Rn.retK 1 (pc := 610) (ls := [.ref 3000000, .ref 0, .ref 148, .ref 163, .int a4, .int x1, .int x2]) (st := [.int 0]) (M := sM Ln I2 L2 c1 s1) (o := (none, .int 0, sM Ln I2 L2 c1 s1)) rfl rfl h (by omega)

theorem w_L_law__628 {Ln d c s : Nat} {I : Nat → Nat → Int32} {L : Nat → Nat → Int64} {Q : dd_O → Prop} {a4 a5 a6 : Int32} (hd : 28 ≤ d) (h : dd_Rn d m_L_law_ (3009, [.ref 3000000, .ref 0, .ref 148, .ref 163, .int a4, .int a5, .int a6], [], sM Ln I L c s) Q) : dd_Rn d m_L_law_ (628, [.ref 3000000, .ref 0, .ref 148, .ref 163, .int a4, .int a5, .int a6], [], sM Ln I L c s) Q := by
  obtain ⟨e, rfl⟩ : ∃ e, d = e + 16 := ⟨d - 16, by omega⟩
  exact dd_Rn.go 1 (cf' := (3009, [.ref 3000000, .ref 0, .ref 148, .ref 163, .int a4, .int a5, .int a6], [], sM Ln I L c s)) rfl h (by omega)

theorem w_L_law__631 {Ln d c s : Nat} {I : Nat → Nat → Int32} {L : Nat → Nat → Int64} {Q : dd_O → Prop} {a4 : Int32} {a5 a6 : Value} (hd : 28 ≤ d) (h : ((0 ≤ a4 + 1 ∧ tn (a4 + 1) < Ln) ∧ ((0 ≤ a4 + 2 ∧ tn (a4 + 2) < Ln) ∧ dd_Ev (d - 1) m_L_boy [.ref 0, .int (I 3000000 (tn (a4 + 1))), .int (I 3000000 (tn (a4 + 2))), .ref 163] (sM Ln I L c s) (dd_RJ Ln c s (fun x1 I1 L1 c1 s1 => ((0 ≤ a4 + 1 ∧ tn (a4 + 1) < Ln) ∧ ((0 ≤ a4 + 2 ∧ tn (a4 + 2) < Ln) ∧ dd_Ev (d - 1) m_X11_boy [.ref 148, .int (I1 3000000 (tn (a4 + 1))), .int (I1 3000000 (tn (a4 + 2)))] (sM Ln I1 L1 c1 s1) (dd_RI Ln c1 s1 (fun x2 I2 L2 => ((I2 148 0 = x1 → ((x1 = 0 → ((lg_cmp (L2 163 0) x2.toInt64 = 0 → dd_Rn d m_L_law_ (696, [.ref 3000000, .ref 0, .ref 148, .ref 163, .int a4, .int x1, .int x2], [], sM Ln I2 L2 c1 s1) Q) ∧ (¬ (lg_cmp (L2 163 0) x2.toInt64 = 0) → Q (none, .int 0, sM Ln I2 L2 c1 s1)))) ∧ (¬ (x1 = 0) → dd_Rn d m_L_law_ (696, [.ref 3000000, .ref 0, .ref 148, .ref 163, .int a4, .int x1, .int x2], [], sM Ln I2 L2 c1 s1) Q))) ∧ (¬ (I2 148 0 = x1) → Q (none, .int 0, sM Ln I2 L2 c1 s1)))))))))))) : dd_Rn d m_L_law_ (631, [.ref 3000000, .ref 0, .ref 148, .ref 163, .int a4, a5, a6], [], sM Ln I L c s) Q := by
  obtain ⟨e, rfl⟩ : ∃ e, d = e + 16 := ⟨d - 16, by omega⟩
  obtain ⟨hc, h⟩ := h
  refine dd_Rn.go 5 (cf' := (637, [.ref 3000000, .ref 0, .ref 148, .ref 163, .int a4, a5, a6], [.int (a4 + 1), .ref 3000000, .ref 0], sM Ln I L c s)) rfl ?_ (by omega)
  refine dd_Rn.ci (fun j0 => (637, [.ref 3000000, .ref 0, .ref 148, .ref 163, .int a4, a5, a6], [.int j0, .ref 3000000, .ref 0], sM Ln I L c s)) (fun j0 => (638, [.ref 3000000, .ref 0, .ref 148, .ref 163, .int a4, a5, a6], [.int (I 3000000 (tn j0)), .ref 0], sM Ln I L c s)) (fun j0 => 0 ≤ j0 ∧ tn j0 < Ln) (a4 + 1) (fun j0 hc h => dd_Rn.chk 0 (c := 0 ≤ j0 ∧ tn j0 < Ln) (A := (638, [.ref 3000000, .ref 0, .ref 148, .ref 163, .int a4, a5, a6], [.int (I 3000000 (tn j0)), .ref 0], sM Ln I L c s)) rfl hc h (by omega)) hc ?_
  refine dd_Rn.se (cf := (638, [.ref 3000000, .ref 0, .ref 148, .ref 163, .int a4, a5, a6], [.int (I 3000000 (tn (a4 + 1))), .ref 0], sM Ln I L c s)) ?_
  obtain ⟨hc, h⟩ := h
  refine dd_Rn.go 4 (cf' := (643, [.ref 3000000, .ref 0, .ref 148, .ref 163, .int a4, a5, a6], [.int (a4 + 2), .ref 3000000, .int (I 3000000 (tn (a4 + 1))), .ref 0], sM Ln I L c s)) rfl ?_ (by omega)
  refine dd_Rn.ci (fun j0 => (643, [.ref 3000000, .ref 0, .ref 148, .ref 163, .int a4, a5, a6], [.int j0, .ref 3000000, .int (I 3000000 (tn (a4 + 1))), .ref 0], sM Ln I L c s)) (fun j0 => (644, [.ref 3000000, .ref 0, .ref 148, .ref 163, .int a4, a5, a6], [.int (I 3000000 (tn j0)), .int (I 3000000 (tn (a4 + 1))), .ref 0], sM Ln I L c s)) (fun j0 => 0 ≤ j0 ∧ tn j0 < Ln) (a4 + 2) (fun j0 hc h => dd_Rn.chk 0 (c := 0 ≤ j0 ∧ tn j0 < Ln) (A := (644, [.ref 3000000, .ref 0, .ref 148, .ref 163, .int a4, a5, a6], [.int (I 3000000 (tn j0)), .int (I 3000000 (tn (a4 + 1))), .ref 0], sM Ln I L c s)) rfl hc h (by omega)) hc ?_
  refine dd_Rn.se (cf := (644, [.ref 3000000, .ref 0, .ref 148, .ref 163, .int a4, a5, a6], [.int (I 3000000 (tn (a4 + 2))), .int (I 3000000 (tn (a4 + 1))), .ref 0], sM Ln I L c s)) ?_
  refine dd_Rn.cJ 1 (pc := 645) (ls := [.ref 3000000, .ref 0, .ref 148, .ref 163, .int a4, a5, a6]) (st := [.ref 163, .int (I 3000000 (tn (a4 + 2))), .int (I 3000000 (tn (a4 + 1))), .ref 0]) (x := m_L_boy) (as := [.ref 0, .int (I 3000000 (tn (a4 + 1))), .int (I 3000000 (tn (a4 + 2))), .ref 163]) (rest := []) rfl rfl rfl rfl h ?_
  intro x1 I1 L1 c1 s1 h
  show dd_Rn (e + 16) m_L_law_ (648, [.ref 3000000, .ref 0, .ref 148, .ref 163, .int a4, a5, a6], [.int x1], sM Ln I1 L1 c1 s1) _
  obtain ⟨hc, h⟩ := h
  refine dd_Rn.go 6 (cf' := (656, [.ref 3000000, .ref 0, .ref 148, .ref 163, .int a4, .int x1, a6], [.int (a4 + 1), .ref 3000000, .ref 148], sM Ln I1 L1 c1 s1)) rfl ?_ (by omega)
  refine dd_Rn.ci (fun j0 => (656, [.ref 3000000, .ref 0, .ref 148, .ref 163, .int a4, .int x1, a6], [.int j0, .ref 3000000, .ref 148], sM Ln I1 L1 c1 s1)) (fun j0 => (657, [.ref 3000000, .ref 0, .ref 148, .ref 163, .int a4, .int x1, a6], [.int (I1 3000000 (tn j0)), .ref 148], sM Ln I1 L1 c1 s1)) (fun j0 => 0 ≤ j0 ∧ tn j0 < Ln) (a4 + 1) (fun j0 hc h => dd_Rn.chk 0 (c := 0 ≤ j0 ∧ tn j0 < Ln) (A := (657, [.ref 3000000, .ref 0, .ref 148, .ref 163, .int a4, .int x1, a6], [.int (I1 3000000 (tn j0)), .ref 148], sM Ln I1 L1 c1 s1)) rfl hc h (by omega)) hc ?_
  refine dd_Rn.se (cf := (657, [.ref 3000000, .ref 0, .ref 148, .ref 163, .int a4, .int x1, a6], [.int (I1 3000000 (tn (a4 + 1))), .ref 148], sM Ln I1 L1 c1 s1)) ?_
  obtain ⟨hc, h⟩ := h
  refine dd_Rn.go 4 (cf' := (662, [.ref 3000000, .ref 0, .ref 148, .ref 163, .int a4, .int x1, a6], [.int (a4 + 2), .ref 3000000, .int (I1 3000000 (tn (a4 + 1))), .ref 148], sM Ln I1 L1 c1 s1)) rfl ?_ (by omega)
  refine dd_Rn.ci (fun j0 => (662, [.ref 3000000, .ref 0, .ref 148, .ref 163, .int a4, .int x1, a6], [.int j0, .ref 3000000, .int (I1 3000000 (tn (a4 + 1))), .ref 148], sM Ln I1 L1 c1 s1)) (fun j0 => (663, [.ref 3000000, .ref 0, .ref 148, .ref 163, .int a4, .int x1, a6], [.int (I1 3000000 (tn j0)), .int (I1 3000000 (tn (a4 + 1))), .ref 148], sM Ln I1 L1 c1 s1)) (fun j0 => 0 ≤ j0 ∧ tn j0 < Ln) (a4 + 2) (fun j0 hc h => dd_Rn.chk 0 (c := 0 ≤ j0 ∧ tn j0 < Ln) (A := (663, [.ref 3000000, .ref 0, .ref 148, .ref 163, .int a4, .int x1, a6], [.int (I1 3000000 (tn j0)), .int (I1 3000000 (tn (a4 + 1))), .ref 148], sM Ln I1 L1 c1 s1)) rfl hc h (by omega)) hc ?_
  refine dd_Rn.se (cf := (663, [.ref 3000000, .ref 0, .ref 148, .ref 163, .int a4, .int x1, a6], [.int (I1 3000000 (tn (a4 + 2))), .int (I1 3000000 (tn (a4 + 1))), .ref 148], sM Ln I1 L1 c1 s1)) ?_
  refine dd_Rn.cI 0 (pc := 663) (ls := [.ref 3000000, .ref 0, .ref 148, .ref 163, .int a4, .int x1, a6]) (st := [.int (I1 3000000 (tn (a4 + 2))), .int (I1 3000000 (tn (a4 + 1))), .ref 148]) (x := m_X11_boy) (as := [.ref 148, .int (I1 3000000 (tn (a4 + 1))), .int (I1 3000000 (tn (a4 + 2)))]) (rest := []) rfl rfl rfl rfl h ?_
  intro x2 I2 L2 h
  show dd_Rn (e + 16) m_L_law_ (666, [.ref 3000000, .ref 0, .ref 148, .ref 163, .int a4, .int x1, a6], [.int x2], sM Ln I2 L2 c1 s1) _
  refine dd_Rn.sub 2 (pc := 669) (ls := [.ref 3000000, .ref 0, .ref 148, .ref 163, .int a4, .int x1, .int x2]) (st := [.ref 148]) (M := sM Ln I2 L2 c1 s1) (x := m_X11_thrown) (as := [.ref 148]) (rest := []) rfl rfl rfl rfl ?_
  show dd_Rn (e + 15) m_X11_thrown (0, [.ref 148], [], sM Ln I2 L2 c1 s1) _
  refine dd_Rn.retK 2 (pc := 4) (ls := [.ref 148]) (st := [.int (I2 148 0)]) (M := sM Ln I2 L2 c1 s1) (o := (none, .int (I2 148 0), sM Ln I2 L2 c1 s1)) rfl rfl (dd_Af.ret rfl ?_) (by omega)
  show dd_Rn (e + 16) m_L_law_ (672, [.ref 3000000, .ref 0, .ref 148, .ref 163, .int a4, .int x1, .int x2], [.int (I2 148 0)], sM Ln I2 L2 c1 s1) _
  refine dd_Rn.ite 1 (c := I2 148 0 = x1) (A := (679, [.ref 3000000, .ref 0, .ref 148, .ref 163, .int a4, .int x1, .int x2], [], sM Ln I2 L2 c1 s1)) (B := (677, [.ref 3000000, .ref 0, .ref 148, .ref 163, .int a4, .int x1, .int x2], [], sM Ln I2 L2 c1 s1)) rfl (fun hc => ?_) (fun hc => ?_) (by omega)
  · have h := h.1 hc
    refine dd_Rn.ite 1 (c := x1 = 0) (A := (684, [.ref 3000000, .ref 0, .ref 148, .ref 163, .int a4, .int x1, .int x2], [], sM Ln I2 L2 c1 s1)) (B := (696, [.ref 3000000, .ref 0, .ref 148, .ref 163, .int a4, .int x1, .int x2], [], sM Ln I2 L2 c1 s1)) rfl (fun hc => ?_) (fun hc => ?_) (by omega)
    · have h := h.1 hc
      refine dd_Rn.ite 6 (c := lg_cmp (L2 163 0) x2.toInt64 = 0) (A := (696, [.ref 3000000, .ref 0, .ref 148, .ref 163, .int a4, .int x1, .int x2], [], sM Ln I2 L2 c1 s1)) (B := (694, [.ref 3000000, .ref 0, .ref 148, .ref 163, .int a4, .int x1, .int x2], [], sM Ln I2 L2 c1 s1)) rfl (fun hc => ?_) (fun hc => ?_) (by omega)
      · have h := h.1 hc
        exact dd_Rn.go 0 (cf' := (696, [.ref 3000000, .ref 0, .ref 148, .ref 163, .int a4, .int x1, .int x2], [], sM Ln I2 L2 c1 s1)) rfl h (by omega)
      · have h := h.2 hc
        exact dd_Rn.retK 1 (pc := 695) (ls := [.ref 3000000, .ref 0, .ref 148, .ref 163, .int a4, .int x1, .int x2]) (st := [.int 0]) (M := sM Ln I2 L2 c1 s1) (o := (none, .int 0, sM Ln I2 L2 c1 s1)) rfl rfl h (by omega)
    · have h := h.2 hc
      exact dd_Rn.go 0 (cf' := (696, [.ref 3000000, .ref 0, .ref 148, .ref 163, .int a4, .int x1, .int x2], [], sM Ln I2 L2 c1 s1)) rfl h (by omega)
  · have h := h.2 hc
    exact dd_Rn.retK 1 (pc := 678) (ls := [.ref 3000000, .ref 0, .ref 148, .ref 163, .int a4, .int x1, .int x2]) (st := [.int 0]) (M := sM Ln I2 L2 c1 s1) (o := (none, .int 0, sM Ln I2 L2 c1 s1)) rfl rfl h (by omega)

theorem w_L_law__696 {Ln d c s : Nat} {I : Nat → Nat → Int32} {L : Nat → Nat → Int64} {Q : dd_O → Prop} {a4 a5 a6 : Int32} (hd : 28 ≤ d) (h : dd_Rn d m_L_law_ (3009, [.ref 3000000, .ref 0, .ref 148, .ref 163, .int a4, .int a5, .int a6], [], sM Ln I L c s) Q) : dd_Rn d m_L_law_ (696, [.ref 3000000, .ref 0, .ref 148, .ref 163, .int a4, .int a5, .int a6], [], sM Ln I L c s) Q := by
  obtain ⟨e, rfl⟩ : ∃ e, d = e + 16 := ⟨d - 16, by omega⟩
  exact dd_Rn.go 1 (cf' := (3009, [.ref 3000000, .ref 0, .ref 148, .ref 163, .int a4, .int a5, .int a6], [], sM Ln I L c s)) rfl h (by omega)

theorem w_L_law__699 {Ln d c s : Nat} {I : Nat → Nat → Int32} {L : Nat → Nat → Int64} {Q : dd_O → Prop} {a4 : Int32} {a5 a6 : Value} (hd : 28 ≤ d) (h : ((0 ≤ a4 + 1 ∧ tn (a4 + 1) < Ln) ∧ dd_Ev (d - 1) m_L_sing [.ref 0, .int (I 3000000 (tn (a4 + 1))), .ref 163] (sM Ln I L c s) (dd_RJ Ln c s (fun x1 I1 L1 c1 s1 => ((0 ≤ a4 + 1 ∧ tn (a4 + 1) < Ln) ∧ dd_Ev (d - 1) m_X11_sing [.ref 148, .int (I1 3000000 (tn (a4 + 1)))] (sM Ln I1 L1 c1 s1) (dd_RI Ln c1 s1 (fun x2 I2 L2 => ((I2 148 0 = x1 → ((x1 = 0 → ((lg_cmp (L2 163 0) x2.toInt64 = 0 → dd_Rn d m_L_law_ (752, [.ref 3000000, .ref 0, .ref 148, .ref 163, .int a4, .int x1, .int x2], [], sM Ln I2 L2 c1 s1) Q) ∧ (¬ (lg_cmp (L2 163 0) x2.toInt64 = 0) → Q (none, .int 0, sM Ln I2 L2 c1 s1)))) ∧ (¬ (x1 = 0) → dd_Rn d m_L_law_ (752, [.ref 3000000, .ref 0, .ref 148, .ref 163, .int a4, .int x1, .int x2], [], sM Ln I2 L2 c1 s1) Q))) ∧ (¬ (I2 148 0 = x1) → Q (none, .int 0, sM Ln I2 L2 c1 s1)))))))))) : dd_Rn d m_L_law_ (699, [.ref 3000000, .ref 0, .ref 148, .ref 163, .int a4, a5, a6], [], sM Ln I L c s) Q := by
  obtain ⟨e, rfl⟩ : ∃ e, d = e + 16 := ⟨d - 16, by omega⟩
  obtain ⟨hc, h⟩ := h
  refine dd_Rn.go 5 (cf' := (705, [.ref 3000000, .ref 0, .ref 148, .ref 163, .int a4, a5, a6], [.int (a4 + 1), .ref 3000000, .ref 0], sM Ln I L c s)) rfl ?_ (by omega)
  refine dd_Rn.ci (fun j0 => (705, [.ref 3000000, .ref 0, .ref 148, .ref 163, .int a4, a5, a6], [.int j0, .ref 3000000, .ref 0], sM Ln I L c s)) (fun j0 => (706, [.ref 3000000, .ref 0, .ref 148, .ref 163, .int a4, a5, a6], [.int (I 3000000 (tn j0)), .ref 0], sM Ln I L c s)) (fun j0 => 0 ≤ j0 ∧ tn j0 < Ln) (a4 + 1) (fun j0 hc h => dd_Rn.chk 0 (c := 0 ≤ j0 ∧ tn j0 < Ln) (A := (706, [.ref 3000000, .ref 0, .ref 148, .ref 163, .int a4, a5, a6], [.int (I 3000000 (tn j0)), .ref 0], sM Ln I L c s)) rfl hc h (by omega)) hc ?_
  refine dd_Rn.se (cf := (706, [.ref 3000000, .ref 0, .ref 148, .ref 163, .int a4, a5, a6], [.int (I 3000000 (tn (a4 + 1))), .ref 0], sM Ln I L c s)) ?_
  refine dd_Rn.cJ 1 (pc := 707) (ls := [.ref 3000000, .ref 0, .ref 148, .ref 163, .int a4, a5, a6]) (st := [.ref 163, .int (I 3000000 (tn (a4 + 1))), .ref 0]) (x := m_L_sing) (as := [.ref 0, .int (I 3000000 (tn (a4 + 1))), .ref 163]) (rest := []) rfl rfl rfl rfl h ?_
  intro x1 I1 L1 c1 s1 h
  show dd_Rn (e + 16) m_L_law_ (710, [.ref 3000000, .ref 0, .ref 148, .ref 163, .int a4, a5, a6], [.int x1], sM Ln I1 L1 c1 s1) _
  obtain ⟨hc, h⟩ := h
  refine dd_Rn.go 6 (cf' := (718, [.ref 3000000, .ref 0, .ref 148, .ref 163, .int a4, .int x1, a6], [.int (a4 + 1), .ref 3000000, .ref 148], sM Ln I1 L1 c1 s1)) rfl ?_ (by omega)
  refine dd_Rn.ci (fun j0 => (718, [.ref 3000000, .ref 0, .ref 148, .ref 163, .int a4, .int x1, a6], [.int j0, .ref 3000000, .ref 148], sM Ln I1 L1 c1 s1)) (fun j0 => (719, [.ref 3000000, .ref 0, .ref 148, .ref 163, .int a4, .int x1, a6], [.int (I1 3000000 (tn j0)), .ref 148], sM Ln I1 L1 c1 s1)) (fun j0 => 0 ≤ j0 ∧ tn j0 < Ln) (a4 + 1) (fun j0 hc h => dd_Rn.chk 0 (c := 0 ≤ j0 ∧ tn j0 < Ln) (A := (719, [.ref 3000000, .ref 0, .ref 148, .ref 163, .int a4, .int x1, a6], [.int (I1 3000000 (tn j0)), .ref 148], sM Ln I1 L1 c1 s1)) rfl hc h (by omega)) hc ?_
  refine dd_Rn.se (cf := (719, [.ref 3000000, .ref 0, .ref 148, .ref 163, .int a4, .int x1, a6], [.int (I1 3000000 (tn (a4 + 1))), .ref 148], sM Ln I1 L1 c1 s1)) ?_
  refine dd_Rn.cI 0 (pc := 719) (ls := [.ref 3000000, .ref 0, .ref 148, .ref 163, .int a4, .int x1, a6]) (st := [.int (I1 3000000 (tn (a4 + 1))), .ref 148]) (x := m_X11_sing) (as := [.ref 148, .int (I1 3000000 (tn (a4 + 1)))]) (rest := []) rfl rfl rfl rfl h ?_
  intro x2 I2 L2 h
  show dd_Rn (e + 16) m_L_law_ (722, [.ref 3000000, .ref 0, .ref 148, .ref 163, .int a4, .int x1, a6], [.int x2], sM Ln I2 L2 c1 s1) _
  refine dd_Rn.sub 2 (pc := 725) (ls := [.ref 3000000, .ref 0, .ref 148, .ref 163, .int a4, .int x1, .int x2]) (st := [.ref 148]) (M := sM Ln I2 L2 c1 s1) (x := m_X11_thrown) (as := [.ref 148]) (rest := []) rfl rfl rfl rfl ?_
  show dd_Rn (e + 15) m_X11_thrown (0, [.ref 148], [], sM Ln I2 L2 c1 s1) _
  refine dd_Rn.retK 2 (pc := 4) (ls := [.ref 148]) (st := [.int (I2 148 0)]) (M := sM Ln I2 L2 c1 s1) (o := (none, .int (I2 148 0), sM Ln I2 L2 c1 s1)) rfl rfl (dd_Af.ret rfl ?_) (by omega)
  show dd_Rn (e + 16) m_L_law_ (728, [.ref 3000000, .ref 0, .ref 148, .ref 163, .int a4, .int x1, .int x2], [.int (I2 148 0)], sM Ln I2 L2 c1 s1) _
  refine dd_Rn.ite 1 (c := I2 148 0 = x1) (A := (735, [.ref 3000000, .ref 0, .ref 148, .ref 163, .int a4, .int x1, .int x2], [], sM Ln I2 L2 c1 s1)) (B := (733, [.ref 3000000, .ref 0, .ref 148, .ref 163, .int a4, .int x1, .int x2], [], sM Ln I2 L2 c1 s1)) rfl (fun hc => ?_) (fun hc => ?_) (by omega)
  · have h := h.1 hc
    refine dd_Rn.ite 1 (c := x1 = 0) (A := (740, [.ref 3000000, .ref 0, .ref 148, .ref 163, .int a4, .int x1, .int x2], [], sM Ln I2 L2 c1 s1)) (B := (752, [.ref 3000000, .ref 0, .ref 148, .ref 163, .int a4, .int x1, .int x2], [], sM Ln I2 L2 c1 s1)) rfl (fun hc => ?_) (fun hc => ?_) (by omega)
    · have h := h.1 hc
      refine dd_Rn.ite 6 (c := lg_cmp (L2 163 0) x2.toInt64 = 0) (A := (752, [.ref 3000000, .ref 0, .ref 148, .ref 163, .int a4, .int x1, .int x2], [], sM Ln I2 L2 c1 s1)) (B := (750, [.ref 3000000, .ref 0, .ref 148, .ref 163, .int a4, .int x1, .int x2], [], sM Ln I2 L2 c1 s1)) rfl (fun hc => ?_) (fun hc => ?_) (by omega)
      · have h := h.1 hc
        exact dd_Rn.go 0 (cf' := (752, [.ref 3000000, .ref 0, .ref 148, .ref 163, .int a4, .int x1, .int x2], [], sM Ln I2 L2 c1 s1)) rfl h (by omega)
      · have h := h.2 hc
        exact dd_Rn.retK 1 (pc := 751) (ls := [.ref 3000000, .ref 0, .ref 148, .ref 163, .int a4, .int x1, .int x2]) (st := [.int 0]) (M := sM Ln I2 L2 c1 s1) (o := (none, .int 0, sM Ln I2 L2 c1 s1)) rfl rfl h (by omega)
    · have h := h.2 hc
      exact dd_Rn.go 0 (cf' := (752, [.ref 3000000, .ref 0, .ref 148, .ref 163, .int a4, .int x1, .int x2], [], sM Ln I2 L2 c1 s1)) rfl h (by omega)
  · have h := h.2 hc
    exact dd_Rn.retK 1 (pc := 734) (ls := [.ref 3000000, .ref 0, .ref 148, .ref 163, .int a4, .int x1, .int x2]) (st := [.int 0]) (M := sM Ln I2 L2 c1 s1) (o := (none, .int 0, sM Ln I2 L2 c1 s1)) rfl rfl h (by omega)

theorem w_L_law__752 {Ln d c s : Nat} {I : Nat → Nat → Int32} {L : Nat → Nat → Int64} {Q : dd_O → Prop} {a4 a5 a6 : Int32} (hd : 28 ≤ d) (h : dd_Rn d m_L_law_ (3009, [.ref 3000000, .ref 0, .ref 148, .ref 163, .int a4, .int a5, .int a6], [], sM Ln I L c s) Q) : dd_Rn d m_L_law_ (752, [.ref 3000000, .ref 0, .ref 148, .ref 163, .int a4, .int a5, .int a6], [], sM Ln I L c s) Q := by
  obtain ⟨e, rfl⟩ : ∃ e, d = e + 16 := ⟨d - 16, by omega⟩
  exact dd_Rn.go 1 (cf' := (3009, [.ref 3000000, .ref 0, .ref 148, .ref 163, .int a4, .int a5, .int a6], [], sM Ln I L c s)) rfl h (by omega)

theorem w_L_law__755 {Ln d c s : Nat} {I : Nat → Nat → Int32} {L : Nat → Nat → Int64} {Q : dd_O → Prop} {a4 : Int32} {a5 a6 : Value} (hd : 28 ≤ d) (h : ((0 ≤ a4 + 1 ∧ tn (a4 + 1) < Ln) ∧ dd_Ev (d - 1) m_L_fire [.ref 0, .int (I 3000000 (tn (a4 + 1))), .ref 163] (sM Ln I L c s) (dd_RJ Ln c s (fun x1 I1 L1 c1 s1 => ((0 ≤ a4 + 1 ∧ tn (a4 + 1) < Ln) ∧ dd_Ev (d - 1) m_X11_fire [.ref 148, .int (I1 3000000 (tn (a4 + 1)))] (sM Ln I1 L1 c1 s1) (dd_RI Ln c1 s1 (fun x2 I2 L2 => ((I2 148 0 = x1 → ((x1 = 0 → ((lg_cmp (L2 163 0) x2.toInt64 = 0 → dd_Rn d m_L_law_ (808, [.ref 3000000, .ref 0, .ref 148, .ref 163, .int a4, .int x1, .int x2], [], sM Ln I2 L2 c1 s1) Q) ∧ (¬ (lg_cmp (L2 163 0) x2.toInt64 = 0) → Q (none, .int 0, sM Ln I2 L2 c1 s1)))) ∧ (¬ (x1 = 0) → dd_Rn d m_L_law_ (808, [.ref 3000000, .ref 0, .ref 148, .ref 163, .int a4, .int x1, .int x2], [], sM Ln I2 L2 c1 s1) Q))) ∧ (¬ (I2 148 0 = x1) → Q (none, .int 0, sM Ln I2 L2 c1 s1)))))))))) : dd_Rn d m_L_law_ (755, [.ref 3000000, .ref 0, .ref 148, .ref 163, .int a4, a5, a6], [], sM Ln I L c s) Q := by
  obtain ⟨e, rfl⟩ : ∃ e, d = e + 16 := ⟨d - 16, by omega⟩
  obtain ⟨hc, h⟩ := h
  refine dd_Rn.go 5 (cf' := (761, [.ref 3000000, .ref 0, .ref 148, .ref 163, .int a4, a5, a6], [.int (a4 + 1), .ref 3000000, .ref 0], sM Ln I L c s)) rfl ?_ (by omega)
  refine dd_Rn.ci (fun j0 => (761, [.ref 3000000, .ref 0, .ref 148, .ref 163, .int a4, a5, a6], [.int j0, .ref 3000000, .ref 0], sM Ln I L c s)) (fun j0 => (762, [.ref 3000000, .ref 0, .ref 148, .ref 163, .int a4, a5, a6], [.int (I 3000000 (tn j0)), .ref 0], sM Ln I L c s)) (fun j0 => 0 ≤ j0 ∧ tn j0 < Ln) (a4 + 1) (fun j0 hc h => dd_Rn.chk 0 (c := 0 ≤ j0 ∧ tn j0 < Ln) (A := (762, [.ref 3000000, .ref 0, .ref 148, .ref 163, .int a4, a5, a6], [.int (I 3000000 (tn j0)), .ref 0], sM Ln I L c s)) rfl hc h (by omega)) hc ?_
  refine dd_Rn.se (cf := (762, [.ref 3000000, .ref 0, .ref 148, .ref 163, .int a4, a5, a6], [.int (I 3000000 (tn (a4 + 1))), .ref 0], sM Ln I L c s)) ?_
  refine dd_Rn.cJ 1 (pc := 763) (ls := [.ref 3000000, .ref 0, .ref 148, .ref 163, .int a4, a5, a6]) (st := [.ref 163, .int (I 3000000 (tn (a4 + 1))), .ref 0]) (x := m_L_fire) (as := [.ref 0, .int (I 3000000 (tn (a4 + 1))), .ref 163]) (rest := []) rfl rfl rfl rfl h ?_
  intro x1 I1 L1 c1 s1 h
  show dd_Rn (e + 16) m_L_law_ (766, [.ref 3000000, .ref 0, .ref 148, .ref 163, .int a4, a5, a6], [.int x1], sM Ln I1 L1 c1 s1) _
  obtain ⟨hc, h⟩ := h
  refine dd_Rn.go 6 (cf' := (774, [.ref 3000000, .ref 0, .ref 148, .ref 163, .int a4, .int x1, a6], [.int (a4 + 1), .ref 3000000, .ref 148], sM Ln I1 L1 c1 s1)) rfl ?_ (by omega)
  refine dd_Rn.ci (fun j0 => (774, [.ref 3000000, .ref 0, .ref 148, .ref 163, .int a4, .int x1, a6], [.int j0, .ref 3000000, .ref 148], sM Ln I1 L1 c1 s1)) (fun j0 => (775, [.ref 3000000, .ref 0, .ref 148, .ref 163, .int a4, .int x1, a6], [.int (I1 3000000 (tn j0)), .ref 148], sM Ln I1 L1 c1 s1)) (fun j0 => 0 ≤ j0 ∧ tn j0 < Ln) (a4 + 1) (fun j0 hc h => dd_Rn.chk 0 (c := 0 ≤ j0 ∧ tn j0 < Ln) (A := (775, [.ref 3000000, .ref 0, .ref 148, .ref 163, .int a4, .int x1, a6], [.int (I1 3000000 (tn j0)), .ref 148], sM Ln I1 L1 c1 s1)) rfl hc h (by omega)) hc ?_
  refine dd_Rn.se (cf := (775, [.ref 3000000, .ref 0, .ref 148, .ref 163, .int a4, .int x1, a6], [.int (I1 3000000 (tn (a4 + 1))), .ref 148], sM Ln I1 L1 c1 s1)) ?_
  refine dd_Rn.cI 0 (pc := 775) (ls := [.ref 3000000, .ref 0, .ref 148, .ref 163, .int a4, .int x1, a6]) (st := [.int (I1 3000000 (tn (a4 + 1))), .ref 148]) (x := m_X11_fire) (as := [.ref 148, .int (I1 3000000 (tn (a4 + 1)))]) (rest := []) rfl rfl rfl rfl h ?_
  intro x2 I2 L2 h
  show dd_Rn (e + 16) m_L_law_ (778, [.ref 3000000, .ref 0, .ref 148, .ref 163, .int a4, .int x1, a6], [.int x2], sM Ln I2 L2 c1 s1) _
  refine dd_Rn.sub 2 (pc := 781) (ls := [.ref 3000000, .ref 0, .ref 148, .ref 163, .int a4, .int x1, .int x2]) (st := [.ref 148]) (M := sM Ln I2 L2 c1 s1) (x := m_X11_thrown) (as := [.ref 148]) (rest := []) rfl rfl rfl rfl ?_
  show dd_Rn (e + 15) m_X11_thrown (0, [.ref 148], [], sM Ln I2 L2 c1 s1) _
  refine dd_Rn.retK 2 (pc := 4) (ls := [.ref 148]) (st := [.int (I2 148 0)]) (M := sM Ln I2 L2 c1 s1) (o := (none, .int (I2 148 0), sM Ln I2 L2 c1 s1)) rfl rfl (dd_Af.ret rfl ?_) (by omega)
  show dd_Rn (e + 16) m_L_law_ (784, [.ref 3000000, .ref 0, .ref 148, .ref 163, .int a4, .int x1, .int x2], [.int (I2 148 0)], sM Ln I2 L2 c1 s1) _
  refine dd_Rn.ite 1 (c := I2 148 0 = x1) (A := (791, [.ref 3000000, .ref 0, .ref 148, .ref 163, .int a4, .int x1, .int x2], [], sM Ln I2 L2 c1 s1)) (B := (789, [.ref 3000000, .ref 0, .ref 148, .ref 163, .int a4, .int x1, .int x2], [], sM Ln I2 L2 c1 s1)) rfl (fun hc => ?_) (fun hc => ?_) (by omega)
  · have h := h.1 hc
    refine dd_Rn.ite 1 (c := x1 = 0) (A := (796, [.ref 3000000, .ref 0, .ref 148, .ref 163, .int a4, .int x1, .int x2], [], sM Ln I2 L2 c1 s1)) (B := (808, [.ref 3000000, .ref 0, .ref 148, .ref 163, .int a4, .int x1, .int x2], [], sM Ln I2 L2 c1 s1)) rfl (fun hc => ?_) (fun hc => ?_) (by omega)
    · have h := h.1 hc
      refine dd_Rn.ite 6 (c := lg_cmp (L2 163 0) x2.toInt64 = 0) (A := (808, [.ref 3000000, .ref 0, .ref 148, .ref 163, .int a4, .int x1, .int x2], [], sM Ln I2 L2 c1 s1)) (B := (806, [.ref 3000000, .ref 0, .ref 148, .ref 163, .int a4, .int x1, .int x2], [], sM Ln I2 L2 c1 s1)) rfl (fun hc => ?_) (fun hc => ?_) (by omega)
      · have h := h.1 hc
        exact dd_Rn.go 0 (cf' := (808, [.ref 3000000, .ref 0, .ref 148, .ref 163, .int a4, .int x1, .int x2], [], sM Ln I2 L2 c1 s1)) rfl h (by omega)
      · have h := h.2 hc
        exact dd_Rn.retK 1 (pc := 807) (ls := [.ref 3000000, .ref 0, .ref 148, .ref 163, .int a4, .int x1, .int x2]) (st := [.int 0]) (M := sM Ln I2 L2 c1 s1) (o := (none, .int 0, sM Ln I2 L2 c1 s1)) rfl rfl h (by omega)
    · have h := h.2 hc
      exact dd_Rn.go 0 (cf' := (808, [.ref 3000000, .ref 0, .ref 148, .ref 163, .int a4, .int x1, .int x2], [], sM Ln I2 L2 c1 s1)) rfl h (by omega)
  · have h := h.2 hc
    exact dd_Rn.retK 1 (pc := 790) (ls := [.ref 3000000, .ref 0, .ref 148, .ref 163, .int a4, .int x1, .int x2]) (st := [.int 0]) (M := sM Ln I2 L2 c1 s1) (o := (none, .int 0, sM Ln I2 L2 c1 s1)) rfl rfl h (by omega)

theorem w_L_law__808 {Ln d c s : Nat} {I : Nat → Nat → Int32} {L : Nat → Nat → Int64} {Q : dd_O → Prop} {a4 a5 a6 : Int32} (hd : 28 ≤ d) (h : dd_Rn d m_L_law_ (3009, [.ref 3000000, .ref 0, .ref 148, .ref 163, .int a4, .int a5, .int a6], [], sM Ln I L c s) Q) : dd_Rn d m_L_law_ (808, [.ref 3000000, .ref 0, .ref 148, .ref 163, .int a4, .int a5, .int a6], [], sM Ln I L c s) Q := by
  obtain ⟨e, rfl⟩ : ∃ e, d = e + 16 := ⟨d - 16, by omega⟩
  exact dd_Rn.go 1 (cf' := (3009, [.ref 3000000, .ref 0, .ref 148, .ref 163, .int a4, .int a5, .int a6], [], sM Ln I L c s)) rfl h (by omega)

theorem w_L_law__811 {Ln d c s : Nat} {I : Nat → Nat → Int32} {L : Nat → Nat → Int64} {Q : dd_O → Prop} {a4 : Int32} {a5 a6 : Value} (hd : 28 ≤ d) (h : ((0 ≤ a4 + 1 ∧ tn (a4 + 1) < Ln) ∧ ((0 ≤ a4 + 2 ∧ tn (a4 + 2) < Ln) ∧ ((I 3000000 (tn (a4 + 2)) = 0 → dd_Rn d m_L_law_ (832, [.ref 3000000, .ref 0, .ref 148, .ref 163, .int a4, a5, a6], [.int 0, .int (I 3000000 (tn (a4 + 1))), .ref 0], sM Ln I L c s) Q) ∧ (¬ (I 3000000 (tn (a4 + 2)) = 0) → dd_Rn d m_L_law_ (832, [.ref 3000000, .ref 0, .ref 148, .ref 163, .int a4, a5, a6], [.int 1, .int (I 3000000 (tn (a4 + 1))), .ref 0], sM Ln I L c s) Q))))) : dd_Rn d m_L_law_ (811, [.ref 3000000, .ref 0, .ref 148, .ref 163, .int a4, a5, a6], [], sM Ln I L c s) Q := by
  obtain ⟨e, rfl⟩ : ∃ e, d = e + 16 := ⟨d - 16, by omega⟩
  obtain ⟨hc, h⟩ := h
  refine dd_Rn.go 5 (cf' := (817, [.ref 3000000, .ref 0, .ref 148, .ref 163, .int a4, a5, a6], [.int (a4 + 1), .ref 3000000, .ref 0], sM Ln I L c s)) rfl ?_ (by omega)
  refine dd_Rn.ci (fun j0 => (817, [.ref 3000000, .ref 0, .ref 148, .ref 163, .int a4, a5, a6], [.int j0, .ref 3000000, .ref 0], sM Ln I L c s)) (fun j0 => (818, [.ref 3000000, .ref 0, .ref 148, .ref 163, .int a4, a5, a6], [.int (I 3000000 (tn j0)), .ref 0], sM Ln I L c s)) (fun j0 => 0 ≤ j0 ∧ tn j0 < Ln) (a4 + 1) (fun j0 hc h => dd_Rn.chk 0 (c := 0 ≤ j0 ∧ tn j0 < Ln) (A := (818, [.ref 3000000, .ref 0, .ref 148, .ref 163, .int a4, a5, a6], [.int (I 3000000 (tn j0)), .ref 0], sM Ln I L c s)) rfl hc h (by omega)) hc ?_
  refine dd_Rn.se (cf := (818, [.ref 3000000, .ref 0, .ref 148, .ref 163, .int a4, a5, a6], [.int (I 3000000 (tn (a4 + 1))), .ref 0], sM Ln I L c s)) ?_
  obtain ⟨hc, h⟩ := h
  refine dd_Rn.go 4 (cf' := (823, [.ref 3000000, .ref 0, .ref 148, .ref 163, .int a4, a5, a6], [.int (a4 + 2), .ref 3000000, .int (I 3000000 (tn (a4 + 1))), .ref 0], sM Ln I L c s)) rfl ?_ (by omega)
  refine dd_Rn.ci (fun j0 => (823, [.ref 3000000, .ref 0, .ref 148, .ref 163, .int a4, a5, a6], [.int j0, .ref 3000000, .int (I 3000000 (tn (a4 + 1))), .ref 0], sM Ln I L c s)) (fun j0 => (824, [.ref 3000000, .ref 0, .ref 148, .ref 163, .int a4, a5, a6], [.int (I 3000000 (tn j0)), .int (I 3000000 (tn (a4 + 1))), .ref 0], sM Ln I L c s)) (fun j0 => 0 ≤ j0 ∧ tn j0 < Ln) (a4 + 2) (fun j0 hc h => dd_Rn.chk 0 (c := 0 ≤ j0 ∧ tn j0 < Ln) (A := (824, [.ref 3000000, .ref 0, .ref 148, .ref 163, .int a4, a5, a6], [.int (I 3000000 (tn j0)), .int (I 3000000 (tn (a4 + 1))), .ref 0], sM Ln I L c s)) rfl hc h (by omega)) hc ?_
  refine dd_Rn.se (cf := (824, [.ref 3000000, .ref 0, .ref 148, .ref 163, .int a4, a5, a6], [.int (I 3000000 (tn (a4 + 2))), .int (I 3000000 (tn (a4 + 1))), .ref 0], sM Ln I L c s)) ?_
  refine dd_Rn.ite 0 (c := I 3000000 (tn (a4 + 2)) = 0) (A := (831, [.ref 3000000, .ref 0, .ref 148, .ref 163, .int a4, a5, a6], [.int (I 3000000 (tn (a4 + 1))), .ref 0], sM Ln I L c s)) (B := (827, [.ref 3000000, .ref 0, .ref 148, .ref 163, .int a4, a5, a6], [.int (I 3000000 (tn (a4 + 1))), .ref 0], sM Ln I L c s)) rfl (fun hc => ?_) (fun hc => ?_) (by omega)
  · have h := h.1 hc
    exact dd_Rn.go 1 (cf' := (832, [.ref 3000000, .ref 0, .ref 148, .ref 163, .int a4, a5, a6], [.int 0, .int (I 3000000 (tn (a4 + 1))), .ref 0], sM Ln I L c s)) rfl h (by omega)
  · have h := h.2 hc
    exact dd_Rn.go 2 (cf' := (832, [.ref 3000000, .ref 0, .ref 148, .ref 163, .int a4, a5, a6], [.int 1, .int (I 3000000 (tn (a4 + 1))), .ref 0], sM Ln I L c s)) rfl h (by omega)

theorem w_L_law__832 {Ln d c s : Nat} {I : Nat → Nat → Int32} {L : Nat → Nat → Int64} {Q : dd_O → Prop} {a4 b1 b2 : Int32} {a5 a6 : Value} (hd : 28 ≤ d) (h : dd_Ev (d - 1) m_L_plant [.ref 0, .int b1, .int b2, .ref 163] (sM Ln I L c s) (dd_RJ Ln c s (fun x1 I1 L1 c1 s1 => ((0 ≤ a4 + 1 ∧ tn (a4 + 1) < Ln) ∧ ((0 ≤ a4 + 2 ∧ tn (a4 + 2) < Ln) ∧ ((I1 3000000 (tn (a4 + 2)) = 0 → dd_Rn d m_L_law_ (859, [.ref 3000000, .ref 0, .ref 148, .ref 163, .int a4, .int x1, a6], [.int 0, .int (I1 3000000 (tn (a4 + 1))), .ref 148], sM Ln I1 L1 c1 s1) Q) ∧ (¬ (I1 3000000 (tn (a4 + 2)) = 0) → dd_Rn d m_L_law_ (859, [.ref 3000000, .ref 0, .ref 148, .ref 163, .int a4, .int x1, a6], [.int 1, .int (I1 3000000 (tn (a4 + 1))), .ref 148], sM Ln I1 L1 c1 s1) Q))))))) : dd_Rn d m_L_law_ (832, [.ref 3000000, .ref 0, .ref 148, .ref 163, .int a4, a5, a6], [.int b2, .int b1, .ref 0], sM Ln I L c s) Q := by
  obtain ⟨e, rfl⟩ : ∃ e, d = e + 16 := ⟨d - 16, by omega⟩
  refine dd_Rn.cJ 1 (pc := 833) (ls := [.ref 3000000, .ref 0, .ref 148, .ref 163, .int a4, a5, a6]) (st := [.ref 163, .int b2, .int b1, .ref 0]) (x := m_L_plant) (as := [.ref 0, .int b1, .int b2, .ref 163]) (rest := []) rfl rfl rfl rfl h ?_
  intro x1 I1 L1 c1 s1 h
  show dd_Rn (e + 16) m_L_law_ (836, [.ref 3000000, .ref 0, .ref 148, .ref 163, .int a4, a5, a6], [.int x1], sM Ln I1 L1 c1 s1) _
  obtain ⟨hc, h⟩ := h
  refine dd_Rn.go 6 (cf' := (844, [.ref 3000000, .ref 0, .ref 148, .ref 163, .int a4, .int x1, a6], [.int (a4 + 1), .ref 3000000, .ref 148], sM Ln I1 L1 c1 s1)) rfl ?_ (by omega)
  refine dd_Rn.ci (fun j0 => (844, [.ref 3000000, .ref 0, .ref 148, .ref 163, .int a4, .int x1, a6], [.int j0, .ref 3000000, .ref 148], sM Ln I1 L1 c1 s1)) (fun j0 => (845, [.ref 3000000, .ref 0, .ref 148, .ref 163, .int a4, .int x1, a6], [.int (I1 3000000 (tn j0)), .ref 148], sM Ln I1 L1 c1 s1)) (fun j0 => 0 ≤ j0 ∧ tn j0 < Ln) (a4 + 1) (fun j0 hc h => dd_Rn.chk 0 (c := 0 ≤ j0 ∧ tn j0 < Ln) (A := (845, [.ref 3000000, .ref 0, .ref 148, .ref 163, .int a4, .int x1, a6], [.int (I1 3000000 (tn j0)), .ref 148], sM Ln I1 L1 c1 s1)) rfl hc h (by omega)) hc ?_
  refine dd_Rn.se (cf := (845, [.ref 3000000, .ref 0, .ref 148, .ref 163, .int a4, .int x1, a6], [.int (I1 3000000 (tn (a4 + 1))), .ref 148], sM Ln I1 L1 c1 s1)) ?_
  obtain ⟨hc, h⟩ := h
  refine dd_Rn.go 4 (cf' := (850, [.ref 3000000, .ref 0, .ref 148, .ref 163, .int a4, .int x1, a6], [.int (a4 + 2), .ref 3000000, .int (I1 3000000 (tn (a4 + 1))), .ref 148], sM Ln I1 L1 c1 s1)) rfl ?_ (by omega)
  refine dd_Rn.ci (fun j0 => (850, [.ref 3000000, .ref 0, .ref 148, .ref 163, .int a4, .int x1, a6], [.int j0, .ref 3000000, .int (I1 3000000 (tn (a4 + 1))), .ref 148], sM Ln I1 L1 c1 s1)) (fun j0 => (851, [.ref 3000000, .ref 0, .ref 148, .ref 163, .int a4, .int x1, a6], [.int (I1 3000000 (tn j0)), .int (I1 3000000 (tn (a4 + 1))), .ref 148], sM Ln I1 L1 c1 s1)) (fun j0 => 0 ≤ j0 ∧ tn j0 < Ln) (a4 + 2) (fun j0 hc h => dd_Rn.chk 0 (c := 0 ≤ j0 ∧ tn j0 < Ln) (A := (851, [.ref 3000000, .ref 0, .ref 148, .ref 163, .int a4, .int x1, a6], [.int (I1 3000000 (tn j0)), .int (I1 3000000 (tn (a4 + 1))), .ref 148], sM Ln I1 L1 c1 s1)) rfl hc h (by omega)) hc ?_
  refine dd_Rn.se (cf := (851, [.ref 3000000, .ref 0, .ref 148, .ref 163, .int a4, .int x1, a6], [.int (I1 3000000 (tn (a4 + 2))), .int (I1 3000000 (tn (a4 + 1))), .ref 148], sM Ln I1 L1 c1 s1)) ?_
  refine dd_Rn.ite 0 (c := I1 3000000 (tn (a4 + 2)) = 0) (A := (858, [.ref 3000000, .ref 0, .ref 148, .ref 163, .int a4, .int x1, a6], [.int (I1 3000000 (tn (a4 + 1))), .ref 148], sM Ln I1 L1 c1 s1)) (B := (854, [.ref 3000000, .ref 0, .ref 148, .ref 163, .int a4, .int x1, a6], [.int (I1 3000000 (tn (a4 + 1))), .ref 148], sM Ln I1 L1 c1 s1)) rfl (fun hc => ?_) (fun hc => ?_) (by omega)
  · have h := h.1 hc
    exact dd_Rn.go 1 (cf' := (859, [.ref 3000000, .ref 0, .ref 148, .ref 163, .int a4, .int x1, a6], [.int 0, .int (I1 3000000 (tn (a4 + 1))), .ref 148], sM Ln I1 L1 c1 s1)) rfl h (by omega)
  · have h := h.2 hc
    exact dd_Rn.go 2 (cf' := (859, [.ref 3000000, .ref 0, .ref 148, .ref 163, .int a4, .int x1, a6], [.int 1, .int (I1 3000000 (tn (a4 + 1))), .ref 148], sM Ln I1 L1 c1 s1)) rfl h (by omega)

theorem w_L_law__859 {Ln d c s : Nat} {I : Nat → Nat → Int32} {L : Nat → Nat → Int64} {Q : dd_O → Prop} {a4 a5 b1 b2 : Int32} {a6 : Value} (hd : 28 ≤ d) (h : dd_Ev (d - 1) m_X11_plant [.ref 148, .int b1, .int b2] (sM Ln I L c s) (dd_RI Ln c s (fun x1 I1 L1 => ((I1 148 0 = a5 → ((a5 = 0 → ((x1 = 0 → dd_Rn d m_L_law_ (893, [.ref 3000000, .ref 0, .ref 148, .ref 163, .int a4, .int a5, .int x1], [.long (Int64.ofNat 0), .long (L1 163 0)], sM Ln I1 L1 c s) Q) ∧ (¬ (x1 = 0) → dd_Rn d m_L_law_ (893, [.ref 3000000, .ref 0, .ref 148, .ref 163, .int a4, .int a5, .int x1], [.long (Int64.ofNat 1), .long (L1 163 0)], sM Ln I1 L1 c s) Q))) ∧ (¬ (a5 = 0) → dd_Rn d m_L_law_ (899, [.ref 3000000, .ref 0, .ref 148, .ref 163, .int a4, .int a5, .int x1], [], sM Ln I1 L1 c s) Q))) ∧ (¬ (I1 148 0 = a5) → Q (none, .int 0, sM Ln I1 L1 c s)))))) : dd_Rn d m_L_law_ (859, [.ref 3000000, .ref 0, .ref 148, .ref 163, .int a4, .int a5, a6], [.int b2, .int b1, .ref 148], sM Ln I L c s) Q := by
  obtain ⟨e, rfl⟩ : ∃ e, d = e + 16 := ⟨d - 16, by omega⟩
  refine dd_Rn.cI 0 (pc := 859) (ls := [.ref 3000000, .ref 0, .ref 148, .ref 163, .int a4, .int a5, a6]) (st := [.int b2, .int b1, .ref 148]) (x := m_X11_plant) (as := [.ref 148, .int b1, .int b2]) (rest := []) rfl rfl rfl rfl h ?_
  intro x1 I1 L1 h
  show dd_Rn (e + 16) m_L_law_ (862, [.ref 3000000, .ref 0, .ref 148, .ref 163, .int a4, .int a5, a6], [.int x1], sM Ln I1 L1 c s) _
  refine dd_Rn.sub 2 (pc := 865) (ls := [.ref 3000000, .ref 0, .ref 148, .ref 163, .int a4, .int a5, .int x1]) (st := [.ref 148]) (M := sM Ln I1 L1 c s) (x := m_X11_thrown) (as := [.ref 148]) (rest := []) rfl rfl rfl rfl ?_
  show dd_Rn (e + 15) m_X11_thrown (0, [.ref 148], [], sM Ln I1 L1 c s) _
  refine dd_Rn.retK 2 (pc := 4) (ls := [.ref 148]) (st := [.int (I1 148 0)]) (M := sM Ln I1 L1 c s) (o := (none, .int (I1 148 0), sM Ln I1 L1 c s)) rfl rfl (dd_Af.ret rfl ?_) (by omega)
  show dd_Rn (e + 16) m_L_law_ (868, [.ref 3000000, .ref 0, .ref 148, .ref 163, .int a4, .int a5, .int x1], [.int (I1 148 0)], sM Ln I1 L1 c s) _
  refine dd_Rn.ite 1 (c := I1 148 0 = a5) (A := (875, [.ref 3000000, .ref 0, .ref 148, .ref 163, .int a4, .int a5, .int x1], [], sM Ln I1 L1 c s)) (B := (873, [.ref 3000000, .ref 0, .ref 148, .ref 163, .int a4, .int a5, .int x1], [], sM Ln I1 L1 c s)) rfl (fun hc => ?_) (fun hc => ?_) (by omega)
  · have h := h.1 hc
    refine dd_Rn.ite 1 (c := a5 = 0) (A := (880, [.ref 3000000, .ref 0, .ref 148, .ref 163, .int a4, .int a5, .int x1], [], sM Ln I1 L1 c s)) (B := (899, [.ref 3000000, .ref 0, .ref 148, .ref 163, .int a4, .int a5, .int x1], [], sM Ln I1 L1 c s)) rfl (fun hc => ?_) (fun hc => ?_) (by omega)
    · have h := h.1 hc
      refine dd_Rn.ite 4 (c := x1 = 0) (A := (892, [.ref 3000000, .ref 0, .ref 148, .ref 163, .int a4, .int a5, .int x1], [.long (L1 163 0)], sM Ln I1 L1 c s)) (B := (888, [.ref 3000000, .ref 0, .ref 148, .ref 163, .int a4, .int a5, .int x1], [.long (L1 163 0)], sM Ln I1 L1 c s)) rfl (fun hc => ?_) (fun hc => ?_) (by omega)
      · have h := h.1 hc
        exact dd_Rn.go 1 (cf' := (893, [.ref 3000000, .ref 0, .ref 148, .ref 163, .int a4, .int a5, .int x1], [.long (Int64.ofNat 0), .long (L1 163 0)], sM Ln I1 L1 c s)) rfl h (by omega)
      · have h := h.2 hc
        exact dd_Rn.go 2 (cf' := (893, [.ref 3000000, .ref 0, .ref 148, .ref 163, .int a4, .int a5, .int x1], [.long (Int64.ofNat 1), .long (L1 163 0)], sM Ln I1 L1 c s)) rfl h (by omega)
    · have h := h.2 hc
      exact dd_Rn.go 0 (cf' := (899, [.ref 3000000, .ref 0, .ref 148, .ref 163, .int a4, .int a5, .int x1], [], sM Ln I1 L1 c s)) rfl h (by omega)
  · have h := h.2 hc
    exact dd_Rn.retK 1 (pc := 874) (ls := [.ref 3000000, .ref 0, .ref 148, .ref 163, .int a4, .int a5, .int x1]) (st := [.int 0]) (M := sM Ln I1 L1 c s) (o := (none, .int 0, sM Ln I1 L1 c s)) rfl rfl h (by omega)

theorem w_L_law__893 {Ln d c s : Nat} {I : Nat → Nat → Int32} {L : Nat → Nat → Int64} {Q : dd_O → Prop} {a4 a5 a6 : Int32} {b0 b1 : Int64} (hd : 28 ≤ d) (h : ((lg_cmp b0 b1 = 0 → dd_Rn d m_L_law_ (899, [.ref 3000000, .ref 0, .ref 148, .ref 163, .int a4, .int a5, .int a6], [], sM Ln I L c s) Q) ∧ (¬ (lg_cmp b0 b1 = 0) → Q (none, .int 0, sM Ln I L c s)))) : dd_Rn d m_L_law_ (893, [.ref 3000000, .ref 0, .ref 148, .ref 163, .int a4, .int a5, .int a6], [.long b1, .long b0], sM Ln I L c s) Q := by
  obtain ⟨e, rfl⟩ : ∃ e, d = e + 16 := ⟨d - 16, by omega⟩
  refine dd_Rn.ite 1 (c := lg_cmp b0 b1 = 0) (A := (899, [.ref 3000000, .ref 0, .ref 148, .ref 163, .int a4, .int a5, .int a6], [], sM Ln I L c s)) (B := (897, [.ref 3000000, .ref 0, .ref 148, .ref 163, .int a4, .int a5, .int a6], [], sM Ln I L c s)) rfl (fun hc => ?_) (fun hc => ?_) (by omega)
  · have h := h.1 hc
    exact dd_Rn.go 0 (cf' := (899, [.ref 3000000, .ref 0, .ref 148, .ref 163, .int a4, .int a5, .int a6], [], sM Ln I L c s)) rfl h (by omega)
  · have h := h.2 hc
    exact dd_Rn.retK 1 (pc := 898) (ls := [.ref 3000000, .ref 0, .ref 148, .ref 163, .int a4, .int a5, .int a6]) (st := [.int 0]) (M := sM Ln I L c s) (o := (none, .int 0, sM Ln I L c s)) rfl rfl h (by omega)

theorem w_L_law__899 {Ln d c s : Nat} {I : Nat → Nat → Int32} {L : Nat → Nat → Int64} {Q : dd_O → Prop} {a4 a5 a6 : Int32} (hd : 28 ≤ d) (h : dd_Rn d m_L_law_ (3009, [.ref 3000000, .ref 0, .ref 148, .ref 163, .int a4, .int a5, .int a6], [], sM Ln I L c s) Q) : dd_Rn d m_L_law_ (899, [.ref 3000000, .ref 0, .ref 148, .ref 163, .int a4, .int a5, .int a6], [], sM Ln I L c s) Q := by
  obtain ⟨e, rfl⟩ : ∃ e, d = e + 16 := ⟨d - 16, by omega⟩
  exact dd_Rn.go 1 (cf' := (3009, [.ref 3000000, .ref 0, .ref 148, .ref 163, .int a4, .int a5, .int a6], [], sM Ln I L c s)) rfl h (by omega)

theorem w_L_law__902 {Ln d c s : Nat} {I : Nat → Nat → Int32} {L : Nat → Nat → Int64} {Q : dd_O → Prop} {a4 : Int32} {a5 a6 : Value} (hd : 28 ≤ d) (h : ((0 ≤ a4 + 1 ∧ tn (a4 + 1) < Ln) ∧ ((0 ≤ a4 + 2 ∧ tn (a4 + 2) < Ln) ∧ dd_Ev (d - 1) m_L_part [.ref 0, .int (I 3000000 (tn (a4 + 1))), .int (I 3000000 (tn (a4 + 2))), .ref 163] (sM Ln I L c s) (dd_RJ Ln c s (fun x1 I1 L1 c1 s1 => ((0 ≤ a4 + 1 ∧ tn (a4 + 1) < Ln) ∧ ((0 ≤ a4 + 2 ∧ tn (a4 + 2) < Ln) ∧ dd_Ev (d - 1) m_X11_part [.ref 148, .int (I1 3000000 (tn (a4 + 1))), .int (I1 3000000 (tn (a4 + 2)))] (sM Ln I1 L1 c1 s1) (dd_RI Ln c1 s1 (fun x2 I2 L2 => ((I2 148 0 = x1 → ((x1 = 0 → ((lg_cmp (L2 163 0) x2.toInt64 = 0 → dd_Rn d m_L_law_ (967, [.ref 3000000, .ref 0, .ref 148, .ref 163, .int a4, .int x1, .int x2], [], sM Ln I2 L2 c1 s1) Q) ∧ (¬ (lg_cmp (L2 163 0) x2.toInt64 = 0) → Q (none, .int 0, sM Ln I2 L2 c1 s1)))) ∧ (¬ (x1 = 0) → dd_Rn d m_L_law_ (967, [.ref 3000000, .ref 0, .ref 148, .ref 163, .int a4, .int x1, .int x2], [], sM Ln I2 L2 c1 s1) Q))) ∧ (¬ (I2 148 0 = x1) → Q (none, .int 0, sM Ln I2 L2 c1 s1)))))))))))) : dd_Rn d m_L_law_ (902, [.ref 3000000, .ref 0, .ref 148, .ref 163, .int a4, a5, a6], [], sM Ln I L c s) Q := by
  obtain ⟨e, rfl⟩ : ∃ e, d = e + 16 := ⟨d - 16, by omega⟩
  obtain ⟨hc, h⟩ := h
  refine dd_Rn.go 5 (cf' := (908, [.ref 3000000, .ref 0, .ref 148, .ref 163, .int a4, a5, a6], [.int (a4 + 1), .ref 3000000, .ref 0], sM Ln I L c s)) rfl ?_ (by omega)
  refine dd_Rn.ci (fun j0 => (908, [.ref 3000000, .ref 0, .ref 148, .ref 163, .int a4, a5, a6], [.int j0, .ref 3000000, .ref 0], sM Ln I L c s)) (fun j0 => (909, [.ref 3000000, .ref 0, .ref 148, .ref 163, .int a4, a5, a6], [.int (I 3000000 (tn j0)), .ref 0], sM Ln I L c s)) (fun j0 => 0 ≤ j0 ∧ tn j0 < Ln) (a4 + 1) (fun j0 hc h => dd_Rn.chk 0 (c := 0 ≤ j0 ∧ tn j0 < Ln) (A := (909, [.ref 3000000, .ref 0, .ref 148, .ref 163, .int a4, a5, a6], [.int (I 3000000 (tn j0)), .ref 0], sM Ln I L c s)) rfl hc h (by omega)) hc ?_
  refine dd_Rn.se (cf := (909, [.ref 3000000, .ref 0, .ref 148, .ref 163, .int a4, a5, a6], [.int (I 3000000 (tn (a4 + 1))), .ref 0], sM Ln I L c s)) ?_
  obtain ⟨hc, h⟩ := h
  refine dd_Rn.go 4 (cf' := (914, [.ref 3000000, .ref 0, .ref 148, .ref 163, .int a4, a5, a6], [.int (a4 + 2), .ref 3000000, .int (I 3000000 (tn (a4 + 1))), .ref 0], sM Ln I L c s)) rfl ?_ (by omega)
  refine dd_Rn.ci (fun j0 => (914, [.ref 3000000, .ref 0, .ref 148, .ref 163, .int a4, a5, a6], [.int j0, .ref 3000000, .int (I 3000000 (tn (a4 + 1))), .ref 0], sM Ln I L c s)) (fun j0 => (915, [.ref 3000000, .ref 0, .ref 148, .ref 163, .int a4, a5, a6], [.int (I 3000000 (tn j0)), .int (I 3000000 (tn (a4 + 1))), .ref 0], sM Ln I L c s)) (fun j0 => 0 ≤ j0 ∧ tn j0 < Ln) (a4 + 2) (fun j0 hc h => dd_Rn.chk 0 (c := 0 ≤ j0 ∧ tn j0 < Ln) (A := (915, [.ref 3000000, .ref 0, .ref 148, .ref 163, .int a4, a5, a6], [.int (I 3000000 (tn j0)), .int (I 3000000 (tn (a4 + 1))), .ref 0], sM Ln I L c s)) rfl hc h (by omega)) hc ?_
  refine dd_Rn.se (cf := (915, [.ref 3000000, .ref 0, .ref 148, .ref 163, .int a4, a5, a6], [.int (I 3000000 (tn (a4 + 2))), .int (I 3000000 (tn (a4 + 1))), .ref 0], sM Ln I L c s)) ?_
  refine dd_Rn.cJ 1 (pc := 916) (ls := [.ref 3000000, .ref 0, .ref 148, .ref 163, .int a4, a5, a6]) (st := [.ref 163, .int (I 3000000 (tn (a4 + 2))), .int (I 3000000 (tn (a4 + 1))), .ref 0]) (x := m_L_part) (as := [.ref 0, .int (I 3000000 (tn (a4 + 1))), .int (I 3000000 (tn (a4 + 2))), .ref 163]) (rest := []) rfl rfl rfl rfl h ?_
  intro x1 I1 L1 c1 s1 h
  show dd_Rn (e + 16) m_L_law_ (919, [.ref 3000000, .ref 0, .ref 148, .ref 163, .int a4, a5, a6], [.int x1], sM Ln I1 L1 c1 s1) _
  obtain ⟨hc, h⟩ := h
  refine dd_Rn.go 6 (cf' := (927, [.ref 3000000, .ref 0, .ref 148, .ref 163, .int a4, .int x1, a6], [.int (a4 + 1), .ref 3000000, .ref 148], sM Ln I1 L1 c1 s1)) rfl ?_ (by omega)
  refine dd_Rn.ci (fun j0 => (927, [.ref 3000000, .ref 0, .ref 148, .ref 163, .int a4, .int x1, a6], [.int j0, .ref 3000000, .ref 148], sM Ln I1 L1 c1 s1)) (fun j0 => (928, [.ref 3000000, .ref 0, .ref 148, .ref 163, .int a4, .int x1, a6], [.int (I1 3000000 (tn j0)), .ref 148], sM Ln I1 L1 c1 s1)) (fun j0 => 0 ≤ j0 ∧ tn j0 < Ln) (a4 + 1) (fun j0 hc h => dd_Rn.chk 0 (c := 0 ≤ j0 ∧ tn j0 < Ln) (A := (928, [.ref 3000000, .ref 0, .ref 148, .ref 163, .int a4, .int x1, a6], [.int (I1 3000000 (tn j0)), .ref 148], sM Ln I1 L1 c1 s1)) rfl hc h (by omega)) hc ?_
  refine dd_Rn.se (cf := (928, [.ref 3000000, .ref 0, .ref 148, .ref 163, .int a4, .int x1, a6], [.int (I1 3000000 (tn (a4 + 1))), .ref 148], sM Ln I1 L1 c1 s1)) ?_
  obtain ⟨hc, h⟩ := h
  refine dd_Rn.go 4 (cf' := (933, [.ref 3000000, .ref 0, .ref 148, .ref 163, .int a4, .int x1, a6], [.int (a4 + 2), .ref 3000000, .int (I1 3000000 (tn (a4 + 1))), .ref 148], sM Ln I1 L1 c1 s1)) rfl ?_ (by omega)
  refine dd_Rn.ci (fun j0 => (933, [.ref 3000000, .ref 0, .ref 148, .ref 163, .int a4, .int x1, a6], [.int j0, .ref 3000000, .int (I1 3000000 (tn (a4 + 1))), .ref 148], sM Ln I1 L1 c1 s1)) (fun j0 => (934, [.ref 3000000, .ref 0, .ref 148, .ref 163, .int a4, .int x1, a6], [.int (I1 3000000 (tn j0)), .int (I1 3000000 (tn (a4 + 1))), .ref 148], sM Ln I1 L1 c1 s1)) (fun j0 => 0 ≤ j0 ∧ tn j0 < Ln) (a4 + 2) (fun j0 hc h => dd_Rn.chk 0 (c := 0 ≤ j0 ∧ tn j0 < Ln) (A := (934, [.ref 3000000, .ref 0, .ref 148, .ref 163, .int a4, .int x1, a6], [.int (I1 3000000 (tn j0)), .int (I1 3000000 (tn (a4 + 1))), .ref 148], sM Ln I1 L1 c1 s1)) rfl hc h (by omega)) hc ?_
  refine dd_Rn.se (cf := (934, [.ref 3000000, .ref 0, .ref 148, .ref 163, .int a4, .int x1, a6], [.int (I1 3000000 (tn (a4 + 2))), .int (I1 3000000 (tn (a4 + 1))), .ref 148], sM Ln I1 L1 c1 s1)) ?_
  refine dd_Rn.cI 0 (pc := 934) (ls := [.ref 3000000, .ref 0, .ref 148, .ref 163, .int a4, .int x1, a6]) (st := [.int (I1 3000000 (tn (a4 + 2))), .int (I1 3000000 (tn (a4 + 1))), .ref 148]) (x := m_X11_part) (as := [.ref 148, .int (I1 3000000 (tn (a4 + 1))), .int (I1 3000000 (tn (a4 + 2)))]) (rest := []) rfl rfl rfl rfl h ?_
  intro x2 I2 L2 h
  show dd_Rn (e + 16) m_L_law_ (937, [.ref 3000000, .ref 0, .ref 148, .ref 163, .int a4, .int x1, a6], [.int x2], sM Ln I2 L2 c1 s1) _
  refine dd_Rn.sub 2 (pc := 940) (ls := [.ref 3000000, .ref 0, .ref 148, .ref 163, .int a4, .int x1, .int x2]) (st := [.ref 148]) (M := sM Ln I2 L2 c1 s1) (x := m_X11_thrown) (as := [.ref 148]) (rest := []) rfl rfl rfl rfl ?_
  show dd_Rn (e + 15) m_X11_thrown (0, [.ref 148], [], sM Ln I2 L2 c1 s1) _
  refine dd_Rn.retK 2 (pc := 4) (ls := [.ref 148]) (st := [.int (I2 148 0)]) (M := sM Ln I2 L2 c1 s1) (o := (none, .int (I2 148 0), sM Ln I2 L2 c1 s1)) rfl rfl (dd_Af.ret rfl ?_) (by omega)
  show dd_Rn (e + 16) m_L_law_ (943, [.ref 3000000, .ref 0, .ref 148, .ref 163, .int a4, .int x1, .int x2], [.int (I2 148 0)], sM Ln I2 L2 c1 s1) _
  refine dd_Rn.ite 1 (c := I2 148 0 = x1) (A := (950, [.ref 3000000, .ref 0, .ref 148, .ref 163, .int a4, .int x1, .int x2], [], sM Ln I2 L2 c1 s1)) (B := (948, [.ref 3000000, .ref 0, .ref 148, .ref 163, .int a4, .int x1, .int x2], [], sM Ln I2 L2 c1 s1)) rfl (fun hc => ?_) (fun hc => ?_) (by omega)
  · have h := h.1 hc
    refine dd_Rn.ite 1 (c := x1 = 0) (A := (955, [.ref 3000000, .ref 0, .ref 148, .ref 163, .int a4, .int x1, .int x2], [], sM Ln I2 L2 c1 s1)) (B := (967, [.ref 3000000, .ref 0, .ref 148, .ref 163, .int a4, .int x1, .int x2], [], sM Ln I2 L2 c1 s1)) rfl (fun hc => ?_) (fun hc => ?_) (by omega)
    · have h := h.1 hc
      refine dd_Rn.ite 6 (c := lg_cmp (L2 163 0) x2.toInt64 = 0) (A := (967, [.ref 3000000, .ref 0, .ref 148, .ref 163, .int a4, .int x1, .int x2], [], sM Ln I2 L2 c1 s1)) (B := (965, [.ref 3000000, .ref 0, .ref 148, .ref 163, .int a4, .int x1, .int x2], [], sM Ln I2 L2 c1 s1)) rfl (fun hc => ?_) (fun hc => ?_) (by omega)
      · have h := h.1 hc
        exact dd_Rn.go 0 (cf' := (967, [.ref 3000000, .ref 0, .ref 148, .ref 163, .int a4, .int x1, .int x2], [], sM Ln I2 L2 c1 s1)) rfl h (by omega)
      · have h := h.2 hc
        exact dd_Rn.retK 1 (pc := 966) (ls := [.ref 3000000, .ref 0, .ref 148, .ref 163, .int a4, .int x1, .int x2]) (st := [.int 0]) (M := sM Ln I2 L2 c1 s1) (o := (none, .int 0, sM Ln I2 L2 c1 s1)) rfl rfl h (by omega)
    · have h := h.2 hc
      exact dd_Rn.go 0 (cf' := (967, [.ref 3000000, .ref 0, .ref 148, .ref 163, .int a4, .int x1, .int x2], [], sM Ln I2 L2 c1 s1)) rfl h (by omega)
  · have h := h.2 hc
    exact dd_Rn.retK 1 (pc := 949) (ls := [.ref 3000000, .ref 0, .ref 148, .ref 163, .int a4, .int x1, .int x2]) (st := [.int 0]) (M := sM Ln I2 L2 c1 s1) (o := (none, .int 0, sM Ln I2 L2 c1 s1)) rfl rfl h (by omega)

theorem w_L_law__967 {Ln d c s : Nat} {I : Nat → Nat → Int32} {L : Nat → Nat → Int64} {Q : dd_O → Prop} {a4 a5 a6 : Int32} (hd : 28 ≤ d) (h : dd_Rn d m_L_law_ (3009, [.ref 3000000, .ref 0, .ref 148, .ref 163, .int a4, .int a5, .int a6], [], sM Ln I L c s) Q) : dd_Rn d m_L_law_ (967, [.ref 3000000, .ref 0, .ref 148, .ref 163, .int a4, .int a5, .int a6], [], sM Ln I L c s) Q := by
  obtain ⟨e, rfl⟩ : ∃ e, d = e + 16 := ⟨d - 16, by omega⟩
  exact dd_Rn.go 1 (cf' := (3009, [.ref 3000000, .ref 0, .ref 148, .ref 163, .int a4, .int a5, .int a6], [], sM Ln I L c s)) rfl h (by omega)

theorem w_L_law__970 {Ln d c s : Nat} {I : Nat → Nat → Int32} {L : Nat → Nat → Int64} {Q : dd_O → Prop} {a4 : Int32} {a5 a6 : Value} (hd : 28 ≤ d) (h : ((0 ≤ a4 + 1 ∧ tn (a4 + 1) < Ln) ∧ ((0 ≤ a4 + 2 ∧ tn (a4 + 2) < Ln) ∧ ((0 ≤ a4 + 3 ∧ tn (a4 + 3) < Ln) ∧ dd_Ev (d - 1) m_L_tune [.ref 0, .int (I 3000000 (tn (a4 + 1))), .int (I 3000000 (tn (a4 + 2))), .int (I 3000000 (tn (a4 + 3))), .ref 163] (sM Ln I L c s) (dd_RJ Ln c s (fun x1 I1 L1 c1 s1 => ((0 ≤ a4 + 1 ∧ tn (a4 + 1) < Ln) ∧ ((0 ≤ a4 + 2 ∧ tn (a4 + 2) < Ln) ∧ ((0 ≤ a4 + 3 ∧ tn (a4 + 3) < Ln) ∧ dd_Ev (d - 1) m_X11_tune [.ref 148, .int (I1 3000000 (tn (a4 + 1))), .int (I1 3000000 (tn (a4 + 2))), .int (I1 3000000 (tn (a4 + 3)))] (sM Ln I1 L1 c1 s1) (dd_RI Ln c1 s1 (fun x2 I2 L2 => ((I2 148 0 = x1 → ((x1 = 0 → ((lg_cmp (L2 163 0) x2.toInt64 = 0 → dd_Rn d m_L_law_ (1047, [.ref 3000000, .ref 0, .ref 148, .ref 163, .int a4, .int x1, .int x2], [], sM Ln I2 L2 c1 s1) Q) ∧ (¬ (lg_cmp (L2 163 0) x2.toInt64 = 0) → Q (none, .int 0, sM Ln I2 L2 c1 s1)))) ∧ (¬ (x1 = 0) → dd_Rn d m_L_law_ (1047, [.ref 3000000, .ref 0, .ref 148, .ref 163, .int a4, .int x1, .int x2], [], sM Ln I2 L2 c1 s1) Q))) ∧ (¬ (I2 148 0 = x1) → Q (none, .int 0, sM Ln I2 L2 c1 s1)))))))))))))) : dd_Rn d m_L_law_ (970, [.ref 3000000, .ref 0, .ref 148, .ref 163, .int a4, a5, a6], [], sM Ln I L c s) Q := by
  obtain ⟨e, rfl⟩ : ∃ e, d = e + 16 := ⟨d - 16, by omega⟩
  obtain ⟨hc, h⟩ := h
  refine dd_Rn.go 5 (cf' := (976, [.ref 3000000, .ref 0, .ref 148, .ref 163, .int a4, a5, a6], [.int (a4 + 1), .ref 3000000, .ref 0], sM Ln I L c s)) rfl ?_ (by omega)
  refine dd_Rn.ci (fun j0 => (976, [.ref 3000000, .ref 0, .ref 148, .ref 163, .int a4, a5, a6], [.int j0, .ref 3000000, .ref 0], sM Ln I L c s)) (fun j0 => (977, [.ref 3000000, .ref 0, .ref 148, .ref 163, .int a4, a5, a6], [.int (I 3000000 (tn j0)), .ref 0], sM Ln I L c s)) (fun j0 => 0 ≤ j0 ∧ tn j0 < Ln) (a4 + 1) (fun j0 hc h => dd_Rn.chk 0 (c := 0 ≤ j0 ∧ tn j0 < Ln) (A := (977, [.ref 3000000, .ref 0, .ref 148, .ref 163, .int a4, a5, a6], [.int (I 3000000 (tn j0)), .ref 0], sM Ln I L c s)) rfl hc h (by omega)) hc ?_
  refine dd_Rn.se (cf := (977, [.ref 3000000, .ref 0, .ref 148, .ref 163, .int a4, a5, a6], [.int (I 3000000 (tn (a4 + 1))), .ref 0], sM Ln I L c s)) ?_
  obtain ⟨hc, h⟩ := h
  refine dd_Rn.go 4 (cf' := (982, [.ref 3000000, .ref 0, .ref 148, .ref 163, .int a4, a5, a6], [.int (a4 + 2), .ref 3000000, .int (I 3000000 (tn (a4 + 1))), .ref 0], sM Ln I L c s)) rfl ?_ (by omega)
  refine dd_Rn.ci (fun j0 => (982, [.ref 3000000, .ref 0, .ref 148, .ref 163, .int a4, a5, a6], [.int j0, .ref 3000000, .int (I 3000000 (tn (a4 + 1))), .ref 0], sM Ln I L c s)) (fun j0 => (983, [.ref 3000000, .ref 0, .ref 148, .ref 163, .int a4, a5, a6], [.int (I 3000000 (tn j0)), .int (I 3000000 (tn (a4 + 1))), .ref 0], sM Ln I L c s)) (fun j0 => 0 ≤ j0 ∧ tn j0 < Ln) (a4 + 2) (fun j0 hc h => dd_Rn.chk 0 (c := 0 ≤ j0 ∧ tn j0 < Ln) (A := (983, [.ref 3000000, .ref 0, .ref 148, .ref 163, .int a4, a5, a6], [.int (I 3000000 (tn j0)), .int (I 3000000 (tn (a4 + 1))), .ref 0], sM Ln I L c s)) rfl hc h (by omega)) hc ?_
  refine dd_Rn.se (cf := (983, [.ref 3000000, .ref 0, .ref 148, .ref 163, .int a4, a5, a6], [.int (I 3000000 (tn (a4 + 2))), .int (I 3000000 (tn (a4 + 1))), .ref 0], sM Ln I L c s)) ?_
  obtain ⟨hc, h⟩ := h
  refine dd_Rn.go 4 (cf' := (988, [.ref 3000000, .ref 0, .ref 148, .ref 163, .int a4, a5, a6], [.int (a4 + 3), .ref 3000000, .int (I 3000000 (tn (a4 + 2))), .int (I 3000000 (tn (a4 + 1))), .ref 0], sM Ln I L c s)) rfl ?_ (by omega)
  refine dd_Rn.ci (fun j0 => (988, [.ref 3000000, .ref 0, .ref 148, .ref 163, .int a4, a5, a6], [.int j0, .ref 3000000, .int (I 3000000 (tn (a4 + 2))), .int (I 3000000 (tn (a4 + 1))), .ref 0], sM Ln I L c s)) (fun j0 => (989, [.ref 3000000, .ref 0, .ref 148, .ref 163, .int a4, a5, a6], [.int (I 3000000 (tn j0)), .int (I 3000000 (tn (a4 + 2))), .int (I 3000000 (tn (a4 + 1))), .ref 0], sM Ln I L c s)) (fun j0 => 0 ≤ j0 ∧ tn j0 < Ln) (a4 + 3) (fun j0 hc h => dd_Rn.chk 0 (c := 0 ≤ j0 ∧ tn j0 < Ln) (A := (989, [.ref 3000000, .ref 0, .ref 148, .ref 163, .int a4, a5, a6], [.int (I 3000000 (tn j0)), .int (I 3000000 (tn (a4 + 2))), .int (I 3000000 (tn (a4 + 1))), .ref 0], sM Ln I L c s)) rfl hc h (by omega)) hc ?_
  refine dd_Rn.se (cf := (989, [.ref 3000000, .ref 0, .ref 148, .ref 163, .int a4, a5, a6], [.int (I 3000000 (tn (a4 + 3))), .int (I 3000000 (tn (a4 + 2))), .int (I 3000000 (tn (a4 + 1))), .ref 0], sM Ln I L c s)) ?_
  refine dd_Rn.cJ 1 (pc := 990) (ls := [.ref 3000000, .ref 0, .ref 148, .ref 163, .int a4, a5, a6]) (st := [.ref 163, .int (I 3000000 (tn (a4 + 3))), .int (I 3000000 (tn (a4 + 2))), .int (I 3000000 (tn (a4 + 1))), .ref 0]) (x := m_L_tune) (as := [.ref 0, .int (I 3000000 (tn (a4 + 1))), .int (I 3000000 (tn (a4 + 2))), .int (I 3000000 (tn (a4 + 3))), .ref 163]) (rest := []) rfl rfl rfl rfl h ?_
  intro x1 I1 L1 c1 s1 h
  show dd_Rn (e + 16) m_L_law_ (993, [.ref 3000000, .ref 0, .ref 148, .ref 163, .int a4, a5, a6], [.int x1], sM Ln I1 L1 c1 s1) _
  obtain ⟨hc, h⟩ := h
  refine dd_Rn.go 6 (cf' := (1001, [.ref 3000000, .ref 0, .ref 148, .ref 163, .int a4, .int x1, a6], [.int (a4 + 1), .ref 3000000, .ref 148], sM Ln I1 L1 c1 s1)) rfl ?_ (by omega)
  refine dd_Rn.ci (fun j0 => (1001, [.ref 3000000, .ref 0, .ref 148, .ref 163, .int a4, .int x1, a6], [.int j0, .ref 3000000, .ref 148], sM Ln I1 L1 c1 s1)) (fun j0 => (1002, [.ref 3000000, .ref 0, .ref 148, .ref 163, .int a4, .int x1, a6], [.int (I1 3000000 (tn j0)), .ref 148], sM Ln I1 L1 c1 s1)) (fun j0 => 0 ≤ j0 ∧ tn j0 < Ln) (a4 + 1) (fun j0 hc h => dd_Rn.chk 0 (c := 0 ≤ j0 ∧ tn j0 < Ln) (A := (1002, [.ref 3000000, .ref 0, .ref 148, .ref 163, .int a4, .int x1, a6], [.int (I1 3000000 (tn j0)), .ref 148], sM Ln I1 L1 c1 s1)) rfl hc h (by omega)) hc ?_
  refine dd_Rn.se (cf := (1002, [.ref 3000000, .ref 0, .ref 148, .ref 163, .int a4, .int x1, a6], [.int (I1 3000000 (tn (a4 + 1))), .ref 148], sM Ln I1 L1 c1 s1)) ?_
  obtain ⟨hc, h⟩ := h
  refine dd_Rn.go 4 (cf' := (1007, [.ref 3000000, .ref 0, .ref 148, .ref 163, .int a4, .int x1, a6], [.int (a4 + 2), .ref 3000000, .int (I1 3000000 (tn (a4 + 1))), .ref 148], sM Ln I1 L1 c1 s1)) rfl ?_ (by omega)
  refine dd_Rn.ci (fun j0 => (1007, [.ref 3000000, .ref 0, .ref 148, .ref 163, .int a4, .int x1, a6], [.int j0, .ref 3000000, .int (I1 3000000 (tn (a4 + 1))), .ref 148], sM Ln I1 L1 c1 s1)) (fun j0 => (1008, [.ref 3000000, .ref 0, .ref 148, .ref 163, .int a4, .int x1, a6], [.int (I1 3000000 (tn j0)), .int (I1 3000000 (tn (a4 + 1))), .ref 148], sM Ln I1 L1 c1 s1)) (fun j0 => 0 ≤ j0 ∧ tn j0 < Ln) (a4 + 2) (fun j0 hc h => dd_Rn.chk 0 (c := 0 ≤ j0 ∧ tn j0 < Ln) (A := (1008, [.ref 3000000, .ref 0, .ref 148, .ref 163, .int a4, .int x1, a6], [.int (I1 3000000 (tn j0)), .int (I1 3000000 (tn (a4 + 1))), .ref 148], sM Ln I1 L1 c1 s1)) rfl hc h (by omega)) hc ?_
  refine dd_Rn.se (cf := (1008, [.ref 3000000, .ref 0, .ref 148, .ref 163, .int a4, .int x1, a6], [.int (I1 3000000 (tn (a4 + 2))), .int (I1 3000000 (tn (a4 + 1))), .ref 148], sM Ln I1 L1 c1 s1)) ?_
  obtain ⟨hc, h⟩ := h
  refine dd_Rn.go 4 (cf' := (1013, [.ref 3000000, .ref 0, .ref 148, .ref 163, .int a4, .int x1, a6], [.int (a4 + 3), .ref 3000000, .int (I1 3000000 (tn (a4 + 2))), .int (I1 3000000 (tn (a4 + 1))), .ref 148], sM Ln I1 L1 c1 s1)) rfl ?_ (by omega)
  refine dd_Rn.ci (fun j0 => (1013, [.ref 3000000, .ref 0, .ref 148, .ref 163, .int a4, .int x1, a6], [.int j0, .ref 3000000, .int (I1 3000000 (tn (a4 + 2))), .int (I1 3000000 (tn (a4 + 1))), .ref 148], sM Ln I1 L1 c1 s1)) (fun j0 => (1014, [.ref 3000000, .ref 0, .ref 148, .ref 163, .int a4, .int x1, a6], [.int (I1 3000000 (tn j0)), .int (I1 3000000 (tn (a4 + 2))), .int (I1 3000000 (tn (a4 + 1))), .ref 148], sM Ln I1 L1 c1 s1)) (fun j0 => 0 ≤ j0 ∧ tn j0 < Ln) (a4 + 3) (fun j0 hc h => dd_Rn.chk 0 (c := 0 ≤ j0 ∧ tn j0 < Ln) (A := (1014, [.ref 3000000, .ref 0, .ref 148, .ref 163, .int a4, .int x1, a6], [.int (I1 3000000 (tn j0)), .int (I1 3000000 (tn (a4 + 2))), .int (I1 3000000 (tn (a4 + 1))), .ref 148], sM Ln I1 L1 c1 s1)) rfl hc h (by omega)) hc ?_
  refine dd_Rn.se (cf := (1014, [.ref 3000000, .ref 0, .ref 148, .ref 163, .int a4, .int x1, a6], [.int (I1 3000000 (tn (a4 + 3))), .int (I1 3000000 (tn (a4 + 2))), .int (I1 3000000 (tn (a4 + 1))), .ref 148], sM Ln I1 L1 c1 s1)) ?_
  refine dd_Rn.cI 0 (pc := 1014) (ls := [.ref 3000000, .ref 0, .ref 148, .ref 163, .int a4, .int x1, a6]) (st := [.int (I1 3000000 (tn (a4 + 3))), .int (I1 3000000 (tn (a4 + 2))), .int (I1 3000000 (tn (a4 + 1))), .ref 148]) (x := m_X11_tune) (as := [.ref 148, .int (I1 3000000 (tn (a4 + 1))), .int (I1 3000000 (tn (a4 + 2))), .int (I1 3000000 (tn (a4 + 3)))]) (rest := []) rfl rfl rfl rfl h ?_
  intro x2 I2 L2 h
  show dd_Rn (e + 16) m_L_law_ (1017, [.ref 3000000, .ref 0, .ref 148, .ref 163, .int a4, .int x1, a6], [.int x2], sM Ln I2 L2 c1 s1) _
  refine dd_Rn.sub 2 (pc := 1020) (ls := [.ref 3000000, .ref 0, .ref 148, .ref 163, .int a4, .int x1, .int x2]) (st := [.ref 148]) (M := sM Ln I2 L2 c1 s1) (x := m_X11_thrown) (as := [.ref 148]) (rest := []) rfl rfl rfl rfl ?_
  show dd_Rn (e + 15) m_X11_thrown (0, [.ref 148], [], sM Ln I2 L2 c1 s1) _
  refine dd_Rn.retK 2 (pc := 4) (ls := [.ref 148]) (st := [.int (I2 148 0)]) (M := sM Ln I2 L2 c1 s1) (o := (none, .int (I2 148 0), sM Ln I2 L2 c1 s1)) rfl rfl (dd_Af.ret rfl ?_) (by omega)
  show dd_Rn (e + 16) m_L_law_ (1023, [.ref 3000000, .ref 0, .ref 148, .ref 163, .int a4, .int x1, .int x2], [.int (I2 148 0)], sM Ln I2 L2 c1 s1) _
  refine dd_Rn.ite 1 (c := I2 148 0 = x1) (A := (1030, [.ref 3000000, .ref 0, .ref 148, .ref 163, .int a4, .int x1, .int x2], [], sM Ln I2 L2 c1 s1)) (B := (1028, [.ref 3000000, .ref 0, .ref 148, .ref 163, .int a4, .int x1, .int x2], [], sM Ln I2 L2 c1 s1)) rfl (fun hc => ?_) (fun hc => ?_) (by omega)
  · have h := h.1 hc
    refine dd_Rn.ite 1 (c := x1 = 0) (A := (1035, [.ref 3000000, .ref 0, .ref 148, .ref 163, .int a4, .int x1, .int x2], [], sM Ln I2 L2 c1 s1)) (B := (1047, [.ref 3000000, .ref 0, .ref 148, .ref 163, .int a4, .int x1, .int x2], [], sM Ln I2 L2 c1 s1)) rfl (fun hc => ?_) (fun hc => ?_) (by omega)
    · have h := h.1 hc
      refine dd_Rn.ite 6 (c := lg_cmp (L2 163 0) x2.toInt64 = 0) (A := (1047, [.ref 3000000, .ref 0, .ref 148, .ref 163, .int a4, .int x1, .int x2], [], sM Ln I2 L2 c1 s1)) (B := (1045, [.ref 3000000, .ref 0, .ref 148, .ref 163, .int a4, .int x1, .int x2], [], sM Ln I2 L2 c1 s1)) rfl (fun hc => ?_) (fun hc => ?_) (by omega)
      · have h := h.1 hc
        exact dd_Rn.go 0 (cf' := (1047, [.ref 3000000, .ref 0, .ref 148, .ref 163, .int a4, .int x1, .int x2], [], sM Ln I2 L2 c1 s1)) rfl h (by omega)
      · have h := h.2 hc
        exact dd_Rn.retK 1 (pc := 1046) (ls := [.ref 3000000, .ref 0, .ref 148, .ref 163, .int a4, .int x1, .int x2]) (st := [.int 0]) (M := sM Ln I2 L2 c1 s1) (o := (none, .int 0, sM Ln I2 L2 c1 s1)) rfl rfl h (by omega)
    · have h := h.2 hc
      exact dd_Rn.go 0 (cf' := (1047, [.ref 3000000, .ref 0, .ref 148, .ref 163, .int a4, .int x1, .int x2], [], sM Ln I2 L2 c1 s1)) rfl h (by omega)
  · have h := h.2 hc
    exact dd_Rn.retK 1 (pc := 1029) (ls := [.ref 3000000, .ref 0, .ref 148, .ref 163, .int a4, .int x1, .int x2]) (st := [.int 0]) (M := sM Ln I2 L2 c1 s1) (o := (none, .int 0, sM Ln I2 L2 c1 s1)) rfl rfl h (by omega)

theorem w_L_law__1047 {Ln d c s : Nat} {I : Nat → Nat → Int32} {L : Nat → Nat → Int64} {Q : dd_O → Prop} {a4 a5 a6 : Int32} (hd : 28 ≤ d) (h : dd_Rn d m_L_law_ (3009, [.ref 3000000, .ref 0, .ref 148, .ref 163, .int a4, .int a5, .int a6], [], sM Ln I L c s) Q) : dd_Rn d m_L_law_ (1047, [.ref 3000000, .ref 0, .ref 148, .ref 163, .int a4, .int a5, .int a6], [], sM Ln I L c s) Q := by
  obtain ⟨e, rfl⟩ : ∃ e, d = e + 16 := ⟨d - 16, by omega⟩
  exact dd_Rn.go 1 (cf' := (3009, [.ref 3000000, .ref 0, .ref 148, .ref 163, .int a4, .int a5, .int a6], [], sM Ln I L c s)) rfl h (by omega)

theorem w_L_law__1050 {Ln d c s : Nat} {I : Nat → Nat → Int32} {L : Nat → Nat → Int64} {Q : dd_O → Prop} {a4 : Int32} {a5 a6 : Value} (hd : 28 ≤ d) (h : ((0 ≤ a4 + 1 ∧ tn (a4 + 1) < Ln) ∧ dd_Ev (d - 1) m_L_call [.ref 0, .int (I 3000000 (tn (a4 + 1))), .ref 163] (sM Ln I L c s) (dd_RJ Ln c s (fun x1 I1 L1 c1 s1 => ((0 ≤ a4 + 1 ∧ tn (a4 + 1) < Ln) ∧ dd_Ev (d - 1) m_X11_call [.ref 148, .int (I1 3000000 (tn (a4 + 1)))] (sM Ln I1 L1 c1 s1) (dd_RI Ln c1 s1 (fun x2 I2 L2 => ((I2 148 0 = x1 → ((x1 = 0 → ((lg_cmp (L2 163 0) x2.toInt64 = 0 → dd_Rn d m_L_law_ (1103, [.ref 3000000, .ref 0, .ref 148, .ref 163, .int a4, .int x1, .int x2], [], sM Ln I2 L2 c1 s1) Q) ∧ (¬ (lg_cmp (L2 163 0) x2.toInt64 = 0) → Q (none, .int 0, sM Ln I2 L2 c1 s1)))) ∧ (¬ (x1 = 0) → dd_Rn d m_L_law_ (1103, [.ref 3000000, .ref 0, .ref 148, .ref 163, .int a4, .int x1, .int x2], [], sM Ln I2 L2 c1 s1) Q))) ∧ (¬ (I2 148 0 = x1) → Q (none, .int 0, sM Ln I2 L2 c1 s1)))))))))) : dd_Rn d m_L_law_ (1050, [.ref 3000000, .ref 0, .ref 148, .ref 163, .int a4, a5, a6], [], sM Ln I L c s) Q := by
  obtain ⟨e, rfl⟩ : ∃ e, d = e + 16 := ⟨d - 16, by omega⟩
  obtain ⟨hc, h⟩ := h
  refine dd_Rn.go 5 (cf' := (1056, [.ref 3000000, .ref 0, .ref 148, .ref 163, .int a4, a5, a6], [.int (a4 + 1), .ref 3000000, .ref 0], sM Ln I L c s)) rfl ?_ (by omega)
  refine dd_Rn.ci (fun j0 => (1056, [.ref 3000000, .ref 0, .ref 148, .ref 163, .int a4, a5, a6], [.int j0, .ref 3000000, .ref 0], sM Ln I L c s)) (fun j0 => (1057, [.ref 3000000, .ref 0, .ref 148, .ref 163, .int a4, a5, a6], [.int (I 3000000 (tn j0)), .ref 0], sM Ln I L c s)) (fun j0 => 0 ≤ j0 ∧ tn j0 < Ln) (a4 + 1) (fun j0 hc h => dd_Rn.chk 0 (c := 0 ≤ j0 ∧ tn j0 < Ln) (A := (1057, [.ref 3000000, .ref 0, .ref 148, .ref 163, .int a4, a5, a6], [.int (I 3000000 (tn j0)), .ref 0], sM Ln I L c s)) rfl hc h (by omega)) hc ?_
  refine dd_Rn.se (cf := (1057, [.ref 3000000, .ref 0, .ref 148, .ref 163, .int a4, a5, a6], [.int (I 3000000 (tn (a4 + 1))), .ref 0], sM Ln I L c s)) ?_
  refine dd_Rn.cJ 1 (pc := 1058) (ls := [.ref 3000000, .ref 0, .ref 148, .ref 163, .int a4, a5, a6]) (st := [.ref 163, .int (I 3000000 (tn (a4 + 1))), .ref 0]) (x := m_L_call) (as := [.ref 0, .int (I 3000000 (tn (a4 + 1))), .ref 163]) (rest := []) rfl rfl rfl rfl h ?_
  intro x1 I1 L1 c1 s1 h
  show dd_Rn (e + 16) m_L_law_ (1061, [.ref 3000000, .ref 0, .ref 148, .ref 163, .int a4, a5, a6], [.int x1], sM Ln I1 L1 c1 s1) _
  obtain ⟨hc, h⟩ := h
  refine dd_Rn.go 6 (cf' := (1069, [.ref 3000000, .ref 0, .ref 148, .ref 163, .int a4, .int x1, a6], [.int (a4 + 1), .ref 3000000, .ref 148], sM Ln I1 L1 c1 s1)) rfl ?_ (by omega)
  refine dd_Rn.ci (fun j0 => (1069, [.ref 3000000, .ref 0, .ref 148, .ref 163, .int a4, .int x1, a6], [.int j0, .ref 3000000, .ref 148], sM Ln I1 L1 c1 s1)) (fun j0 => (1070, [.ref 3000000, .ref 0, .ref 148, .ref 163, .int a4, .int x1, a6], [.int (I1 3000000 (tn j0)), .ref 148], sM Ln I1 L1 c1 s1)) (fun j0 => 0 ≤ j0 ∧ tn j0 < Ln) (a4 + 1) (fun j0 hc h => dd_Rn.chk 0 (c := 0 ≤ j0 ∧ tn j0 < Ln) (A := (1070, [.ref 3000000, .ref 0, .ref 148, .ref 163, .int a4, .int x1, a6], [.int (I1 3000000 (tn j0)), .ref 148], sM Ln I1 L1 c1 s1)) rfl hc h (by omega)) hc ?_
  refine dd_Rn.se (cf := (1070, [.ref 3000000, .ref 0, .ref 148, .ref 163, .int a4, .int x1, a6], [.int (I1 3000000 (tn (a4 + 1))), .ref 148], sM Ln I1 L1 c1 s1)) ?_
  refine dd_Rn.cI 0 (pc := 1070) (ls := [.ref 3000000, .ref 0, .ref 148, .ref 163, .int a4, .int x1, a6]) (st := [.int (I1 3000000 (tn (a4 + 1))), .ref 148]) (x := m_X11_call) (as := [.ref 148, .int (I1 3000000 (tn (a4 + 1)))]) (rest := []) rfl rfl rfl rfl h ?_
  intro x2 I2 L2 h
  show dd_Rn (e + 16) m_L_law_ (1073, [.ref 3000000, .ref 0, .ref 148, .ref 163, .int a4, .int x1, a6], [.int x2], sM Ln I2 L2 c1 s1) _
  refine dd_Rn.sub 2 (pc := 1076) (ls := [.ref 3000000, .ref 0, .ref 148, .ref 163, .int a4, .int x1, .int x2]) (st := [.ref 148]) (M := sM Ln I2 L2 c1 s1) (x := m_X11_thrown) (as := [.ref 148]) (rest := []) rfl rfl rfl rfl ?_
  show dd_Rn (e + 15) m_X11_thrown (0, [.ref 148], [], sM Ln I2 L2 c1 s1) _
  refine dd_Rn.retK 2 (pc := 4) (ls := [.ref 148]) (st := [.int (I2 148 0)]) (M := sM Ln I2 L2 c1 s1) (o := (none, .int (I2 148 0), sM Ln I2 L2 c1 s1)) rfl rfl (dd_Af.ret rfl ?_) (by omega)
  show dd_Rn (e + 16) m_L_law_ (1079, [.ref 3000000, .ref 0, .ref 148, .ref 163, .int a4, .int x1, .int x2], [.int (I2 148 0)], sM Ln I2 L2 c1 s1) _
  refine dd_Rn.ite 1 (c := I2 148 0 = x1) (A := (1086, [.ref 3000000, .ref 0, .ref 148, .ref 163, .int a4, .int x1, .int x2], [], sM Ln I2 L2 c1 s1)) (B := (1084, [.ref 3000000, .ref 0, .ref 148, .ref 163, .int a4, .int x1, .int x2], [], sM Ln I2 L2 c1 s1)) rfl (fun hc => ?_) (fun hc => ?_) (by omega)
  · have h := h.1 hc
    refine dd_Rn.ite 1 (c := x1 = 0) (A := (1091, [.ref 3000000, .ref 0, .ref 148, .ref 163, .int a4, .int x1, .int x2], [], sM Ln I2 L2 c1 s1)) (B := (1103, [.ref 3000000, .ref 0, .ref 148, .ref 163, .int a4, .int x1, .int x2], [], sM Ln I2 L2 c1 s1)) rfl (fun hc => ?_) (fun hc => ?_) (by omega)
    · have h := h.1 hc
      refine dd_Rn.ite 6 (c := lg_cmp (L2 163 0) x2.toInt64 = 0) (A := (1103, [.ref 3000000, .ref 0, .ref 148, .ref 163, .int a4, .int x1, .int x2], [], sM Ln I2 L2 c1 s1)) (B := (1101, [.ref 3000000, .ref 0, .ref 148, .ref 163, .int a4, .int x1, .int x2], [], sM Ln I2 L2 c1 s1)) rfl (fun hc => ?_) (fun hc => ?_) (by omega)
      · have h := h.1 hc
        exact dd_Rn.go 0 (cf' := (1103, [.ref 3000000, .ref 0, .ref 148, .ref 163, .int a4, .int x1, .int x2], [], sM Ln I2 L2 c1 s1)) rfl h (by omega)
      · have h := h.2 hc
        exact dd_Rn.retK 1 (pc := 1102) (ls := [.ref 3000000, .ref 0, .ref 148, .ref 163, .int a4, .int x1, .int x2]) (st := [.int 0]) (M := sM Ln I2 L2 c1 s1) (o := (none, .int 0, sM Ln I2 L2 c1 s1)) rfl rfl h (by omega)
    · have h := h.2 hc
      exact dd_Rn.go 0 (cf' := (1103, [.ref 3000000, .ref 0, .ref 148, .ref 163, .int a4, .int x1, .int x2], [], sM Ln I2 L2 c1 s1)) rfl h (by omega)
  · have h := h.2 hc
    exact dd_Rn.retK 1 (pc := 1085) (ls := [.ref 3000000, .ref 0, .ref 148, .ref 163, .int a4, .int x1, .int x2]) (st := [.int 0]) (M := sM Ln I2 L2 c1 s1) (o := (none, .int 0, sM Ln I2 L2 c1 s1)) rfl rfl h (by omega)

theorem w_L_law__1103 {Ln d c s : Nat} {I : Nat → Nat → Int32} {L : Nat → Nat → Int64} {Q : dd_O → Prop} {a4 a5 a6 : Int32} (hd : 28 ≤ d) (h : dd_Rn d m_L_law_ (3009, [.ref 3000000, .ref 0, .ref 148, .ref 163, .int a4, .int a5, .int a6], [], sM Ln I L c s) Q) : dd_Rn d m_L_law_ (1103, [.ref 3000000, .ref 0, .ref 148, .ref 163, .int a4, .int a5, .int a6], [], sM Ln I L c s) Q := by
  obtain ⟨e, rfl⟩ : ∃ e, d = e + 16 := ⟨d - 16, by omega⟩
  exact dd_Rn.go 1 (cf' := (3009, [.ref 3000000, .ref 0, .ref 148, .ref 163, .int a4, .int a5, .int a6], [], sM Ln I L c s)) rfl h (by omega)

theorem w_L_law__1106 {Ln d c s : Nat} {I : Nat → Nat → Int32} {L : Nat → Nat → Int64} {Q : dd_O → Prop} {a4 : Int32} {a5 a6 : Value} (hd : 28 ≤ d) (h : ((0 ≤ a4 + 1 ∧ tn (a4 + 1) < Ln) ∧ ((0 ≤ a4 + 2 ∧ tn (a4 + 2) < Ln) ∧ dd_Ev (d - 1) m_L_send [.ref 0, .int (I 3000000 (tn (a4 + 1))), .int (I 3000000 (tn (a4 + 2))), .ref 163] (sM Ln I L c s) (dd_RJ Ln c s (fun x1 I1 L1 c1 s1 => ((0 ≤ a4 + 1 ∧ tn (a4 + 1) < Ln) ∧ ((0 ≤ a4 + 2 ∧ tn (a4 + 2) < Ln) ∧ dd_Ev (d - 1) m_X11_send [.ref 148, .int (I1 3000000 (tn (a4 + 1))), .int (I1 3000000 (tn (a4 + 2)))] (sM Ln I1 L1 c1 s1) (dd_RI Ln c1 s1 (fun x2 I2 L2 => ((I2 148 0 = x1 → ((x1 = 0 → ((lg_cmp (L2 163 0) x2.toInt64 = 0 → dd_Rn d m_L_law_ (1171, [.ref 3000000, .ref 0, .ref 148, .ref 163, .int a4, .int x1, .int x2], [], sM Ln I2 L2 c1 s1) Q) ∧ (¬ (lg_cmp (L2 163 0) x2.toInt64 = 0) → Q (none, .int 0, sM Ln I2 L2 c1 s1)))) ∧ (¬ (x1 = 0) → dd_Rn d m_L_law_ (1171, [.ref 3000000, .ref 0, .ref 148, .ref 163, .int a4, .int x1, .int x2], [], sM Ln I2 L2 c1 s1) Q))) ∧ (¬ (I2 148 0 = x1) → Q (none, .int 0, sM Ln I2 L2 c1 s1)))))))))))) : dd_Rn d m_L_law_ (1106, [.ref 3000000, .ref 0, .ref 148, .ref 163, .int a4, a5, a6], [], sM Ln I L c s) Q := by
  obtain ⟨e, rfl⟩ : ∃ e, d = e + 16 := ⟨d - 16, by omega⟩
  obtain ⟨hc, h⟩ := h
  refine dd_Rn.go 5 (cf' := (1112, [.ref 3000000, .ref 0, .ref 148, .ref 163, .int a4, a5, a6], [.int (a4 + 1), .ref 3000000, .ref 0], sM Ln I L c s)) rfl ?_ (by omega)
  refine dd_Rn.ci (fun j0 => (1112, [.ref 3000000, .ref 0, .ref 148, .ref 163, .int a4, a5, a6], [.int j0, .ref 3000000, .ref 0], sM Ln I L c s)) (fun j0 => (1113, [.ref 3000000, .ref 0, .ref 148, .ref 163, .int a4, a5, a6], [.int (I 3000000 (tn j0)), .ref 0], sM Ln I L c s)) (fun j0 => 0 ≤ j0 ∧ tn j0 < Ln) (a4 + 1) (fun j0 hc h => dd_Rn.chk 0 (c := 0 ≤ j0 ∧ tn j0 < Ln) (A := (1113, [.ref 3000000, .ref 0, .ref 148, .ref 163, .int a4, a5, a6], [.int (I 3000000 (tn j0)), .ref 0], sM Ln I L c s)) rfl hc h (by omega)) hc ?_
  refine dd_Rn.se (cf := (1113, [.ref 3000000, .ref 0, .ref 148, .ref 163, .int a4, a5, a6], [.int (I 3000000 (tn (a4 + 1))), .ref 0], sM Ln I L c s)) ?_
  obtain ⟨hc, h⟩ := h
  refine dd_Rn.go 4 (cf' := (1118, [.ref 3000000, .ref 0, .ref 148, .ref 163, .int a4, a5, a6], [.int (a4 + 2), .ref 3000000, .int (I 3000000 (tn (a4 + 1))), .ref 0], sM Ln I L c s)) rfl ?_ (by omega)
  refine dd_Rn.ci (fun j0 => (1118, [.ref 3000000, .ref 0, .ref 148, .ref 163, .int a4, a5, a6], [.int j0, .ref 3000000, .int (I 3000000 (tn (a4 + 1))), .ref 0], sM Ln I L c s)) (fun j0 => (1119, [.ref 3000000, .ref 0, .ref 148, .ref 163, .int a4, a5, a6], [.int (I 3000000 (tn j0)), .int (I 3000000 (tn (a4 + 1))), .ref 0], sM Ln I L c s)) (fun j0 => 0 ≤ j0 ∧ tn j0 < Ln) (a4 + 2) (fun j0 hc h => dd_Rn.chk 0 (c := 0 ≤ j0 ∧ tn j0 < Ln) (A := (1119, [.ref 3000000, .ref 0, .ref 148, .ref 163, .int a4, a5, a6], [.int (I 3000000 (tn j0)), .int (I 3000000 (tn (a4 + 1))), .ref 0], sM Ln I L c s)) rfl hc h (by omega)) hc ?_
  refine dd_Rn.se (cf := (1119, [.ref 3000000, .ref 0, .ref 148, .ref 163, .int a4, a5, a6], [.int (I 3000000 (tn (a4 + 2))), .int (I 3000000 (tn (a4 + 1))), .ref 0], sM Ln I L c s)) ?_
  refine dd_Rn.cJ 1 (pc := 1120) (ls := [.ref 3000000, .ref 0, .ref 148, .ref 163, .int a4, a5, a6]) (st := [.ref 163, .int (I 3000000 (tn (a4 + 2))), .int (I 3000000 (tn (a4 + 1))), .ref 0]) (x := m_L_send) (as := [.ref 0, .int (I 3000000 (tn (a4 + 1))), .int (I 3000000 (tn (a4 + 2))), .ref 163]) (rest := []) rfl rfl rfl rfl h ?_
  intro x1 I1 L1 c1 s1 h
  show dd_Rn (e + 16) m_L_law_ (1123, [.ref 3000000, .ref 0, .ref 148, .ref 163, .int a4, a5, a6], [.int x1], sM Ln I1 L1 c1 s1) _
  obtain ⟨hc, h⟩ := h
  refine dd_Rn.go 6 (cf' := (1131, [.ref 3000000, .ref 0, .ref 148, .ref 163, .int a4, .int x1, a6], [.int (a4 + 1), .ref 3000000, .ref 148], sM Ln I1 L1 c1 s1)) rfl ?_ (by omega)
  refine dd_Rn.ci (fun j0 => (1131, [.ref 3000000, .ref 0, .ref 148, .ref 163, .int a4, .int x1, a6], [.int j0, .ref 3000000, .ref 148], sM Ln I1 L1 c1 s1)) (fun j0 => (1132, [.ref 3000000, .ref 0, .ref 148, .ref 163, .int a4, .int x1, a6], [.int (I1 3000000 (tn j0)), .ref 148], sM Ln I1 L1 c1 s1)) (fun j0 => 0 ≤ j0 ∧ tn j0 < Ln) (a4 + 1) (fun j0 hc h => dd_Rn.chk 0 (c := 0 ≤ j0 ∧ tn j0 < Ln) (A := (1132, [.ref 3000000, .ref 0, .ref 148, .ref 163, .int a4, .int x1, a6], [.int (I1 3000000 (tn j0)), .ref 148], sM Ln I1 L1 c1 s1)) rfl hc h (by omega)) hc ?_
  refine dd_Rn.se (cf := (1132, [.ref 3000000, .ref 0, .ref 148, .ref 163, .int a4, .int x1, a6], [.int (I1 3000000 (tn (a4 + 1))), .ref 148], sM Ln I1 L1 c1 s1)) ?_
  obtain ⟨hc, h⟩ := h
  refine dd_Rn.go 4 (cf' := (1137, [.ref 3000000, .ref 0, .ref 148, .ref 163, .int a4, .int x1, a6], [.int (a4 + 2), .ref 3000000, .int (I1 3000000 (tn (a4 + 1))), .ref 148], sM Ln I1 L1 c1 s1)) rfl ?_ (by omega)
  refine dd_Rn.ci (fun j0 => (1137, [.ref 3000000, .ref 0, .ref 148, .ref 163, .int a4, .int x1, a6], [.int j0, .ref 3000000, .int (I1 3000000 (tn (a4 + 1))), .ref 148], sM Ln I1 L1 c1 s1)) (fun j0 => (1138, [.ref 3000000, .ref 0, .ref 148, .ref 163, .int a4, .int x1, a6], [.int (I1 3000000 (tn j0)), .int (I1 3000000 (tn (a4 + 1))), .ref 148], sM Ln I1 L1 c1 s1)) (fun j0 => 0 ≤ j0 ∧ tn j0 < Ln) (a4 + 2) (fun j0 hc h => dd_Rn.chk 0 (c := 0 ≤ j0 ∧ tn j0 < Ln) (A := (1138, [.ref 3000000, .ref 0, .ref 148, .ref 163, .int a4, .int x1, a6], [.int (I1 3000000 (tn j0)), .int (I1 3000000 (tn (a4 + 1))), .ref 148], sM Ln I1 L1 c1 s1)) rfl hc h (by omega)) hc ?_
  refine dd_Rn.se (cf := (1138, [.ref 3000000, .ref 0, .ref 148, .ref 163, .int a4, .int x1, a6], [.int (I1 3000000 (tn (a4 + 2))), .int (I1 3000000 (tn (a4 + 1))), .ref 148], sM Ln I1 L1 c1 s1)) ?_
  refine dd_Rn.cI 0 (pc := 1138) (ls := [.ref 3000000, .ref 0, .ref 148, .ref 163, .int a4, .int x1, a6]) (st := [.int (I1 3000000 (tn (a4 + 2))), .int (I1 3000000 (tn (a4 + 1))), .ref 148]) (x := m_X11_send) (as := [.ref 148, .int (I1 3000000 (tn (a4 + 1))), .int (I1 3000000 (tn (a4 + 2)))]) (rest := []) rfl rfl rfl rfl h ?_
  intro x2 I2 L2 h
  show dd_Rn (e + 16) m_L_law_ (1141, [.ref 3000000, .ref 0, .ref 148, .ref 163, .int a4, .int x1, a6], [.int x2], sM Ln I2 L2 c1 s1) _
  refine dd_Rn.sub 2 (pc := 1144) (ls := [.ref 3000000, .ref 0, .ref 148, .ref 163, .int a4, .int x1, .int x2]) (st := [.ref 148]) (M := sM Ln I2 L2 c1 s1) (x := m_X11_thrown) (as := [.ref 148]) (rest := []) rfl rfl rfl rfl ?_
  show dd_Rn (e + 15) m_X11_thrown (0, [.ref 148], [], sM Ln I2 L2 c1 s1) _
  refine dd_Rn.retK 2 (pc := 4) (ls := [.ref 148]) (st := [.int (I2 148 0)]) (M := sM Ln I2 L2 c1 s1) (o := (none, .int (I2 148 0), sM Ln I2 L2 c1 s1)) rfl rfl (dd_Af.ret rfl ?_) (by omega)
  show dd_Rn (e + 16) m_L_law_ (1147, [.ref 3000000, .ref 0, .ref 148, .ref 163, .int a4, .int x1, .int x2], [.int (I2 148 0)], sM Ln I2 L2 c1 s1) _
  refine dd_Rn.ite 1 (c := I2 148 0 = x1) (A := (1154, [.ref 3000000, .ref 0, .ref 148, .ref 163, .int a4, .int x1, .int x2], [], sM Ln I2 L2 c1 s1)) (B := (1152, [.ref 3000000, .ref 0, .ref 148, .ref 163, .int a4, .int x1, .int x2], [], sM Ln I2 L2 c1 s1)) rfl (fun hc => ?_) (fun hc => ?_) (by omega)
  · have h := h.1 hc
    refine dd_Rn.ite 1 (c := x1 = 0) (A := (1159, [.ref 3000000, .ref 0, .ref 148, .ref 163, .int a4, .int x1, .int x2], [], sM Ln I2 L2 c1 s1)) (B := (1171, [.ref 3000000, .ref 0, .ref 148, .ref 163, .int a4, .int x1, .int x2], [], sM Ln I2 L2 c1 s1)) rfl (fun hc => ?_) (fun hc => ?_) (by omega)
    · have h := h.1 hc
      refine dd_Rn.ite 6 (c := lg_cmp (L2 163 0) x2.toInt64 = 0) (A := (1171, [.ref 3000000, .ref 0, .ref 148, .ref 163, .int a4, .int x1, .int x2], [], sM Ln I2 L2 c1 s1)) (B := (1169, [.ref 3000000, .ref 0, .ref 148, .ref 163, .int a4, .int x1, .int x2], [], sM Ln I2 L2 c1 s1)) rfl (fun hc => ?_) (fun hc => ?_) (by omega)
      · have h := h.1 hc
        exact dd_Rn.go 0 (cf' := (1171, [.ref 3000000, .ref 0, .ref 148, .ref 163, .int a4, .int x1, .int x2], [], sM Ln I2 L2 c1 s1)) rfl h (by omega)
      · have h := h.2 hc
        exact dd_Rn.retK 1 (pc := 1170) (ls := [.ref 3000000, .ref 0, .ref 148, .ref 163, .int a4, .int x1, .int x2]) (st := [.int 0]) (M := sM Ln I2 L2 c1 s1) (o := (none, .int 0, sM Ln I2 L2 c1 s1)) rfl rfl h (by omega)
    · have h := h.2 hc
      exact dd_Rn.go 0 (cf' := (1171, [.ref 3000000, .ref 0, .ref 148, .ref 163, .int a4, .int x1, .int x2], [], sM Ln I2 L2 c1 s1)) rfl h (by omega)
  · have h := h.2 hc
    exact dd_Rn.retK 1 (pc := 1153) (ls := [.ref 3000000, .ref 0, .ref 148, .ref 163, .int a4, .int x1, .int x2]) (st := [.int 0]) (M := sM Ln I2 L2 c1 s1) (o := (none, .int 0, sM Ln I2 L2 c1 s1)) rfl rfl h (by omega)

theorem w_L_law__1171 {Ln d c s : Nat} {I : Nat → Nat → Int32} {L : Nat → Nat → Int64} {Q : dd_O → Prop} {a4 a5 a6 : Int32} (hd : 28 ≤ d) (h : dd_Rn d m_L_law_ (3009, [.ref 3000000, .ref 0, .ref 148, .ref 163, .int a4, .int a5, .int a6], [], sM Ln I L c s) Q) : dd_Rn d m_L_law_ (1171, [.ref 3000000, .ref 0, .ref 148, .ref 163, .int a4, .int a5, .int a6], [], sM Ln I L c s) Q := by
  obtain ⟨e, rfl⟩ : ∃ e, d = e + 16 := ⟨d - 16, by omega⟩
  exact dd_Rn.go 1 (cf' := (3009, [.ref 3000000, .ref 0, .ref 148, .ref 163, .int a4, .int a5, .int a6], [], sM Ln I L c s)) rfl h (by omega)

theorem w_L_law__1174 {Ln d c s : Nat} {I : Nat → Nat → Int32} {L : Nat → Nat → Int64} {Q : dd_O → Prop} {a4 : Int32} {a5 a6 : Value} (hd : 28 ≤ d) (h : ((0 ≤ a4 + 1 ∧ tn (a4 + 1) < Ln) ∧ dd_Ev (d - 1) m_L_loud [.ref 0, .int (I 3000000 (tn (a4 + 1))), .ref 163] (sM Ln I L c s) (dd_RJ Ln c s (fun x1 I1 L1 c1 s1 => ((0 ≤ a4 + 1 ∧ tn (a4 + 1) < Ln) ∧ dd_Ev (d - 1) m_X11_loud [.ref 148, .int (I1 3000000 (tn (a4 + 1)))] (sM Ln I1 L1 c1 s1) (dd_RI Ln c1 s1 (fun x2 I2 L2 => ((I2 148 0 = x1 → ((x1 = 0 → ((lg_cmp (L2 163 0) x2.toInt64 = 0 → dd_Rn d m_L_law_ (1227, [.ref 3000000, .ref 0, .ref 148, .ref 163, .int a4, .int x1, .int x2], [], sM Ln I2 L2 c1 s1) Q) ∧ (¬ (lg_cmp (L2 163 0) x2.toInt64 = 0) → Q (none, .int 0, sM Ln I2 L2 c1 s1)))) ∧ (¬ (x1 = 0) → dd_Rn d m_L_law_ (1227, [.ref 3000000, .ref 0, .ref 148, .ref 163, .int a4, .int x1, .int x2], [], sM Ln I2 L2 c1 s1) Q))) ∧ (¬ (I2 148 0 = x1) → Q (none, .int 0, sM Ln I2 L2 c1 s1)))))))))) : dd_Rn d m_L_law_ (1174, [.ref 3000000, .ref 0, .ref 148, .ref 163, .int a4, a5, a6], [], sM Ln I L c s) Q := by
  obtain ⟨e, rfl⟩ : ∃ e, d = e + 16 := ⟨d - 16, by omega⟩
  obtain ⟨hc, h⟩ := h
  refine dd_Rn.go 5 (cf' := (1180, [.ref 3000000, .ref 0, .ref 148, .ref 163, .int a4, a5, a6], [.int (a4 + 1), .ref 3000000, .ref 0], sM Ln I L c s)) rfl ?_ (by omega)
  refine dd_Rn.ci (fun j0 => (1180, [.ref 3000000, .ref 0, .ref 148, .ref 163, .int a4, a5, a6], [.int j0, .ref 3000000, .ref 0], sM Ln I L c s)) (fun j0 => (1181, [.ref 3000000, .ref 0, .ref 148, .ref 163, .int a4, a5, a6], [.int (I 3000000 (tn j0)), .ref 0], sM Ln I L c s)) (fun j0 => 0 ≤ j0 ∧ tn j0 < Ln) (a4 + 1) (fun j0 hc h => dd_Rn.chk 0 (c := 0 ≤ j0 ∧ tn j0 < Ln) (A := (1181, [.ref 3000000, .ref 0, .ref 148, .ref 163, .int a4, a5, a6], [.int (I 3000000 (tn j0)), .ref 0], sM Ln I L c s)) rfl hc h (by omega)) hc ?_
  refine dd_Rn.se (cf := (1181, [.ref 3000000, .ref 0, .ref 148, .ref 163, .int a4, a5, a6], [.int (I 3000000 (tn (a4 + 1))), .ref 0], sM Ln I L c s)) ?_
  refine dd_Rn.cJ 1 (pc := 1182) (ls := [.ref 3000000, .ref 0, .ref 148, .ref 163, .int a4, a5, a6]) (st := [.ref 163, .int (I 3000000 (tn (a4 + 1))), .ref 0]) (x := m_L_loud) (as := [.ref 0, .int (I 3000000 (tn (a4 + 1))), .ref 163]) (rest := []) rfl rfl rfl rfl h ?_
  intro x1 I1 L1 c1 s1 h
  show dd_Rn (e + 16) m_L_law_ (1185, [.ref 3000000, .ref 0, .ref 148, .ref 163, .int a4, a5, a6], [.int x1], sM Ln I1 L1 c1 s1) _
  obtain ⟨hc, h⟩ := h
  refine dd_Rn.go 6 (cf' := (1193, [.ref 3000000, .ref 0, .ref 148, .ref 163, .int a4, .int x1, a6], [.int (a4 + 1), .ref 3000000, .ref 148], sM Ln I1 L1 c1 s1)) rfl ?_ (by omega)
  refine dd_Rn.ci (fun j0 => (1193, [.ref 3000000, .ref 0, .ref 148, .ref 163, .int a4, .int x1, a6], [.int j0, .ref 3000000, .ref 148], sM Ln I1 L1 c1 s1)) (fun j0 => (1194, [.ref 3000000, .ref 0, .ref 148, .ref 163, .int a4, .int x1, a6], [.int (I1 3000000 (tn j0)), .ref 148], sM Ln I1 L1 c1 s1)) (fun j0 => 0 ≤ j0 ∧ tn j0 < Ln) (a4 + 1) (fun j0 hc h => dd_Rn.chk 0 (c := 0 ≤ j0 ∧ tn j0 < Ln) (A := (1194, [.ref 3000000, .ref 0, .ref 148, .ref 163, .int a4, .int x1, a6], [.int (I1 3000000 (tn j0)), .ref 148], sM Ln I1 L1 c1 s1)) rfl hc h (by omega)) hc ?_
  refine dd_Rn.se (cf := (1194, [.ref 3000000, .ref 0, .ref 148, .ref 163, .int a4, .int x1, a6], [.int (I1 3000000 (tn (a4 + 1))), .ref 148], sM Ln I1 L1 c1 s1)) ?_
  refine dd_Rn.cI 0 (pc := 1194) (ls := [.ref 3000000, .ref 0, .ref 148, .ref 163, .int a4, .int x1, a6]) (st := [.int (I1 3000000 (tn (a4 + 1))), .ref 148]) (x := m_X11_loud) (as := [.ref 148, .int (I1 3000000 (tn (a4 + 1)))]) (rest := []) rfl rfl rfl rfl h ?_
  intro x2 I2 L2 h
  show dd_Rn (e + 16) m_L_law_ (1197, [.ref 3000000, .ref 0, .ref 148, .ref 163, .int a4, .int x1, a6], [.int x2], sM Ln I2 L2 c1 s1) _
  refine dd_Rn.sub 2 (pc := 1200) (ls := [.ref 3000000, .ref 0, .ref 148, .ref 163, .int a4, .int x1, .int x2]) (st := [.ref 148]) (M := sM Ln I2 L2 c1 s1) (x := m_X11_thrown) (as := [.ref 148]) (rest := []) rfl rfl rfl rfl ?_
  show dd_Rn (e + 15) m_X11_thrown (0, [.ref 148], [], sM Ln I2 L2 c1 s1) _
  refine dd_Rn.retK 2 (pc := 4) (ls := [.ref 148]) (st := [.int (I2 148 0)]) (M := sM Ln I2 L2 c1 s1) (o := (none, .int (I2 148 0), sM Ln I2 L2 c1 s1)) rfl rfl (dd_Af.ret rfl ?_) (by omega)
  show dd_Rn (e + 16) m_L_law_ (1203, [.ref 3000000, .ref 0, .ref 148, .ref 163, .int a4, .int x1, .int x2], [.int (I2 148 0)], sM Ln I2 L2 c1 s1) _
  refine dd_Rn.ite 1 (c := I2 148 0 = x1) (A := (1210, [.ref 3000000, .ref 0, .ref 148, .ref 163, .int a4, .int x1, .int x2], [], sM Ln I2 L2 c1 s1)) (B := (1208, [.ref 3000000, .ref 0, .ref 148, .ref 163, .int a4, .int x1, .int x2], [], sM Ln I2 L2 c1 s1)) rfl (fun hc => ?_) (fun hc => ?_) (by omega)
  · have h := h.1 hc
    refine dd_Rn.ite 1 (c := x1 = 0) (A := (1215, [.ref 3000000, .ref 0, .ref 148, .ref 163, .int a4, .int x1, .int x2], [], sM Ln I2 L2 c1 s1)) (B := (1227, [.ref 3000000, .ref 0, .ref 148, .ref 163, .int a4, .int x1, .int x2], [], sM Ln I2 L2 c1 s1)) rfl (fun hc => ?_) (fun hc => ?_) (by omega)
    · have h := h.1 hc
      refine dd_Rn.ite 6 (c := lg_cmp (L2 163 0) x2.toInt64 = 0) (A := (1227, [.ref 3000000, .ref 0, .ref 148, .ref 163, .int a4, .int x1, .int x2], [], sM Ln I2 L2 c1 s1)) (B := (1225, [.ref 3000000, .ref 0, .ref 148, .ref 163, .int a4, .int x1, .int x2], [], sM Ln I2 L2 c1 s1)) rfl (fun hc => ?_) (fun hc => ?_) (by omega)
      · have h := h.1 hc
        exact dd_Rn.go 0 (cf' := (1227, [.ref 3000000, .ref 0, .ref 148, .ref 163, .int a4, .int x1, .int x2], [], sM Ln I2 L2 c1 s1)) rfl h (by omega)
      · have h := h.2 hc
        exact dd_Rn.retK 1 (pc := 1226) (ls := [.ref 3000000, .ref 0, .ref 148, .ref 163, .int a4, .int x1, .int x2]) (st := [.int 0]) (M := sM Ln I2 L2 c1 s1) (o := (none, .int 0, sM Ln I2 L2 c1 s1)) rfl rfl h (by omega)
    · have h := h.2 hc
      exact dd_Rn.go 0 (cf' := (1227, [.ref 3000000, .ref 0, .ref 148, .ref 163, .int a4, .int x1, .int x2], [], sM Ln I2 L2 c1 s1)) rfl h (by omega)
  · have h := h.2 hc
    exact dd_Rn.retK 1 (pc := 1209) (ls := [.ref 3000000, .ref 0, .ref 148, .ref 163, .int a4, .int x1, .int x2]) (st := [.int 0]) (M := sM Ln I2 L2 c1 s1) (o := (none, .int 0, sM Ln I2 L2 c1 s1)) rfl rfl h (by omega)

theorem w_L_law__1227 {Ln d c s : Nat} {I : Nat → Nat → Int32} {L : Nat → Nat → Int64} {Q : dd_O → Prop} {a4 a5 a6 : Int32} (hd : 28 ≤ d) (h : dd_Rn d m_L_law_ (3009, [.ref 3000000, .ref 0, .ref 148, .ref 163, .int a4, .int a5, .int a6], [], sM Ln I L c s) Q) : dd_Rn d m_L_law_ (1227, [.ref 3000000, .ref 0, .ref 148, .ref 163, .int a4, .int a5, .int a6], [], sM Ln I L c s) Q := by
  obtain ⟨e, rfl⟩ : ∃ e, d = e + 16 := ⟨d - 16, by omega⟩
  exact dd_Rn.go 1 (cf' := (3009, [.ref 3000000, .ref 0, .ref 148, .ref 163, .int a4, .int a5, .int a6], [], sM Ln I L c s)) rfl h (by omega)

theorem w_L_law__1230 {Ln d c s : Nat} {I : Nat → Nat → Int32} {L : Nat → Nat → Int64} {Q : dd_O → Prop} {a4 : Int32} {a5 a6 : Value} (hd : 28 ≤ d) (h : ((0 ≤ a4 + 1 ∧ tn (a4 + 1) < Ln) ∧ ((0 ≤ a4 + 2 ∧ tn (a4 + 2) < Ln) ∧ dd_Ev (d - 1) m_L_path [.ref 0, .int (I 3000000 (tn (a4 + 1))), .int (I 3000000 (tn (a4 + 2))), .ref 163] (sM Ln I L c s) (dd_RJ Ln c s (fun x1 I1 L1 c1 s1 => ((0 ≤ a4 + 1 ∧ tn (a4 + 1) < Ln) ∧ ((0 ≤ a4 + 2 ∧ tn (a4 + 2) < Ln) ∧ dd_Ev (d - 1) m_X11_path [.ref 148, .int (I1 3000000 (tn (a4 + 1))), .int (I1 3000000 (tn (a4 + 2)))] (sM Ln I1 L1 c1 s1) (dd_RI Ln c1 s1 (fun x2 I2 L2 => ((I2 148 0 = x1 → ((x1 = 0 → ((lg_cmp (L2 163 0) x2.toInt64 = 0 → dd_Rn d m_L_law_ (1295, [.ref 3000000, .ref 0, .ref 148, .ref 163, .int a4, .int x1, .int x2], [], sM Ln I2 L2 c1 s1) Q) ∧ (¬ (lg_cmp (L2 163 0) x2.toInt64 = 0) → Q (none, .int 0, sM Ln I2 L2 c1 s1)))) ∧ (¬ (x1 = 0) → dd_Rn d m_L_law_ (1295, [.ref 3000000, .ref 0, .ref 148, .ref 163, .int a4, .int x1, .int x2], [], sM Ln I2 L2 c1 s1) Q))) ∧ (¬ (I2 148 0 = x1) → Q (none, .int 0, sM Ln I2 L2 c1 s1)))))))))))) : dd_Rn d m_L_law_ (1230, [.ref 3000000, .ref 0, .ref 148, .ref 163, .int a4, a5, a6], [], sM Ln I L c s) Q := by
  obtain ⟨e, rfl⟩ : ∃ e, d = e + 16 := ⟨d - 16, by omega⟩
  obtain ⟨hc, h⟩ := h
  refine dd_Rn.go 5 (cf' := (1236, [.ref 3000000, .ref 0, .ref 148, .ref 163, .int a4, a5, a6], [.int (a4 + 1), .ref 3000000, .ref 0], sM Ln I L c s)) rfl ?_ (by omega)
  refine dd_Rn.ci (fun j0 => (1236, [.ref 3000000, .ref 0, .ref 148, .ref 163, .int a4, a5, a6], [.int j0, .ref 3000000, .ref 0], sM Ln I L c s)) (fun j0 => (1237, [.ref 3000000, .ref 0, .ref 148, .ref 163, .int a4, a5, a6], [.int (I 3000000 (tn j0)), .ref 0], sM Ln I L c s)) (fun j0 => 0 ≤ j0 ∧ tn j0 < Ln) (a4 + 1) (fun j0 hc h => dd_Rn.chk 0 (c := 0 ≤ j0 ∧ tn j0 < Ln) (A := (1237, [.ref 3000000, .ref 0, .ref 148, .ref 163, .int a4, a5, a6], [.int (I 3000000 (tn j0)), .ref 0], sM Ln I L c s)) rfl hc h (by omega)) hc ?_
  refine dd_Rn.se (cf := (1237, [.ref 3000000, .ref 0, .ref 148, .ref 163, .int a4, a5, a6], [.int (I 3000000 (tn (a4 + 1))), .ref 0], sM Ln I L c s)) ?_
  obtain ⟨hc, h⟩ := h
  refine dd_Rn.go 4 (cf' := (1242, [.ref 3000000, .ref 0, .ref 148, .ref 163, .int a4, a5, a6], [.int (a4 + 2), .ref 3000000, .int (I 3000000 (tn (a4 + 1))), .ref 0], sM Ln I L c s)) rfl ?_ (by omega)
  refine dd_Rn.ci (fun j0 => (1242, [.ref 3000000, .ref 0, .ref 148, .ref 163, .int a4, a5, a6], [.int j0, .ref 3000000, .int (I 3000000 (tn (a4 + 1))), .ref 0], sM Ln I L c s)) (fun j0 => (1243, [.ref 3000000, .ref 0, .ref 148, .ref 163, .int a4, a5, a6], [.int (I 3000000 (tn j0)), .int (I 3000000 (tn (a4 + 1))), .ref 0], sM Ln I L c s)) (fun j0 => 0 ≤ j0 ∧ tn j0 < Ln) (a4 + 2) (fun j0 hc h => dd_Rn.chk 0 (c := 0 ≤ j0 ∧ tn j0 < Ln) (A := (1243, [.ref 3000000, .ref 0, .ref 148, .ref 163, .int a4, a5, a6], [.int (I 3000000 (tn j0)), .int (I 3000000 (tn (a4 + 1))), .ref 0], sM Ln I L c s)) rfl hc h (by omega)) hc ?_
  refine dd_Rn.se (cf := (1243, [.ref 3000000, .ref 0, .ref 148, .ref 163, .int a4, a5, a6], [.int (I 3000000 (tn (a4 + 2))), .int (I 3000000 (tn (a4 + 1))), .ref 0], sM Ln I L c s)) ?_
  refine dd_Rn.cJ 1 (pc := 1244) (ls := [.ref 3000000, .ref 0, .ref 148, .ref 163, .int a4, a5, a6]) (st := [.ref 163, .int (I 3000000 (tn (a4 + 2))), .int (I 3000000 (tn (a4 + 1))), .ref 0]) (x := m_L_path) (as := [.ref 0, .int (I 3000000 (tn (a4 + 1))), .int (I 3000000 (tn (a4 + 2))), .ref 163]) (rest := []) rfl rfl rfl rfl h ?_
  intro x1 I1 L1 c1 s1 h
  show dd_Rn (e + 16) m_L_law_ (1247, [.ref 3000000, .ref 0, .ref 148, .ref 163, .int a4, a5, a6], [.int x1], sM Ln I1 L1 c1 s1) _
  obtain ⟨hc, h⟩ := h
  refine dd_Rn.go 6 (cf' := (1255, [.ref 3000000, .ref 0, .ref 148, .ref 163, .int a4, .int x1, a6], [.int (a4 + 1), .ref 3000000, .ref 148], sM Ln I1 L1 c1 s1)) rfl ?_ (by omega)
  refine dd_Rn.ci (fun j0 => (1255, [.ref 3000000, .ref 0, .ref 148, .ref 163, .int a4, .int x1, a6], [.int j0, .ref 3000000, .ref 148], sM Ln I1 L1 c1 s1)) (fun j0 => (1256, [.ref 3000000, .ref 0, .ref 148, .ref 163, .int a4, .int x1, a6], [.int (I1 3000000 (tn j0)), .ref 148], sM Ln I1 L1 c1 s1)) (fun j0 => 0 ≤ j0 ∧ tn j0 < Ln) (a4 + 1) (fun j0 hc h => dd_Rn.chk 0 (c := 0 ≤ j0 ∧ tn j0 < Ln) (A := (1256, [.ref 3000000, .ref 0, .ref 148, .ref 163, .int a4, .int x1, a6], [.int (I1 3000000 (tn j0)), .ref 148], sM Ln I1 L1 c1 s1)) rfl hc h (by omega)) hc ?_
  refine dd_Rn.se (cf := (1256, [.ref 3000000, .ref 0, .ref 148, .ref 163, .int a4, .int x1, a6], [.int (I1 3000000 (tn (a4 + 1))), .ref 148], sM Ln I1 L1 c1 s1)) ?_
  obtain ⟨hc, h⟩ := h
  refine dd_Rn.go 4 (cf' := (1261, [.ref 3000000, .ref 0, .ref 148, .ref 163, .int a4, .int x1, a6], [.int (a4 + 2), .ref 3000000, .int (I1 3000000 (tn (a4 + 1))), .ref 148], sM Ln I1 L1 c1 s1)) rfl ?_ (by omega)
  refine dd_Rn.ci (fun j0 => (1261, [.ref 3000000, .ref 0, .ref 148, .ref 163, .int a4, .int x1, a6], [.int j0, .ref 3000000, .int (I1 3000000 (tn (a4 + 1))), .ref 148], sM Ln I1 L1 c1 s1)) (fun j0 => (1262, [.ref 3000000, .ref 0, .ref 148, .ref 163, .int a4, .int x1, a6], [.int (I1 3000000 (tn j0)), .int (I1 3000000 (tn (a4 + 1))), .ref 148], sM Ln I1 L1 c1 s1)) (fun j0 => 0 ≤ j0 ∧ tn j0 < Ln) (a4 + 2) (fun j0 hc h => dd_Rn.chk 0 (c := 0 ≤ j0 ∧ tn j0 < Ln) (A := (1262, [.ref 3000000, .ref 0, .ref 148, .ref 163, .int a4, .int x1, a6], [.int (I1 3000000 (tn j0)), .int (I1 3000000 (tn (a4 + 1))), .ref 148], sM Ln I1 L1 c1 s1)) rfl hc h (by omega)) hc ?_
  refine dd_Rn.se (cf := (1262, [.ref 3000000, .ref 0, .ref 148, .ref 163, .int a4, .int x1, a6], [.int (I1 3000000 (tn (a4 + 2))), .int (I1 3000000 (tn (a4 + 1))), .ref 148], sM Ln I1 L1 c1 s1)) ?_
  refine dd_Rn.cI 0 (pc := 1262) (ls := [.ref 3000000, .ref 0, .ref 148, .ref 163, .int a4, .int x1, a6]) (st := [.int (I1 3000000 (tn (a4 + 2))), .int (I1 3000000 (tn (a4 + 1))), .ref 148]) (x := m_X11_path) (as := [.ref 148, .int (I1 3000000 (tn (a4 + 1))), .int (I1 3000000 (tn (a4 + 2)))]) (rest := []) rfl rfl rfl rfl h ?_
  intro x2 I2 L2 h
  show dd_Rn (e + 16) m_L_law_ (1265, [.ref 3000000, .ref 0, .ref 148, .ref 163, .int a4, .int x1, a6], [.int x2], sM Ln I2 L2 c1 s1) _
  refine dd_Rn.sub 2 (pc := 1268) (ls := [.ref 3000000, .ref 0, .ref 148, .ref 163, .int a4, .int x1, .int x2]) (st := [.ref 148]) (M := sM Ln I2 L2 c1 s1) (x := m_X11_thrown) (as := [.ref 148]) (rest := []) rfl rfl rfl rfl ?_
  show dd_Rn (e + 15) m_X11_thrown (0, [.ref 148], [], sM Ln I2 L2 c1 s1) _
  refine dd_Rn.retK 2 (pc := 4) (ls := [.ref 148]) (st := [.int (I2 148 0)]) (M := sM Ln I2 L2 c1 s1) (o := (none, .int (I2 148 0), sM Ln I2 L2 c1 s1)) rfl rfl (dd_Af.ret rfl ?_) (by omega)
  show dd_Rn (e + 16) m_L_law_ (1271, [.ref 3000000, .ref 0, .ref 148, .ref 163, .int a4, .int x1, .int x2], [.int (I2 148 0)], sM Ln I2 L2 c1 s1) _
  refine dd_Rn.ite 1 (c := I2 148 0 = x1) (A := (1278, [.ref 3000000, .ref 0, .ref 148, .ref 163, .int a4, .int x1, .int x2], [], sM Ln I2 L2 c1 s1)) (B := (1276, [.ref 3000000, .ref 0, .ref 148, .ref 163, .int a4, .int x1, .int x2], [], sM Ln I2 L2 c1 s1)) rfl (fun hc => ?_) (fun hc => ?_) (by omega)
  · have h := h.1 hc
    refine dd_Rn.ite 1 (c := x1 = 0) (A := (1283, [.ref 3000000, .ref 0, .ref 148, .ref 163, .int a4, .int x1, .int x2], [], sM Ln I2 L2 c1 s1)) (B := (1295, [.ref 3000000, .ref 0, .ref 148, .ref 163, .int a4, .int x1, .int x2], [], sM Ln I2 L2 c1 s1)) rfl (fun hc => ?_) (fun hc => ?_) (by omega)
    · have h := h.1 hc
      refine dd_Rn.ite 6 (c := lg_cmp (L2 163 0) x2.toInt64 = 0) (A := (1295, [.ref 3000000, .ref 0, .ref 148, .ref 163, .int a4, .int x1, .int x2], [], sM Ln I2 L2 c1 s1)) (B := (1293, [.ref 3000000, .ref 0, .ref 148, .ref 163, .int a4, .int x1, .int x2], [], sM Ln I2 L2 c1 s1)) rfl (fun hc => ?_) (fun hc => ?_) (by omega)
      · have h := h.1 hc
        exact dd_Rn.go 0 (cf' := (1295, [.ref 3000000, .ref 0, .ref 148, .ref 163, .int a4, .int x1, .int x2], [], sM Ln I2 L2 c1 s1)) rfl h (by omega)
      · have h := h.2 hc
        exact dd_Rn.retK 1 (pc := 1294) (ls := [.ref 3000000, .ref 0, .ref 148, .ref 163, .int a4, .int x1, .int x2]) (st := [.int 0]) (M := sM Ln I2 L2 c1 s1) (o := (none, .int 0, sM Ln I2 L2 c1 s1)) rfl rfl h (by omega)
    · have h := h.2 hc
      exact dd_Rn.go 0 (cf' := (1295, [.ref 3000000, .ref 0, .ref 148, .ref 163, .int a4, .int x1, .int x2], [], sM Ln I2 L2 c1 s1)) rfl h (by omega)
  · have h := h.2 hc
    exact dd_Rn.retK 1 (pc := 1277) (ls := [.ref 3000000, .ref 0, .ref 148, .ref 163, .int a4, .int x1, .int x2]) (st := [.int 0]) (M := sM Ln I2 L2 c1 s1) (o := (none, .int 0, sM Ln I2 L2 c1 s1)) rfl rfl h (by omega)

theorem w_L_law__1295 {Ln d c s : Nat} {I : Nat → Nat → Int32} {L : Nat → Nat → Int64} {Q : dd_O → Prop} {a4 a5 a6 : Int32} (hd : 28 ≤ d) (h : dd_Rn d m_L_law_ (3009, [.ref 3000000, .ref 0, .ref 148, .ref 163, .int a4, .int a5, .int a6], [], sM Ln I L c s) Q) : dd_Rn d m_L_law_ (1295, [.ref 3000000, .ref 0, .ref 148, .ref 163, .int a4, .int a5, .int a6], [], sM Ln I L c s) Q := by
  obtain ⟨e, rfl⟩ : ∃ e, d = e + 16 := ⟨d - 16, by omega⟩
  exact dd_Rn.go 1 (cf' := (3009, [.ref 3000000, .ref 0, .ref 148, .ref 163, .int a4, .int a5, .int a6], [], sM Ln I L c s)) rfl h (by omega)

theorem w_L_law__1298 {Ln d c s : Nat} {I : Nat → Nat → Int32} {L : Nat → Nat → Int64} {Q : dd_O → Prop} {a4 : Int32} {a5 a6 : Value} (hd : 28 ≤ d) (h : ((0 ≤ a4 + 1 ∧ tn (a4 + 1) < Ln) ∧ dd_Ev (d - 1) m_L_soon [.ref 0, .int (I 3000000 (tn (a4 + 1))), .ref 163] (sM Ln I L c s) (dd_RJ Ln c s (fun x1 I1 L1 c1 s1 => ((0 ≤ a4 + 1 ∧ tn (a4 + 1) < Ln) ∧ dd_Ev (d - 1) m_X11_soon [.ref 148, .int (I1 3000000 (tn (a4 + 1)))] (sM Ln I1 L1 c1 s1) (dd_RI Ln c1 s1 (fun x2 I2 L2 => ((I2 148 0 = x1 → ((x1 = 0 → ((lg_cmp (L2 163 0) x2.toInt64 = 0 → dd_Rn d m_L_law_ (1351, [.ref 3000000, .ref 0, .ref 148, .ref 163, .int a4, .int x1, .int x2], [], sM Ln I2 L2 c1 s1) Q) ∧ (¬ (lg_cmp (L2 163 0) x2.toInt64 = 0) → Q (none, .int 0, sM Ln I2 L2 c1 s1)))) ∧ (¬ (x1 = 0) → dd_Rn d m_L_law_ (1351, [.ref 3000000, .ref 0, .ref 148, .ref 163, .int a4, .int x1, .int x2], [], sM Ln I2 L2 c1 s1) Q))) ∧ (¬ (I2 148 0 = x1) → Q (none, .int 0, sM Ln I2 L2 c1 s1)))))))))) : dd_Rn d m_L_law_ (1298, [.ref 3000000, .ref 0, .ref 148, .ref 163, .int a4, a5, a6], [], sM Ln I L c s) Q := by
  obtain ⟨e, rfl⟩ : ∃ e, d = e + 16 := ⟨d - 16, by omega⟩
  obtain ⟨hc, h⟩ := h
  refine dd_Rn.go 5 (cf' := (1304, [.ref 3000000, .ref 0, .ref 148, .ref 163, .int a4, a5, a6], [.int (a4 + 1), .ref 3000000, .ref 0], sM Ln I L c s)) rfl ?_ (by omega)
  refine dd_Rn.ci (fun j0 => (1304, [.ref 3000000, .ref 0, .ref 148, .ref 163, .int a4, a5, a6], [.int j0, .ref 3000000, .ref 0], sM Ln I L c s)) (fun j0 => (1305, [.ref 3000000, .ref 0, .ref 148, .ref 163, .int a4, a5, a6], [.int (I 3000000 (tn j0)), .ref 0], sM Ln I L c s)) (fun j0 => 0 ≤ j0 ∧ tn j0 < Ln) (a4 + 1) (fun j0 hc h => dd_Rn.chk 0 (c := 0 ≤ j0 ∧ tn j0 < Ln) (A := (1305, [.ref 3000000, .ref 0, .ref 148, .ref 163, .int a4, a5, a6], [.int (I 3000000 (tn j0)), .ref 0], sM Ln I L c s)) rfl hc h (by omega)) hc ?_
  refine dd_Rn.se (cf := (1305, [.ref 3000000, .ref 0, .ref 148, .ref 163, .int a4, a5, a6], [.int (I 3000000 (tn (a4 + 1))), .ref 0], sM Ln I L c s)) ?_
  refine dd_Rn.cJ 1 (pc := 1306) (ls := [.ref 3000000, .ref 0, .ref 148, .ref 163, .int a4, a5, a6]) (st := [.ref 163, .int (I 3000000 (tn (a4 + 1))), .ref 0]) (x := m_L_soon) (as := [.ref 0, .int (I 3000000 (tn (a4 + 1))), .ref 163]) (rest := []) rfl rfl rfl rfl h ?_
  intro x1 I1 L1 c1 s1 h
  show dd_Rn (e + 16) m_L_law_ (1309, [.ref 3000000, .ref 0, .ref 148, .ref 163, .int a4, a5, a6], [.int x1], sM Ln I1 L1 c1 s1) _
  obtain ⟨hc, h⟩ := h
  refine dd_Rn.go 6 (cf' := (1317, [.ref 3000000, .ref 0, .ref 148, .ref 163, .int a4, .int x1, a6], [.int (a4 + 1), .ref 3000000, .ref 148], sM Ln I1 L1 c1 s1)) rfl ?_ (by omega)
  refine dd_Rn.ci (fun j0 => (1317, [.ref 3000000, .ref 0, .ref 148, .ref 163, .int a4, .int x1, a6], [.int j0, .ref 3000000, .ref 148], sM Ln I1 L1 c1 s1)) (fun j0 => (1318, [.ref 3000000, .ref 0, .ref 148, .ref 163, .int a4, .int x1, a6], [.int (I1 3000000 (tn j0)), .ref 148], sM Ln I1 L1 c1 s1)) (fun j0 => 0 ≤ j0 ∧ tn j0 < Ln) (a4 + 1) (fun j0 hc h => dd_Rn.chk 0 (c := 0 ≤ j0 ∧ tn j0 < Ln) (A := (1318, [.ref 3000000, .ref 0, .ref 148, .ref 163, .int a4, .int x1, a6], [.int (I1 3000000 (tn j0)), .ref 148], sM Ln I1 L1 c1 s1)) rfl hc h (by omega)) hc ?_
  refine dd_Rn.se (cf := (1318, [.ref 3000000, .ref 0, .ref 148, .ref 163, .int a4, .int x1, a6], [.int (I1 3000000 (tn (a4 + 1))), .ref 148], sM Ln I1 L1 c1 s1)) ?_
  refine dd_Rn.cI 0 (pc := 1318) (ls := [.ref 3000000, .ref 0, .ref 148, .ref 163, .int a4, .int x1, a6]) (st := [.int (I1 3000000 (tn (a4 + 1))), .ref 148]) (x := m_X11_soon) (as := [.ref 148, .int (I1 3000000 (tn (a4 + 1)))]) (rest := []) rfl rfl rfl rfl h ?_
  intro x2 I2 L2 h
  show dd_Rn (e + 16) m_L_law_ (1321, [.ref 3000000, .ref 0, .ref 148, .ref 163, .int a4, .int x1, a6], [.int x2], sM Ln I2 L2 c1 s1) _
  refine dd_Rn.sub 2 (pc := 1324) (ls := [.ref 3000000, .ref 0, .ref 148, .ref 163, .int a4, .int x1, .int x2]) (st := [.ref 148]) (M := sM Ln I2 L2 c1 s1) (x := m_X11_thrown) (as := [.ref 148]) (rest := []) rfl rfl rfl rfl ?_
  show dd_Rn (e + 15) m_X11_thrown (0, [.ref 148], [], sM Ln I2 L2 c1 s1) _
  refine dd_Rn.retK 2 (pc := 4) (ls := [.ref 148]) (st := [.int (I2 148 0)]) (M := sM Ln I2 L2 c1 s1) (o := (none, .int (I2 148 0), sM Ln I2 L2 c1 s1)) rfl rfl (dd_Af.ret rfl ?_) (by omega)
  show dd_Rn (e + 16) m_L_law_ (1327, [.ref 3000000, .ref 0, .ref 148, .ref 163, .int a4, .int x1, .int x2], [.int (I2 148 0)], sM Ln I2 L2 c1 s1) _
  refine dd_Rn.ite 1 (c := I2 148 0 = x1) (A := (1334, [.ref 3000000, .ref 0, .ref 148, .ref 163, .int a4, .int x1, .int x2], [], sM Ln I2 L2 c1 s1)) (B := (1332, [.ref 3000000, .ref 0, .ref 148, .ref 163, .int a4, .int x1, .int x2], [], sM Ln I2 L2 c1 s1)) rfl (fun hc => ?_) (fun hc => ?_) (by omega)
  · have h := h.1 hc
    refine dd_Rn.ite 1 (c := x1 = 0) (A := (1339, [.ref 3000000, .ref 0, .ref 148, .ref 163, .int a4, .int x1, .int x2], [], sM Ln I2 L2 c1 s1)) (B := (1351, [.ref 3000000, .ref 0, .ref 148, .ref 163, .int a4, .int x1, .int x2], [], sM Ln I2 L2 c1 s1)) rfl (fun hc => ?_) (fun hc => ?_) (by omega)
    · have h := h.1 hc
      refine dd_Rn.ite 6 (c := lg_cmp (L2 163 0) x2.toInt64 = 0) (A := (1351, [.ref 3000000, .ref 0, .ref 148, .ref 163, .int a4, .int x1, .int x2], [], sM Ln I2 L2 c1 s1)) (B := (1349, [.ref 3000000, .ref 0, .ref 148, .ref 163, .int a4, .int x1, .int x2], [], sM Ln I2 L2 c1 s1)) rfl (fun hc => ?_) (fun hc => ?_) (by omega)
      · have h := h.1 hc
        exact dd_Rn.go 0 (cf' := (1351, [.ref 3000000, .ref 0, .ref 148, .ref 163, .int a4, .int x1, .int x2], [], sM Ln I2 L2 c1 s1)) rfl h (by omega)
      · have h := h.2 hc
        exact dd_Rn.retK 1 (pc := 1350) (ls := [.ref 3000000, .ref 0, .ref 148, .ref 163, .int a4, .int x1, .int x2]) (st := [.int 0]) (M := sM Ln I2 L2 c1 s1) (o := (none, .int 0, sM Ln I2 L2 c1 s1)) rfl rfl h (by omega)
    · have h := h.2 hc
      exact dd_Rn.go 0 (cf' := (1351, [.ref 3000000, .ref 0, .ref 148, .ref 163, .int a4, .int x1, .int x2], [], sM Ln I2 L2 c1 s1)) rfl h (by omega)
  · have h := h.2 hc
    exact dd_Rn.retK 1 (pc := 1333) (ls := [.ref 3000000, .ref 0, .ref 148, .ref 163, .int a4, .int x1, .int x2]) (st := [.int 0]) (M := sM Ln I2 L2 c1 s1) (o := (none, .int 0, sM Ln I2 L2 c1 s1)) rfl rfl h (by omega)

theorem w_L_law__1351 {Ln d c s : Nat} {I : Nat → Nat → Int32} {L : Nat → Nat → Int64} {Q : dd_O → Prop} {a4 a5 a6 : Int32} (hd : 28 ≤ d) (h : dd_Rn d m_L_law_ (3009, [.ref 3000000, .ref 0, .ref 148, .ref 163, .int a4, .int a5, .int a6], [], sM Ln I L c s) Q) : dd_Rn d m_L_law_ (1351, [.ref 3000000, .ref 0, .ref 148, .ref 163, .int a4, .int a5, .int a6], [], sM Ln I L c s) Q := by
  obtain ⟨e, rfl⟩ : ∃ e, d = e + 16 := ⟨d - 16, by omega⟩
  exact dd_Rn.go 1 (cf' := (3009, [.ref 3000000, .ref 0, .ref 148, .ref 163, .int a4, .int a5, .int a6], [], sM Ln I L c s)) rfl h (by omega)

theorem w_L_law__1354 {Ln d c s : Nat} {I : Nat → Nat → Int32} {L : Nat → Nat → Int64} {Q : dd_O → Prop} {a4 : Int32} {a5 a6 : Value} (hd : 28 ≤ d) (h : ((0 ≤ a4 + 1 ∧ tn (a4 + 1) < Ln) ∧ ((0 ≤ a4 + 2 ∧ tn (a4 + 2) < Ln) ∧ dd_Ev (d - 1) m_L_by [.ref 0, .int (I 3000000 (tn (a4 + 1))), .int (I 3000000 (tn (a4 + 2))), .ref 163] (sM Ln I L c s) (dd_RJ Ln c s (fun x1 I1 L1 c1 s1 => ((0 ≤ a4 + 1 ∧ tn (a4 + 1) < Ln) ∧ ((0 ≤ a4 + 2 ∧ tn (a4 + 2) < Ln) ∧ dd_Ev (d - 1) m_X11_by [.ref 148, .int (I1 3000000 (tn (a4 + 1))), .int (I1 3000000 (tn (a4 + 2)))] (sM Ln I1 L1 c1 s1) (dd_RI Ln c1 s1 (fun x2 I2 L2 => ((I2 148 0 = x1 → ((x1 = 0 → ((lg_cmp (L2 163 0) x2.toInt64 = 0 → dd_Rn d m_L_law_ (1419, [.ref 3000000, .ref 0, .ref 148, .ref 163, .int a4, .int x1, .int x2], [], sM Ln I2 L2 c1 s1) Q) ∧ (¬ (lg_cmp (L2 163 0) x2.toInt64 = 0) → Q (none, .int 0, sM Ln I2 L2 c1 s1)))) ∧ (¬ (x1 = 0) → dd_Rn d m_L_law_ (1419, [.ref 3000000, .ref 0, .ref 148, .ref 163, .int a4, .int x1, .int x2], [], sM Ln I2 L2 c1 s1) Q))) ∧ (¬ (I2 148 0 = x1) → Q (none, .int 0, sM Ln I2 L2 c1 s1)))))))))))) : dd_Rn d m_L_law_ (1354, [.ref 3000000, .ref 0, .ref 148, .ref 163, .int a4, a5, a6], [], sM Ln I L c s) Q := by
  obtain ⟨e, rfl⟩ : ∃ e, d = e + 16 := ⟨d - 16, by omega⟩
  obtain ⟨hc, h⟩ := h
  refine dd_Rn.go 5 (cf' := (1360, [.ref 3000000, .ref 0, .ref 148, .ref 163, .int a4, a5, a6], [.int (a4 + 1), .ref 3000000, .ref 0], sM Ln I L c s)) rfl ?_ (by omega)
  refine dd_Rn.ci (fun j0 => (1360, [.ref 3000000, .ref 0, .ref 148, .ref 163, .int a4, a5, a6], [.int j0, .ref 3000000, .ref 0], sM Ln I L c s)) (fun j0 => (1361, [.ref 3000000, .ref 0, .ref 148, .ref 163, .int a4, a5, a6], [.int (I 3000000 (tn j0)), .ref 0], sM Ln I L c s)) (fun j0 => 0 ≤ j0 ∧ tn j0 < Ln) (a4 + 1) (fun j0 hc h => dd_Rn.chk 0 (c := 0 ≤ j0 ∧ tn j0 < Ln) (A := (1361, [.ref 3000000, .ref 0, .ref 148, .ref 163, .int a4, a5, a6], [.int (I 3000000 (tn j0)), .ref 0], sM Ln I L c s)) rfl hc h (by omega)) hc ?_
  refine dd_Rn.se (cf := (1361, [.ref 3000000, .ref 0, .ref 148, .ref 163, .int a4, a5, a6], [.int (I 3000000 (tn (a4 + 1))), .ref 0], sM Ln I L c s)) ?_
  obtain ⟨hc, h⟩ := h
  refine dd_Rn.go 4 (cf' := (1366, [.ref 3000000, .ref 0, .ref 148, .ref 163, .int a4, a5, a6], [.int (a4 + 2), .ref 3000000, .int (I 3000000 (tn (a4 + 1))), .ref 0], sM Ln I L c s)) rfl ?_ (by omega)
  refine dd_Rn.ci (fun j0 => (1366, [.ref 3000000, .ref 0, .ref 148, .ref 163, .int a4, a5, a6], [.int j0, .ref 3000000, .int (I 3000000 (tn (a4 + 1))), .ref 0], sM Ln I L c s)) (fun j0 => (1367, [.ref 3000000, .ref 0, .ref 148, .ref 163, .int a4, a5, a6], [.int (I 3000000 (tn j0)), .int (I 3000000 (tn (a4 + 1))), .ref 0], sM Ln I L c s)) (fun j0 => 0 ≤ j0 ∧ tn j0 < Ln) (a4 + 2) (fun j0 hc h => dd_Rn.chk 0 (c := 0 ≤ j0 ∧ tn j0 < Ln) (A := (1367, [.ref 3000000, .ref 0, .ref 148, .ref 163, .int a4, a5, a6], [.int (I 3000000 (tn j0)), .int (I 3000000 (tn (a4 + 1))), .ref 0], sM Ln I L c s)) rfl hc h (by omega)) hc ?_
  refine dd_Rn.se (cf := (1367, [.ref 3000000, .ref 0, .ref 148, .ref 163, .int a4, a5, a6], [.int (I 3000000 (tn (a4 + 2))), .int (I 3000000 (tn (a4 + 1))), .ref 0], sM Ln I L c s)) ?_
  refine dd_Rn.cJ 1 (pc := 1368) (ls := [.ref 3000000, .ref 0, .ref 148, .ref 163, .int a4, a5, a6]) (st := [.ref 163, .int (I 3000000 (tn (a4 + 2))), .int (I 3000000 (tn (a4 + 1))), .ref 0]) (x := m_L_by) (as := [.ref 0, .int (I 3000000 (tn (a4 + 1))), .int (I 3000000 (tn (a4 + 2))), .ref 163]) (rest := []) rfl rfl rfl rfl h ?_
  intro x1 I1 L1 c1 s1 h
  show dd_Rn (e + 16) m_L_law_ (1371, [.ref 3000000, .ref 0, .ref 148, .ref 163, .int a4, a5, a6], [.int x1], sM Ln I1 L1 c1 s1) _
  obtain ⟨hc, h⟩ := h
  refine dd_Rn.go 6 (cf' := (1379, [.ref 3000000, .ref 0, .ref 148, .ref 163, .int a4, .int x1, a6], [.int (a4 + 1), .ref 3000000, .ref 148], sM Ln I1 L1 c1 s1)) rfl ?_ (by omega)
  refine dd_Rn.ci (fun j0 => (1379, [.ref 3000000, .ref 0, .ref 148, .ref 163, .int a4, .int x1, a6], [.int j0, .ref 3000000, .ref 148], sM Ln I1 L1 c1 s1)) (fun j0 => (1380, [.ref 3000000, .ref 0, .ref 148, .ref 163, .int a4, .int x1, a6], [.int (I1 3000000 (tn j0)), .ref 148], sM Ln I1 L1 c1 s1)) (fun j0 => 0 ≤ j0 ∧ tn j0 < Ln) (a4 + 1) (fun j0 hc h => dd_Rn.chk 0 (c := 0 ≤ j0 ∧ tn j0 < Ln) (A := (1380, [.ref 3000000, .ref 0, .ref 148, .ref 163, .int a4, .int x1, a6], [.int (I1 3000000 (tn j0)), .ref 148], sM Ln I1 L1 c1 s1)) rfl hc h (by omega)) hc ?_
  refine dd_Rn.se (cf := (1380, [.ref 3000000, .ref 0, .ref 148, .ref 163, .int a4, .int x1, a6], [.int (I1 3000000 (tn (a4 + 1))), .ref 148], sM Ln I1 L1 c1 s1)) ?_
  obtain ⟨hc, h⟩ := h
  refine dd_Rn.go 4 (cf' := (1385, [.ref 3000000, .ref 0, .ref 148, .ref 163, .int a4, .int x1, a6], [.int (a4 + 2), .ref 3000000, .int (I1 3000000 (tn (a4 + 1))), .ref 148], sM Ln I1 L1 c1 s1)) rfl ?_ (by omega)
  refine dd_Rn.ci (fun j0 => (1385, [.ref 3000000, .ref 0, .ref 148, .ref 163, .int a4, .int x1, a6], [.int j0, .ref 3000000, .int (I1 3000000 (tn (a4 + 1))), .ref 148], sM Ln I1 L1 c1 s1)) (fun j0 => (1386, [.ref 3000000, .ref 0, .ref 148, .ref 163, .int a4, .int x1, a6], [.int (I1 3000000 (tn j0)), .int (I1 3000000 (tn (a4 + 1))), .ref 148], sM Ln I1 L1 c1 s1)) (fun j0 => 0 ≤ j0 ∧ tn j0 < Ln) (a4 + 2) (fun j0 hc h => dd_Rn.chk 0 (c := 0 ≤ j0 ∧ tn j0 < Ln) (A := (1386, [.ref 3000000, .ref 0, .ref 148, .ref 163, .int a4, .int x1, a6], [.int (I1 3000000 (tn j0)), .int (I1 3000000 (tn (a4 + 1))), .ref 148], sM Ln I1 L1 c1 s1)) rfl hc h (by omega)) hc ?_
  refine dd_Rn.se (cf := (1386, [.ref 3000000, .ref 0, .ref 148, .ref 163, .int a4, .int x1, a6], [.int (I1 3000000 (tn (a4 + 2))), .int (I1 3000000 (tn (a4 + 1))), .ref 148], sM Ln I1 L1 c1 s1)) ?_
  refine dd_Rn.cI 0 (pc := 1386) (ls := [.ref 3000000, .ref 0, .ref 148, .ref 163, .int a4, .int x1, a6]) (st := [.int (I1 3000000 (tn (a4 + 2))), .int (I1 3000000 (tn (a4 + 1))), .ref 148]) (x := m_X11_by) (as := [.ref 148, .int (I1 3000000 (tn (a4 + 1))), .int (I1 3000000 (tn (a4 + 2)))]) (rest := []) rfl rfl rfl rfl h ?_
  intro x2 I2 L2 h
  show dd_Rn (e + 16) m_L_law_ (1389, [.ref 3000000, .ref 0, .ref 148, .ref 163, .int a4, .int x1, a6], [.int x2], sM Ln I2 L2 c1 s1) _
  refine dd_Rn.sub 2 (pc := 1392) (ls := [.ref 3000000, .ref 0, .ref 148, .ref 163, .int a4, .int x1, .int x2]) (st := [.ref 148]) (M := sM Ln I2 L2 c1 s1) (x := m_X11_thrown) (as := [.ref 148]) (rest := []) rfl rfl rfl rfl ?_
  show dd_Rn (e + 15) m_X11_thrown (0, [.ref 148], [], sM Ln I2 L2 c1 s1) _
  refine dd_Rn.retK 2 (pc := 4) (ls := [.ref 148]) (st := [.int (I2 148 0)]) (M := sM Ln I2 L2 c1 s1) (o := (none, .int (I2 148 0), sM Ln I2 L2 c1 s1)) rfl rfl (dd_Af.ret rfl ?_) (by omega)
  show dd_Rn (e + 16) m_L_law_ (1395, [.ref 3000000, .ref 0, .ref 148, .ref 163, .int a4, .int x1, .int x2], [.int (I2 148 0)], sM Ln I2 L2 c1 s1) _
  refine dd_Rn.ite 1 (c := I2 148 0 = x1) (A := (1402, [.ref 3000000, .ref 0, .ref 148, .ref 163, .int a4, .int x1, .int x2], [], sM Ln I2 L2 c1 s1)) (B := (1400, [.ref 3000000, .ref 0, .ref 148, .ref 163, .int a4, .int x1, .int x2], [], sM Ln I2 L2 c1 s1)) rfl (fun hc => ?_) (fun hc => ?_) (by omega)
  · have h := h.1 hc
    refine dd_Rn.ite 1 (c := x1 = 0) (A := (1407, [.ref 3000000, .ref 0, .ref 148, .ref 163, .int a4, .int x1, .int x2], [], sM Ln I2 L2 c1 s1)) (B := (1419, [.ref 3000000, .ref 0, .ref 148, .ref 163, .int a4, .int x1, .int x2], [], sM Ln I2 L2 c1 s1)) rfl (fun hc => ?_) (fun hc => ?_) (by omega)
    · have h := h.1 hc
      refine dd_Rn.ite 6 (c := lg_cmp (L2 163 0) x2.toInt64 = 0) (A := (1419, [.ref 3000000, .ref 0, .ref 148, .ref 163, .int a4, .int x1, .int x2], [], sM Ln I2 L2 c1 s1)) (B := (1417, [.ref 3000000, .ref 0, .ref 148, .ref 163, .int a4, .int x1, .int x2], [], sM Ln I2 L2 c1 s1)) rfl (fun hc => ?_) (fun hc => ?_) (by omega)
      · have h := h.1 hc
        exact dd_Rn.go 0 (cf' := (1419, [.ref 3000000, .ref 0, .ref 148, .ref 163, .int a4, .int x1, .int x2], [], sM Ln I2 L2 c1 s1)) rfl h (by omega)
      · have h := h.2 hc
        exact dd_Rn.retK 1 (pc := 1418) (ls := [.ref 3000000, .ref 0, .ref 148, .ref 163, .int a4, .int x1, .int x2]) (st := [.int 0]) (M := sM Ln I2 L2 c1 s1) (o := (none, .int 0, sM Ln I2 L2 c1 s1)) rfl rfl h (by omega)
    · have h := h.2 hc
      exact dd_Rn.go 0 (cf' := (1419, [.ref 3000000, .ref 0, .ref 148, .ref 163, .int a4, .int x1, .int x2], [], sM Ln I2 L2 c1 s1)) rfl h (by omega)
  · have h := h.2 hc
    exact dd_Rn.retK 1 (pc := 1401) (ls := [.ref 3000000, .ref 0, .ref 148, .ref 163, .int a4, .int x1, .int x2]) (st := [.int 0]) (M := sM Ln I2 L2 c1 s1) (o := (none, .int 0, sM Ln I2 L2 c1 s1)) rfl rfl h (by omega)

theorem w_L_law__1419 {Ln d c s : Nat} {I : Nat → Nat → Int32} {L : Nat → Nat → Int64} {Q : dd_O → Prop} {a4 a5 a6 : Int32} (hd : 28 ≤ d) (h : dd_Rn d m_L_law_ (3009, [.ref 3000000, .ref 0, .ref 148, .ref 163, .int a4, .int a5, .int a6], [], sM Ln I L c s) Q) : dd_Rn d m_L_law_ (1419, [.ref 3000000, .ref 0, .ref 148, .ref 163, .int a4, .int a5, .int a6], [], sM Ln I L c s) Q := by
  obtain ⟨e, rfl⟩ : ∃ e, d = e + 16 := ⟨d - 16, by omega⟩
  exact dd_Rn.go 1 (cf' := (3009, [.ref 3000000, .ref 0, .ref 148, .ref 163, .int a4, .int a5, .int a6], [], sM Ln I L c s)) rfl h (by omega)

theorem w_L_law__1422 {Ln d c s : Nat} {I : Nat → Nat → Int32} {L : Nat → Nat → Int64} {Q : dd_O → Prop} {a4 : Int32} {a5 a6 : Value} (hd : 28 ≤ d) (h : ((0 ≤ a4 + 1 ∧ tn (a4 + 1) < Ln) ∧ dd_Ev (d - 1) m_L_best [.ref 0, .int (I 3000000 (tn (a4 + 1))), .ref 163] (sM Ln I L c s) (dd_RJ Ln c s (fun x1 I1 L1 c1 s1 => ((0 ≤ a4 + 1 ∧ tn (a4 + 1) < Ln) ∧ dd_Ev (d - 1) m_X11_best [.ref 148, .int (I1 3000000 (tn (a4 + 1)))] (sM Ln I1 L1 c1 s1) (dd_RI Ln c1 s1 (fun x2 I2 L2 => ((I2 148 0 = x1 → ((x1 = 0 → ((lg_cmp (L2 163 0) x2.toInt64 = 0 → dd_Rn d m_L_law_ (1475, [.ref 3000000, .ref 0, .ref 148, .ref 163, .int a4, .int x1, .int x2], [], sM Ln I2 L2 c1 s1) Q) ∧ (¬ (lg_cmp (L2 163 0) x2.toInt64 = 0) → Q (none, .int 0, sM Ln I2 L2 c1 s1)))) ∧ (¬ (x1 = 0) → dd_Rn d m_L_law_ (1475, [.ref 3000000, .ref 0, .ref 148, .ref 163, .int a4, .int x1, .int x2], [], sM Ln I2 L2 c1 s1) Q))) ∧ (¬ (I2 148 0 = x1) → Q (none, .int 0, sM Ln I2 L2 c1 s1)))))))))) : dd_Rn d m_L_law_ (1422, [.ref 3000000, .ref 0, .ref 148, .ref 163, .int a4, a5, a6], [], sM Ln I L c s) Q := by
  obtain ⟨e, rfl⟩ : ∃ e, d = e + 16 := ⟨d - 16, by omega⟩
  obtain ⟨hc, h⟩ := h
  refine dd_Rn.go 5 (cf' := (1428, [.ref 3000000, .ref 0, .ref 148, .ref 163, .int a4, a5, a6], [.int (a4 + 1), .ref 3000000, .ref 0], sM Ln I L c s)) rfl ?_ (by omega)
  refine dd_Rn.ci (fun j0 => (1428, [.ref 3000000, .ref 0, .ref 148, .ref 163, .int a4, a5, a6], [.int j0, .ref 3000000, .ref 0], sM Ln I L c s)) (fun j0 => (1429, [.ref 3000000, .ref 0, .ref 148, .ref 163, .int a4, a5, a6], [.int (I 3000000 (tn j0)), .ref 0], sM Ln I L c s)) (fun j0 => 0 ≤ j0 ∧ tn j0 < Ln) (a4 + 1) (fun j0 hc h => dd_Rn.chk 0 (c := 0 ≤ j0 ∧ tn j0 < Ln) (A := (1429, [.ref 3000000, .ref 0, .ref 148, .ref 163, .int a4, a5, a6], [.int (I 3000000 (tn j0)), .ref 0], sM Ln I L c s)) rfl hc h (by omega)) hc ?_
  refine dd_Rn.se (cf := (1429, [.ref 3000000, .ref 0, .ref 148, .ref 163, .int a4, a5, a6], [.int (I 3000000 (tn (a4 + 1))), .ref 0], sM Ln I L c s)) ?_
  refine dd_Rn.cJ 1 (pc := 1430) (ls := [.ref 3000000, .ref 0, .ref 148, .ref 163, .int a4, a5, a6]) (st := [.ref 163, .int (I 3000000 (tn (a4 + 1))), .ref 0]) (x := m_L_best) (as := [.ref 0, .int (I 3000000 (tn (a4 + 1))), .ref 163]) (rest := []) rfl rfl rfl rfl h ?_
  intro x1 I1 L1 c1 s1 h
  show dd_Rn (e + 16) m_L_law_ (1433, [.ref 3000000, .ref 0, .ref 148, .ref 163, .int a4, a5, a6], [.int x1], sM Ln I1 L1 c1 s1) _
  obtain ⟨hc, h⟩ := h
  refine dd_Rn.go 6 (cf' := (1441, [.ref 3000000, .ref 0, .ref 148, .ref 163, .int a4, .int x1, a6], [.int (a4 + 1), .ref 3000000, .ref 148], sM Ln I1 L1 c1 s1)) rfl ?_ (by omega)
  refine dd_Rn.ci (fun j0 => (1441, [.ref 3000000, .ref 0, .ref 148, .ref 163, .int a4, .int x1, a6], [.int j0, .ref 3000000, .ref 148], sM Ln I1 L1 c1 s1)) (fun j0 => (1442, [.ref 3000000, .ref 0, .ref 148, .ref 163, .int a4, .int x1, a6], [.int (I1 3000000 (tn j0)), .ref 148], sM Ln I1 L1 c1 s1)) (fun j0 => 0 ≤ j0 ∧ tn j0 < Ln) (a4 + 1) (fun j0 hc h => dd_Rn.chk 0 (c := 0 ≤ j0 ∧ tn j0 < Ln) (A := (1442, [.ref 3000000, .ref 0, .ref 148, .ref 163, .int a4, .int x1, a6], [.int (I1 3000000 (tn j0)), .ref 148], sM Ln I1 L1 c1 s1)) rfl hc h (by omega)) hc ?_
  refine dd_Rn.se (cf := (1442, [.ref 3000000, .ref 0, .ref 148, .ref 163, .int a4, .int x1, a6], [.int (I1 3000000 (tn (a4 + 1))), .ref 148], sM Ln I1 L1 c1 s1)) ?_
  refine dd_Rn.cI 0 (pc := 1442) (ls := [.ref 3000000, .ref 0, .ref 148, .ref 163, .int a4, .int x1, a6]) (st := [.int (I1 3000000 (tn (a4 + 1))), .ref 148]) (x := m_X11_best) (as := [.ref 148, .int (I1 3000000 (tn (a4 + 1)))]) (rest := []) rfl rfl rfl rfl h ?_
  intro x2 I2 L2 h
  show dd_Rn (e + 16) m_L_law_ (1445, [.ref 3000000, .ref 0, .ref 148, .ref 163, .int a4, .int x1, a6], [.int x2], sM Ln I2 L2 c1 s1) _
  refine dd_Rn.sub 2 (pc := 1448) (ls := [.ref 3000000, .ref 0, .ref 148, .ref 163, .int a4, .int x1, .int x2]) (st := [.ref 148]) (M := sM Ln I2 L2 c1 s1) (x := m_X11_thrown) (as := [.ref 148]) (rest := []) rfl rfl rfl rfl ?_
  show dd_Rn (e + 15) m_X11_thrown (0, [.ref 148], [], sM Ln I2 L2 c1 s1) _
  refine dd_Rn.retK 2 (pc := 4) (ls := [.ref 148]) (st := [.int (I2 148 0)]) (M := sM Ln I2 L2 c1 s1) (o := (none, .int (I2 148 0), sM Ln I2 L2 c1 s1)) rfl rfl (dd_Af.ret rfl ?_) (by omega)
  show dd_Rn (e + 16) m_L_law_ (1451, [.ref 3000000, .ref 0, .ref 148, .ref 163, .int a4, .int x1, .int x2], [.int (I2 148 0)], sM Ln I2 L2 c1 s1) _
  refine dd_Rn.ite 1 (c := I2 148 0 = x1) (A := (1458, [.ref 3000000, .ref 0, .ref 148, .ref 163, .int a4, .int x1, .int x2], [], sM Ln I2 L2 c1 s1)) (B := (1456, [.ref 3000000, .ref 0, .ref 148, .ref 163, .int a4, .int x1, .int x2], [], sM Ln I2 L2 c1 s1)) rfl (fun hc => ?_) (fun hc => ?_) (by omega)
  · have h := h.1 hc
    refine dd_Rn.ite 1 (c := x1 = 0) (A := (1463, [.ref 3000000, .ref 0, .ref 148, .ref 163, .int a4, .int x1, .int x2], [], sM Ln I2 L2 c1 s1)) (B := (1475, [.ref 3000000, .ref 0, .ref 148, .ref 163, .int a4, .int x1, .int x2], [], sM Ln I2 L2 c1 s1)) rfl (fun hc => ?_) (fun hc => ?_) (by omega)
    · have h := h.1 hc
      refine dd_Rn.ite 6 (c := lg_cmp (L2 163 0) x2.toInt64 = 0) (A := (1475, [.ref 3000000, .ref 0, .ref 148, .ref 163, .int a4, .int x1, .int x2], [], sM Ln I2 L2 c1 s1)) (B := (1473, [.ref 3000000, .ref 0, .ref 148, .ref 163, .int a4, .int x1, .int x2], [], sM Ln I2 L2 c1 s1)) rfl (fun hc => ?_) (fun hc => ?_) (by omega)
      · have h := h.1 hc
        exact dd_Rn.go 0 (cf' := (1475, [.ref 3000000, .ref 0, .ref 148, .ref 163, .int a4, .int x1, .int x2], [], sM Ln I2 L2 c1 s1)) rfl h (by omega)
      · have h := h.2 hc
        exact dd_Rn.retK 1 (pc := 1474) (ls := [.ref 3000000, .ref 0, .ref 148, .ref 163, .int a4, .int x1, .int x2]) (st := [.int 0]) (M := sM Ln I2 L2 c1 s1) (o := (none, .int 0, sM Ln I2 L2 c1 s1)) rfl rfl h (by omega)
    · have h := h.2 hc
      exact dd_Rn.go 0 (cf' := (1475, [.ref 3000000, .ref 0, .ref 148, .ref 163, .int a4, .int x1, .int x2], [], sM Ln I2 L2 c1 s1)) rfl h (by omega)
  · have h := h.2 hc
    exact dd_Rn.retK 1 (pc := 1457) (ls := [.ref 3000000, .ref 0, .ref 148, .ref 163, .int a4, .int x1, .int x2]) (st := [.int 0]) (M := sM Ln I2 L2 c1 s1) (o := (none, .int 0, sM Ln I2 L2 c1 s1)) rfl rfl h (by omega)

theorem w_L_law__1475 {Ln d c s : Nat} {I : Nat → Nat → Int32} {L : Nat → Nat → Int64} {Q : dd_O → Prop} {a4 a5 a6 : Int32} (hd : 28 ≤ d) (h : dd_Rn d m_L_law_ (3009, [.ref 3000000, .ref 0, .ref 148, .ref 163, .int a4, .int a5, .int a6], [], sM Ln I L c s) Q) : dd_Rn d m_L_law_ (1475, [.ref 3000000, .ref 0, .ref 148, .ref 163, .int a4, .int a5, .int a6], [], sM Ln I L c s) Q := by
  obtain ⟨e, rfl⟩ : ∃ e, d = e + 16 := ⟨d - 16, by omega⟩
  exact dd_Rn.go 1 (cf' := (3009, [.ref 3000000, .ref 0, .ref 148, .ref 163, .int a4, .int a5, .int a6], [], sM Ln I L c s)) rfl h (by omega)

theorem w_L_law__1478 {Ln d c s : Nat} {I : Nat → Nat → Int32} {L : Nat → Nat → Int64} {Q : dd_O → Prop} {a4 : Int32} {a5 a6 : Value} (hd : 28 ≤ d) (h : dd_Ev (d - 1) m_X10_all [.ref 0] (sM Ln I L c s) (dd_RI Ln c s (fun x1 I1 L1 => dd_Ev (d - 1) m_X11_all [.ref 148] (sM Ln I1 L1 c s) (dd_RI Ln c s (fun x2 I2 L2 => ((x1 = x2 → dd_Rn d m_L_law_ (3009, [.ref 3000000, .ref 0, .ref 148, .ref 163, .int a4, a5, a6], [], sM Ln I2 L2 c s) Q) ∧ (¬ (x1 = x2) → Q (none, .int 0, sM Ln I2 L2 c s)))))))) : dd_Rn d m_L_law_ (1478, [.ref 3000000, .ref 0, .ref 148, .ref 163, .int a4, a5, a6], [], sM Ln I L c s) Q := by
  obtain ⟨e, rfl⟩ : ∃ e, d = e + 16 := ⟨d - 16, by omega⟩
  refine dd_Rn.cI 1 (pc := 1479) (ls := [.ref 3000000, .ref 0, .ref 148, .ref 163, .int a4, a5, a6]) (st := [.ref 0]) (x := m_X10_all) (as := [.ref 0]) (rest := []) rfl rfl rfl rfl h ?_
  intro x1 I1 L1 h
  show dd_Rn (e + 16) m_L_law_ (1482, [.ref 3000000, .ref 0, .ref 148, .ref 163, .int a4, a5, a6], [.int x1], sM Ln I1 L1 c s) _
  refine dd_Rn.cI 1 (pc := 1483) (ls := [.ref 3000000, .ref 0, .ref 148, .ref 163, .int a4, a5, a6]) (st := [.ref 148, .int x1]) (x := m_X11_all) (as := [.ref 148]) (rest := [.int x1]) rfl rfl rfl rfl h ?_
  intro x2 I2 L2 h
  show dd_Rn (e + 16) m_L_law_ (1486, [.ref 3000000, .ref 0, .ref 148, .ref 163, .int a4, a5, a6], [.int x2, .int x1], sM Ln I2 L2 c s) _
  refine dd_Rn.ite 0 (c := x1 = x2) (A := (3009, [.ref 3000000, .ref 0, .ref 148, .ref 163, .int a4, a5, a6], [], sM Ln I2 L2 c s)) (B := (1489, [.ref 3000000, .ref 0, .ref 148, .ref 163, .int a4, a5, a6], [], sM Ln I2 L2 c s)) rfl (fun hc => ?_) (fun hc => ?_) (by omega)
  · have h := h.1 hc
    exact dd_Rn.go 0 (cf' := (3009, [.ref 3000000, .ref 0, .ref 148, .ref 163, .int a4, a5, a6], [], sM Ln I2 L2 c s)) rfl h (by omega)
  · have h := h.2 hc
    exact dd_Rn.retK 1 (pc := 1490) (ls := [.ref 3000000, .ref 0, .ref 148, .ref 163, .int a4, a5, a6]) (st := [.int 0]) (M := sM Ln I2 L2 c s) (o := (none, .int 0, sM Ln I2 L2 c s)) rfl rfl h (by omega)

theorem w_L_law__1491 {Ln d c s : Nat} {I : Nat → Nat → Int32} {L : Nat → Nat → Int64} {Q : dd_O → Prop} {a4 : Int32} {a5 a6 : Value} (hd : 28 ≤ d) (h : dd_Ev (d - 1) m_X10_should [.ref 0] (sM Ln I L c s) (dd_RI Ln c s (fun x1 I1 L1 => dd_Ev (d - 1) m_X11_should [.ref 148] (sM Ln I1 L1 c s) (dd_RI Ln c s (fun x2 I2 L2 => ((x1 = x2 → dd_Rn d m_L_law_ (3009, [.ref 3000000, .ref 0, .ref 148, .ref 163, .int a4, a5, a6], [], sM Ln I2 L2 c s) Q) ∧ (¬ (x1 = x2) → Q (none, .int 0, sM Ln I2 L2 c s)))))))) : dd_Rn d m_L_law_ (1491, [.ref 3000000, .ref 0, .ref 148, .ref 163, .int a4, a5, a6], [], sM Ln I L c s) Q := by
  obtain ⟨e, rfl⟩ : ∃ e, d = e + 16 := ⟨d - 16, by omega⟩
  refine dd_Rn.cI 1 (pc := 1492) (ls := [.ref 3000000, .ref 0, .ref 148, .ref 163, .int a4, a5, a6]) (st := [.ref 0]) (x := m_X10_should) (as := [.ref 0]) (rest := []) rfl rfl rfl rfl h ?_
  intro x1 I1 L1 h
  show dd_Rn (e + 16) m_L_law_ (1495, [.ref 3000000, .ref 0, .ref 148, .ref 163, .int a4, a5, a6], [.int x1], sM Ln I1 L1 c s) _
  refine dd_Rn.cI 1 (pc := 1496) (ls := [.ref 3000000, .ref 0, .ref 148, .ref 163, .int a4, a5, a6]) (st := [.ref 148, .int x1]) (x := m_X11_should) (as := [.ref 148]) (rest := [.int x1]) rfl rfl rfl rfl h ?_
  intro x2 I2 L2 h
  show dd_Rn (e + 16) m_L_law_ (1499, [.ref 3000000, .ref 0, .ref 148, .ref 163, .int a4, a5, a6], [.int x2, .int x1], sM Ln I2 L2 c s) _
  refine dd_Rn.ite 0 (c := x1 = x2) (A := (3009, [.ref 3000000, .ref 0, .ref 148, .ref 163, .int a4, a5, a6], [], sM Ln I2 L2 c s)) (B := (1502, [.ref 3000000, .ref 0, .ref 148, .ref 163, .int a4, a5, a6], [], sM Ln I2 L2 c s)) rfl (fun hc => ?_) (fun hc => ?_) (by omega)
  · have h := h.1 hc
    exact dd_Rn.go 0 (cf' := (3009, [.ref 3000000, .ref 0, .ref 148, .ref 163, .int a4, a5, a6], [], sM Ln I2 L2 c s)) rfl h (by omega)
  · have h := h.2 hc
    exact dd_Rn.retK 1 (pc := 1503) (ls := [.ref 3000000, .ref 0, .ref 148, .ref 163, .int a4, a5, a6]) (st := [.int 0]) (M := sM Ln I2 L2 c s) (o := (none, .int 0, sM Ln I2 L2 c s)) rfl rfl h (by omega)

theorem w_L_law__1504 {Ln d c s : Nat} {I : Nat → Nat → Int32} {L : Nat → Nat → Int64} {Q : dd_O → Prop} {a4 : Int32} {a5 a6 : Value} (hd : 28 ≤ d) (h : ((0 ≤ a4 + 1 ∧ tn (a4 + 1) < Ln) ∧ dd_Ev (d - 1) m_L_calls [.ref 0, .int (I 3000000 (tn (a4 + 1))), .ref 163] (sM Ln I L c s) (dd_RJ Ln c s (fun x1 I1 L1 c1 s1 => ((0 ≤ a4 + 1 ∧ tn (a4 + 1) < Ln) ∧ dd_Ev (d - 1) m_X11_calls [.ref 148, .int (I1 3000000 (tn (a4 + 1)))] (sM Ln I1 L1 c1 s1) (dd_RI Ln c1 s1 (fun x2 I2 L2 => ((I2 148 0 = x1 → ((x1 = 0 → ((lg_cmp (L2 163 0) x2.toInt64 = 0 → dd_Rn d m_L_law_ (1557, [.ref 3000000, .ref 0, .ref 148, .ref 163, .int a4, .int x1, .int x2], [], sM Ln I2 L2 c1 s1) Q) ∧ (¬ (lg_cmp (L2 163 0) x2.toInt64 = 0) → Q (none, .int 0, sM Ln I2 L2 c1 s1)))) ∧ (¬ (x1 = 0) → dd_Rn d m_L_law_ (1557, [.ref 3000000, .ref 0, .ref 148, .ref 163, .int a4, .int x1, .int x2], [], sM Ln I2 L2 c1 s1) Q))) ∧ (¬ (I2 148 0 = x1) → Q (none, .int 0, sM Ln I2 L2 c1 s1)))))))))) : dd_Rn d m_L_law_ (1504, [.ref 3000000, .ref 0, .ref 148, .ref 163, .int a4, a5, a6], [], sM Ln I L c s) Q := by
  obtain ⟨e, rfl⟩ : ∃ e, d = e + 16 := ⟨d - 16, by omega⟩
  obtain ⟨hc, h⟩ := h
  refine dd_Rn.go 5 (cf' := (1510, [.ref 3000000, .ref 0, .ref 148, .ref 163, .int a4, a5, a6], [.int (a4 + 1), .ref 3000000, .ref 0], sM Ln I L c s)) rfl ?_ (by omega)
  refine dd_Rn.ci (fun j0 => (1510, [.ref 3000000, .ref 0, .ref 148, .ref 163, .int a4, a5, a6], [.int j0, .ref 3000000, .ref 0], sM Ln I L c s)) (fun j0 => (1511, [.ref 3000000, .ref 0, .ref 148, .ref 163, .int a4, a5, a6], [.int (I 3000000 (tn j0)), .ref 0], sM Ln I L c s)) (fun j0 => 0 ≤ j0 ∧ tn j0 < Ln) (a4 + 1) (fun j0 hc h => dd_Rn.chk 0 (c := 0 ≤ j0 ∧ tn j0 < Ln) (A := (1511, [.ref 3000000, .ref 0, .ref 148, .ref 163, .int a4, a5, a6], [.int (I 3000000 (tn j0)), .ref 0], sM Ln I L c s)) rfl hc h (by omega)) hc ?_
  refine dd_Rn.se (cf := (1511, [.ref 3000000, .ref 0, .ref 148, .ref 163, .int a4, a5, a6], [.int (I 3000000 (tn (a4 + 1))), .ref 0], sM Ln I L c s)) ?_
  refine dd_Rn.cJ 1 (pc := 1512) (ls := [.ref 3000000, .ref 0, .ref 148, .ref 163, .int a4, a5, a6]) (st := [.ref 163, .int (I 3000000 (tn (a4 + 1))), .ref 0]) (x := m_L_calls) (as := [.ref 0, .int (I 3000000 (tn (a4 + 1))), .ref 163]) (rest := []) rfl rfl rfl rfl h ?_
  intro x1 I1 L1 c1 s1 h
  show dd_Rn (e + 16) m_L_law_ (1515, [.ref 3000000, .ref 0, .ref 148, .ref 163, .int a4, a5, a6], [.int x1], sM Ln I1 L1 c1 s1) _
  obtain ⟨hc, h⟩ := h
  refine dd_Rn.go 6 (cf' := (1523, [.ref 3000000, .ref 0, .ref 148, .ref 163, .int a4, .int x1, a6], [.int (a4 + 1), .ref 3000000, .ref 148], sM Ln I1 L1 c1 s1)) rfl ?_ (by omega)
  refine dd_Rn.ci (fun j0 => (1523, [.ref 3000000, .ref 0, .ref 148, .ref 163, .int a4, .int x1, a6], [.int j0, .ref 3000000, .ref 148], sM Ln I1 L1 c1 s1)) (fun j0 => (1524, [.ref 3000000, .ref 0, .ref 148, .ref 163, .int a4, .int x1, a6], [.int (I1 3000000 (tn j0)), .ref 148], sM Ln I1 L1 c1 s1)) (fun j0 => 0 ≤ j0 ∧ tn j0 < Ln) (a4 + 1) (fun j0 hc h => dd_Rn.chk 0 (c := 0 ≤ j0 ∧ tn j0 < Ln) (A := (1524, [.ref 3000000, .ref 0, .ref 148, .ref 163, .int a4, .int x1, a6], [.int (I1 3000000 (tn j0)), .ref 148], sM Ln I1 L1 c1 s1)) rfl hc h (by omega)) hc ?_
  refine dd_Rn.se (cf := (1524, [.ref 3000000, .ref 0, .ref 148, .ref 163, .int a4, .int x1, a6], [.int (I1 3000000 (tn (a4 + 1))), .ref 148], sM Ln I1 L1 c1 s1)) ?_
  refine dd_Rn.cI 0 (pc := 1524) (ls := [.ref 3000000, .ref 0, .ref 148, .ref 163, .int a4, .int x1, a6]) (st := [.int (I1 3000000 (tn (a4 + 1))), .ref 148]) (x := m_X11_calls) (as := [.ref 148, .int (I1 3000000 (tn (a4 + 1)))]) (rest := []) rfl rfl rfl rfl h ?_
  intro x2 I2 L2 h
  show dd_Rn (e + 16) m_L_law_ (1527, [.ref 3000000, .ref 0, .ref 148, .ref 163, .int a4, .int x1, a6], [.int x2], sM Ln I2 L2 c1 s1) _
  refine dd_Rn.sub 2 (pc := 1530) (ls := [.ref 3000000, .ref 0, .ref 148, .ref 163, .int a4, .int x1, .int x2]) (st := [.ref 148]) (M := sM Ln I2 L2 c1 s1) (x := m_X11_thrown) (as := [.ref 148]) (rest := []) rfl rfl rfl rfl ?_
  show dd_Rn (e + 15) m_X11_thrown (0, [.ref 148], [], sM Ln I2 L2 c1 s1) _
  refine dd_Rn.retK 2 (pc := 4) (ls := [.ref 148]) (st := [.int (I2 148 0)]) (M := sM Ln I2 L2 c1 s1) (o := (none, .int (I2 148 0), sM Ln I2 L2 c1 s1)) rfl rfl (dd_Af.ret rfl ?_) (by omega)
  show dd_Rn (e + 16) m_L_law_ (1533, [.ref 3000000, .ref 0, .ref 148, .ref 163, .int a4, .int x1, .int x2], [.int (I2 148 0)], sM Ln I2 L2 c1 s1) _
  refine dd_Rn.ite 1 (c := I2 148 0 = x1) (A := (1540, [.ref 3000000, .ref 0, .ref 148, .ref 163, .int a4, .int x1, .int x2], [], sM Ln I2 L2 c1 s1)) (B := (1538, [.ref 3000000, .ref 0, .ref 148, .ref 163, .int a4, .int x1, .int x2], [], sM Ln I2 L2 c1 s1)) rfl (fun hc => ?_) (fun hc => ?_) (by omega)
  · have h := h.1 hc
    refine dd_Rn.ite 1 (c := x1 = 0) (A := (1545, [.ref 3000000, .ref 0, .ref 148, .ref 163, .int a4, .int x1, .int x2], [], sM Ln I2 L2 c1 s1)) (B := (1557, [.ref 3000000, .ref 0, .ref 148, .ref 163, .int a4, .int x1, .int x2], [], sM Ln I2 L2 c1 s1)) rfl (fun hc => ?_) (fun hc => ?_) (by omega)
    · have h := h.1 hc
      refine dd_Rn.ite 6 (c := lg_cmp (L2 163 0) x2.toInt64 = 0) (A := (1557, [.ref 3000000, .ref 0, .ref 148, .ref 163, .int a4, .int x1, .int x2], [], sM Ln I2 L2 c1 s1)) (B := (1555, [.ref 3000000, .ref 0, .ref 148, .ref 163, .int a4, .int x1, .int x2], [], sM Ln I2 L2 c1 s1)) rfl (fun hc => ?_) (fun hc => ?_) (by omega)
      · have h := h.1 hc
        exact dd_Rn.go 0 (cf' := (1557, [.ref 3000000, .ref 0, .ref 148, .ref 163, .int a4, .int x1, .int x2], [], sM Ln I2 L2 c1 s1)) rfl h (by omega)
      · have h := h.2 hc
        exact dd_Rn.retK 1 (pc := 1556) (ls := [.ref 3000000, .ref 0, .ref 148, .ref 163, .int a4, .int x1, .int x2]) (st := [.int 0]) (M := sM Ln I2 L2 c1 s1) (o := (none, .int 0, sM Ln I2 L2 c1 s1)) rfl rfl h (by omega)
    · have h := h.2 hc
      exact dd_Rn.go 0 (cf' := (1557, [.ref 3000000, .ref 0, .ref 148, .ref 163, .int a4, .int x1, .int x2], [], sM Ln I2 L2 c1 s1)) rfl h (by omega)
  · have h := h.2 hc
    exact dd_Rn.retK 1 (pc := 1539) (ls := [.ref 3000000, .ref 0, .ref 148, .ref 163, .int a4, .int x1, .int x2]) (st := [.int 0]) (M := sM Ln I2 L2 c1 s1) (o := (none, .int 0, sM Ln I2 L2 c1 s1)) rfl rfl h (by omega)

theorem w_L_law__1557 {Ln d c s : Nat} {I : Nat → Nat → Int32} {L : Nat → Nat → Int64} {Q : dd_O → Prop} {a4 a5 a6 : Int32} (hd : 28 ≤ d) (h : dd_Rn d m_L_law_ (3009, [.ref 3000000, .ref 0, .ref 148, .ref 163, .int a4, .int a5, .int a6], [], sM Ln I L c s) Q) : dd_Rn d m_L_law_ (1557, [.ref 3000000, .ref 0, .ref 148, .ref 163, .int a4, .int a5, .int a6], [], sM Ln I L c s) Q := by
  obtain ⟨e, rfl⟩ : ∃ e, d = e + 16 := ⟨d - 16, by omega⟩
  exact dd_Rn.go 1 (cf' := (3009, [.ref 3000000, .ref 0, .ref 148, .ref 163, .int a4, .int a5, .int a6], [], sM Ln I L c s)) rfl h (by omega)

theorem w_L_law__1560 {Ln d c s : Nat} {I : Nat → Nat → Int32} {L : Nat → Nat → Int64} {Q : dd_O → Prop} {a4 : Int32} {a5 a6 : Value} (hd : 28 ≤ d) (h : ((0 ≤ a4 + 1 ∧ tn (a4 + 1) < Ln) ∧ dd_Ev (d - 1) m_L_first [.ref 0, .int (I 3000000 (tn (a4 + 1))), .ref 163] (sM Ln I L c s) (dd_RJ Ln c s (fun x1 I1 L1 c1 s1 => ((0 ≤ a4 + 1 ∧ tn (a4 + 1) < Ln) ∧ dd_Ev (d - 1) m_X11_first [.ref 148, .int (I1 3000000 (tn (a4 + 1)))] (sM Ln I1 L1 c1 s1) (dd_RI Ln c1 s1 (fun x2 I2 L2 => ((I2 148 0 = x1 → ((x1 = 0 → ((lg_cmp (L2 163 0) x2.toInt64 = 0 → dd_Rn d m_L_law_ (1613, [.ref 3000000, .ref 0, .ref 148, .ref 163, .int a4, .int x1, .int x2], [], sM Ln I2 L2 c1 s1) Q) ∧ (¬ (lg_cmp (L2 163 0) x2.toInt64 = 0) → Q (none, .int 0, sM Ln I2 L2 c1 s1)))) ∧ (¬ (x1 = 0) → dd_Rn d m_L_law_ (1613, [.ref 3000000, .ref 0, .ref 148, .ref 163, .int a4, .int x1, .int x2], [], sM Ln I2 L2 c1 s1) Q))) ∧ (¬ (I2 148 0 = x1) → Q (none, .int 0, sM Ln I2 L2 c1 s1)))))))))) : dd_Rn d m_L_law_ (1560, [.ref 3000000, .ref 0, .ref 148, .ref 163, .int a4, a5, a6], [], sM Ln I L c s) Q := by
  obtain ⟨e, rfl⟩ : ∃ e, d = e + 16 := ⟨d - 16, by omega⟩
  obtain ⟨hc, h⟩ := h
  refine dd_Rn.go 5 (cf' := (1566, [.ref 3000000, .ref 0, .ref 148, .ref 163, .int a4, a5, a6], [.int (a4 + 1), .ref 3000000, .ref 0], sM Ln I L c s)) rfl ?_ (by omega)
  refine dd_Rn.ci (fun j0 => (1566, [.ref 3000000, .ref 0, .ref 148, .ref 163, .int a4, a5, a6], [.int j0, .ref 3000000, .ref 0], sM Ln I L c s)) (fun j0 => (1567, [.ref 3000000, .ref 0, .ref 148, .ref 163, .int a4, a5, a6], [.int (I 3000000 (tn j0)), .ref 0], sM Ln I L c s)) (fun j0 => 0 ≤ j0 ∧ tn j0 < Ln) (a4 + 1) (fun j0 hc h => dd_Rn.chk 0 (c := 0 ≤ j0 ∧ tn j0 < Ln) (A := (1567, [.ref 3000000, .ref 0, .ref 148, .ref 163, .int a4, a5, a6], [.int (I 3000000 (tn j0)), .ref 0], sM Ln I L c s)) rfl hc h (by omega)) hc ?_
  refine dd_Rn.se (cf := (1567, [.ref 3000000, .ref 0, .ref 148, .ref 163, .int a4, a5, a6], [.int (I 3000000 (tn (a4 + 1))), .ref 0], sM Ln I L c s)) ?_
  refine dd_Rn.cJ 1 (pc := 1568) (ls := [.ref 3000000, .ref 0, .ref 148, .ref 163, .int a4, a5, a6]) (st := [.ref 163, .int (I 3000000 (tn (a4 + 1))), .ref 0]) (x := m_L_first) (as := [.ref 0, .int (I 3000000 (tn (a4 + 1))), .ref 163]) (rest := []) rfl rfl rfl rfl h ?_
  intro x1 I1 L1 c1 s1 h
  show dd_Rn (e + 16) m_L_law_ (1571, [.ref 3000000, .ref 0, .ref 148, .ref 163, .int a4, a5, a6], [.int x1], sM Ln I1 L1 c1 s1) _
  obtain ⟨hc, h⟩ := h
  refine dd_Rn.go 6 (cf' := (1579, [.ref 3000000, .ref 0, .ref 148, .ref 163, .int a4, .int x1, a6], [.int (a4 + 1), .ref 3000000, .ref 148], sM Ln I1 L1 c1 s1)) rfl ?_ (by omega)
  refine dd_Rn.ci (fun j0 => (1579, [.ref 3000000, .ref 0, .ref 148, .ref 163, .int a4, .int x1, a6], [.int j0, .ref 3000000, .ref 148], sM Ln I1 L1 c1 s1)) (fun j0 => (1580, [.ref 3000000, .ref 0, .ref 148, .ref 163, .int a4, .int x1, a6], [.int (I1 3000000 (tn j0)), .ref 148], sM Ln I1 L1 c1 s1)) (fun j0 => 0 ≤ j0 ∧ tn j0 < Ln) (a4 + 1) (fun j0 hc h => dd_Rn.chk 0 (c := 0 ≤ j0 ∧ tn j0 < Ln) (A := (1580, [.ref 3000000, .ref 0, .ref 148, .ref 163, .int a4, .int x1, a6], [.int (I1 3000000 (tn j0)), .ref 148], sM Ln I1 L1 c1 s1)) rfl hc h (by omega)) hc ?_
  refine dd_Rn.se (cf := (1580, [.ref 3000000, .ref 0, .ref 148, .ref 163, .int a4, .int x1, a6], [.int (I1 3000000 (tn (a4 + 1))), .ref 148], sM Ln I1 L1 c1 s1)) ?_
  refine dd_Rn.cI 0 (pc := 1580) (ls := [.ref 3000000, .ref 0, .ref 148, .ref 163, .int a4, .int x1, a6]) (st := [.int (I1 3000000 (tn (a4 + 1))), .ref 148]) (x := m_X11_first) (as := [.ref 148, .int (I1 3000000 (tn (a4 + 1)))]) (rest := []) rfl rfl rfl rfl h ?_
  intro x2 I2 L2 h
  show dd_Rn (e + 16) m_L_law_ (1583, [.ref 3000000, .ref 0, .ref 148, .ref 163, .int a4, .int x1, a6], [.int x2], sM Ln I2 L2 c1 s1) _
  refine dd_Rn.sub 2 (pc := 1586) (ls := [.ref 3000000, .ref 0, .ref 148, .ref 163, .int a4, .int x1, .int x2]) (st := [.ref 148]) (M := sM Ln I2 L2 c1 s1) (x := m_X11_thrown) (as := [.ref 148]) (rest := []) rfl rfl rfl rfl ?_
  show dd_Rn (e + 15) m_X11_thrown (0, [.ref 148], [], sM Ln I2 L2 c1 s1) _
  refine dd_Rn.retK 2 (pc := 4) (ls := [.ref 148]) (st := [.int (I2 148 0)]) (M := sM Ln I2 L2 c1 s1) (o := (none, .int (I2 148 0), sM Ln I2 L2 c1 s1)) rfl rfl (dd_Af.ret rfl ?_) (by omega)
  show dd_Rn (e + 16) m_L_law_ (1589, [.ref 3000000, .ref 0, .ref 148, .ref 163, .int a4, .int x1, .int x2], [.int (I2 148 0)], sM Ln I2 L2 c1 s1) _
  refine dd_Rn.ite 1 (c := I2 148 0 = x1) (A := (1596, [.ref 3000000, .ref 0, .ref 148, .ref 163, .int a4, .int x1, .int x2], [], sM Ln I2 L2 c1 s1)) (B := (1594, [.ref 3000000, .ref 0, .ref 148, .ref 163, .int a4, .int x1, .int x2], [], sM Ln I2 L2 c1 s1)) rfl (fun hc => ?_) (fun hc => ?_) (by omega)
  · have h := h.1 hc
    refine dd_Rn.ite 1 (c := x1 = 0) (A := (1601, [.ref 3000000, .ref 0, .ref 148, .ref 163, .int a4, .int x1, .int x2], [], sM Ln I2 L2 c1 s1)) (B := (1613, [.ref 3000000, .ref 0, .ref 148, .ref 163, .int a4, .int x1, .int x2], [], sM Ln I2 L2 c1 s1)) rfl (fun hc => ?_) (fun hc => ?_) (by omega)
    · have h := h.1 hc
      refine dd_Rn.ite 6 (c := lg_cmp (L2 163 0) x2.toInt64 = 0) (A := (1613, [.ref 3000000, .ref 0, .ref 148, .ref 163, .int a4, .int x1, .int x2], [], sM Ln I2 L2 c1 s1)) (B := (1611, [.ref 3000000, .ref 0, .ref 148, .ref 163, .int a4, .int x1, .int x2], [], sM Ln I2 L2 c1 s1)) rfl (fun hc => ?_) (fun hc => ?_) (by omega)
      · have h := h.1 hc
        exact dd_Rn.go 0 (cf' := (1613, [.ref 3000000, .ref 0, .ref 148, .ref 163, .int a4, .int x1, .int x2], [], sM Ln I2 L2 c1 s1)) rfl h (by omega)
      · have h := h.2 hc
        exact dd_Rn.retK 1 (pc := 1612) (ls := [.ref 3000000, .ref 0, .ref 148, .ref 163, .int a4, .int x1, .int x2]) (st := [.int 0]) (M := sM Ln I2 L2 c1 s1) (o := (none, .int 0, sM Ln I2 L2 c1 s1)) rfl rfl h (by omega)
    · have h := h.2 hc
      exact dd_Rn.go 0 (cf' := (1613, [.ref 3000000, .ref 0, .ref 148, .ref 163, .int a4, .int x1, .int x2], [], sM Ln I2 L2 c1 s1)) rfl h (by omega)
  · have h := h.2 hc
    exact dd_Rn.retK 1 (pc := 1595) (ls := [.ref 3000000, .ref 0, .ref 148, .ref 163, .int a4, .int x1, .int x2]) (st := [.int 0]) (M := sM Ln I2 L2 c1 s1) (o := (none, .int 0, sM Ln I2 L2 c1 s1)) rfl rfl h (by omega)

theorem w_L_law__1613 {Ln d c s : Nat} {I : Nat → Nat → Int32} {L : Nat → Nat → Int64} {Q : dd_O → Prop} {a4 a5 a6 : Int32} (hd : 28 ≤ d) (h : dd_Rn d m_L_law_ (3009, [.ref 3000000, .ref 0, .ref 148, .ref 163, .int a4, .int a5, .int a6], [], sM Ln I L c s) Q) : dd_Rn d m_L_law_ (1613, [.ref 3000000, .ref 0, .ref 148, .ref 163, .int a4, .int a5, .int a6], [], sM Ln I L c s) Q := by
  obtain ⟨e, rfl⟩ : ∃ e, d = e + 16 := ⟨d - 16, by omega⟩
  exact dd_Rn.go 1 (cf' := (3009, [.ref 3000000, .ref 0, .ref 148, .ref 163, .int a4, .int a5, .int a6], [], sM Ln I L c s)) rfl h (by omega)

theorem w_L_law__1616 {Ln d c s : Nat} {I : Nat → Nat → Int32} {L : Nat → Nat → Int64} {Q : dd_O → Prop} {a4 : Int32} {a5 a6 : Value} (hd : 28 ≤ d) (h : ((0 ≤ a4 + 1 ∧ tn (a4 + 1) < Ln) ∧ ((0 ≤ a4 + 2 ∧ tn (a4 + 2) < Ln) ∧ dd_Ev (d - 1) m_L_can [.ref 0, .int (I 3000000 (tn (a4 + 1))), .int (I 3000000 (tn (a4 + 2))), .ref 163] (sM Ln I L c s) (dd_RJ Ln c s (fun x1 I1 L1 c1 s1 => ((0 ≤ a4 + 1 ∧ tn (a4 + 1) < Ln) ∧ ((0 ≤ a4 + 2 ∧ tn (a4 + 2) < Ln) ∧ dd_Ev (d - 1) m_X11_can [.ref 148, .int (I1 3000000 (tn (a4 + 1))), .int (I1 3000000 (tn (a4 + 2)))] (sM Ln I1 L1 c1 s1) (dd_RI Ln c1 s1 (fun x2 I2 L2 => ((I2 148 0 = x1 → ((x1 = 0 → ((lg_cmp (L2 163 0) x2.toInt64 = 0 → dd_Rn d m_L_law_ (1681, [.ref 3000000, .ref 0, .ref 148, .ref 163, .int a4, .int x1, .int x2], [], sM Ln I2 L2 c1 s1) Q) ∧ (¬ (lg_cmp (L2 163 0) x2.toInt64 = 0) → Q (none, .int 0, sM Ln I2 L2 c1 s1)))) ∧ (¬ (x1 = 0) → dd_Rn d m_L_law_ (1681, [.ref 3000000, .ref 0, .ref 148, .ref 163, .int a4, .int x1, .int x2], [], sM Ln I2 L2 c1 s1) Q))) ∧ (¬ (I2 148 0 = x1) → Q (none, .int 0, sM Ln I2 L2 c1 s1)))))))))))) : dd_Rn d m_L_law_ (1616, [.ref 3000000, .ref 0, .ref 148, .ref 163, .int a4, a5, a6], [], sM Ln I L c s) Q := by
  obtain ⟨e, rfl⟩ : ∃ e, d = e + 16 := ⟨d - 16, by omega⟩
  obtain ⟨hc, h⟩ := h
  refine dd_Rn.go 5 (cf' := (1622, [.ref 3000000, .ref 0, .ref 148, .ref 163, .int a4, a5, a6], [.int (a4 + 1), .ref 3000000, .ref 0], sM Ln I L c s)) rfl ?_ (by omega)
  refine dd_Rn.ci (fun j0 => (1622, [.ref 3000000, .ref 0, .ref 148, .ref 163, .int a4, a5, a6], [.int j0, .ref 3000000, .ref 0], sM Ln I L c s)) (fun j0 => (1623, [.ref 3000000, .ref 0, .ref 148, .ref 163, .int a4, a5, a6], [.int (I 3000000 (tn j0)), .ref 0], sM Ln I L c s)) (fun j0 => 0 ≤ j0 ∧ tn j0 < Ln) (a4 + 1) (fun j0 hc h => dd_Rn.chk 0 (c := 0 ≤ j0 ∧ tn j0 < Ln) (A := (1623, [.ref 3000000, .ref 0, .ref 148, .ref 163, .int a4, a5, a6], [.int (I 3000000 (tn j0)), .ref 0], sM Ln I L c s)) rfl hc h (by omega)) hc ?_
  refine dd_Rn.se (cf := (1623, [.ref 3000000, .ref 0, .ref 148, .ref 163, .int a4, a5, a6], [.int (I 3000000 (tn (a4 + 1))), .ref 0], sM Ln I L c s)) ?_
  obtain ⟨hc, h⟩ := h
  refine dd_Rn.go 4 (cf' := (1628, [.ref 3000000, .ref 0, .ref 148, .ref 163, .int a4, a5, a6], [.int (a4 + 2), .ref 3000000, .int (I 3000000 (tn (a4 + 1))), .ref 0], sM Ln I L c s)) rfl ?_ (by omega)
  refine dd_Rn.ci (fun j0 => (1628, [.ref 3000000, .ref 0, .ref 148, .ref 163, .int a4, a5, a6], [.int j0, .ref 3000000, .int (I 3000000 (tn (a4 + 1))), .ref 0], sM Ln I L c s)) (fun j0 => (1629, [.ref 3000000, .ref 0, .ref 148, .ref 163, .int a4, a5, a6], [.int (I 3000000 (tn j0)), .int (I 3000000 (tn (a4 + 1))), .ref 0], sM Ln I L c s)) (fun j0 => 0 ≤ j0 ∧ tn j0 < Ln) (a4 + 2) (fun j0 hc h => dd_Rn.chk 0 (c := 0 ≤ j0 ∧ tn j0 < Ln) (A := (1629, [.ref 3000000, .ref 0, .ref 148, .ref 163, .int a4, a5, a6], [.int (I 3000000 (tn j0)), .int (I 3000000 (tn (a4 + 1))), .ref 0], sM Ln I L c s)) rfl hc h (by omega)) hc ?_
  refine dd_Rn.se (cf := (1629, [.ref 3000000, .ref 0, .ref 148, .ref 163, .int a4, a5, a6], [.int (I 3000000 (tn (a4 + 2))), .int (I 3000000 (tn (a4 + 1))), .ref 0], sM Ln I L c s)) ?_
  refine dd_Rn.cJ 1 (pc := 1630) (ls := [.ref 3000000, .ref 0, .ref 148, .ref 163, .int a4, a5, a6]) (st := [.ref 163, .int (I 3000000 (tn (a4 + 2))), .int (I 3000000 (tn (a4 + 1))), .ref 0]) (x := m_L_can) (as := [.ref 0, .int (I 3000000 (tn (a4 + 1))), .int (I 3000000 (tn (a4 + 2))), .ref 163]) (rest := []) rfl rfl rfl rfl h ?_
  intro x1 I1 L1 c1 s1 h
  show dd_Rn (e + 16) m_L_law_ (1633, [.ref 3000000, .ref 0, .ref 148, .ref 163, .int a4, a5, a6], [.int x1], sM Ln I1 L1 c1 s1) _
  obtain ⟨hc, h⟩ := h
  refine dd_Rn.go 6 (cf' := (1641, [.ref 3000000, .ref 0, .ref 148, .ref 163, .int a4, .int x1, a6], [.int (a4 + 1), .ref 3000000, .ref 148], sM Ln I1 L1 c1 s1)) rfl ?_ (by omega)
  refine dd_Rn.ci (fun j0 => (1641, [.ref 3000000, .ref 0, .ref 148, .ref 163, .int a4, .int x1, a6], [.int j0, .ref 3000000, .ref 148], sM Ln I1 L1 c1 s1)) (fun j0 => (1642, [.ref 3000000, .ref 0, .ref 148, .ref 163, .int a4, .int x1, a6], [.int (I1 3000000 (tn j0)), .ref 148], sM Ln I1 L1 c1 s1)) (fun j0 => 0 ≤ j0 ∧ tn j0 < Ln) (a4 + 1) (fun j0 hc h => dd_Rn.chk 0 (c := 0 ≤ j0 ∧ tn j0 < Ln) (A := (1642, [.ref 3000000, .ref 0, .ref 148, .ref 163, .int a4, .int x1, a6], [.int (I1 3000000 (tn j0)), .ref 148], sM Ln I1 L1 c1 s1)) rfl hc h (by omega)) hc ?_
  refine dd_Rn.se (cf := (1642, [.ref 3000000, .ref 0, .ref 148, .ref 163, .int a4, .int x1, a6], [.int (I1 3000000 (tn (a4 + 1))), .ref 148], sM Ln I1 L1 c1 s1)) ?_
  obtain ⟨hc, h⟩ := h
  refine dd_Rn.go 4 (cf' := (1647, [.ref 3000000, .ref 0, .ref 148, .ref 163, .int a4, .int x1, a6], [.int (a4 + 2), .ref 3000000, .int (I1 3000000 (tn (a4 + 1))), .ref 148], sM Ln I1 L1 c1 s1)) rfl ?_ (by omega)
  refine dd_Rn.ci (fun j0 => (1647, [.ref 3000000, .ref 0, .ref 148, .ref 163, .int a4, .int x1, a6], [.int j0, .ref 3000000, .int (I1 3000000 (tn (a4 + 1))), .ref 148], sM Ln I1 L1 c1 s1)) (fun j0 => (1648, [.ref 3000000, .ref 0, .ref 148, .ref 163, .int a4, .int x1, a6], [.int (I1 3000000 (tn j0)), .int (I1 3000000 (tn (a4 + 1))), .ref 148], sM Ln I1 L1 c1 s1)) (fun j0 => 0 ≤ j0 ∧ tn j0 < Ln) (a4 + 2) (fun j0 hc h => dd_Rn.chk 0 (c := 0 ≤ j0 ∧ tn j0 < Ln) (A := (1648, [.ref 3000000, .ref 0, .ref 148, .ref 163, .int a4, .int x1, a6], [.int (I1 3000000 (tn j0)), .int (I1 3000000 (tn (a4 + 1))), .ref 148], sM Ln I1 L1 c1 s1)) rfl hc h (by omega)) hc ?_
  refine dd_Rn.se (cf := (1648, [.ref 3000000, .ref 0, .ref 148, .ref 163, .int a4, .int x1, a6], [.int (I1 3000000 (tn (a4 + 2))), .int (I1 3000000 (tn (a4 + 1))), .ref 148], sM Ln I1 L1 c1 s1)) ?_
  refine dd_Rn.cI 0 (pc := 1648) (ls := [.ref 3000000, .ref 0, .ref 148, .ref 163, .int a4, .int x1, a6]) (st := [.int (I1 3000000 (tn (a4 + 2))), .int (I1 3000000 (tn (a4 + 1))), .ref 148]) (x := m_X11_can) (as := [.ref 148, .int (I1 3000000 (tn (a4 + 1))), .int (I1 3000000 (tn (a4 + 2)))]) (rest := []) rfl rfl rfl rfl h ?_
  intro x2 I2 L2 h
  show dd_Rn (e + 16) m_L_law_ (1651, [.ref 3000000, .ref 0, .ref 148, .ref 163, .int a4, .int x1, a6], [.int x2], sM Ln I2 L2 c1 s1) _
  refine dd_Rn.sub 2 (pc := 1654) (ls := [.ref 3000000, .ref 0, .ref 148, .ref 163, .int a4, .int x1, .int x2]) (st := [.ref 148]) (M := sM Ln I2 L2 c1 s1) (x := m_X11_thrown) (as := [.ref 148]) (rest := []) rfl rfl rfl rfl ?_
  show dd_Rn (e + 15) m_X11_thrown (0, [.ref 148], [], sM Ln I2 L2 c1 s1) _
  refine dd_Rn.retK 2 (pc := 4) (ls := [.ref 148]) (st := [.int (I2 148 0)]) (M := sM Ln I2 L2 c1 s1) (o := (none, .int (I2 148 0), sM Ln I2 L2 c1 s1)) rfl rfl (dd_Af.ret rfl ?_) (by omega)
  show dd_Rn (e + 16) m_L_law_ (1657, [.ref 3000000, .ref 0, .ref 148, .ref 163, .int a4, .int x1, .int x2], [.int (I2 148 0)], sM Ln I2 L2 c1 s1) _
  refine dd_Rn.ite 1 (c := I2 148 0 = x1) (A := (1664, [.ref 3000000, .ref 0, .ref 148, .ref 163, .int a4, .int x1, .int x2], [], sM Ln I2 L2 c1 s1)) (B := (1662, [.ref 3000000, .ref 0, .ref 148, .ref 163, .int a4, .int x1, .int x2], [], sM Ln I2 L2 c1 s1)) rfl (fun hc => ?_) (fun hc => ?_) (by omega)
  · have h := h.1 hc
    refine dd_Rn.ite 1 (c := x1 = 0) (A := (1669, [.ref 3000000, .ref 0, .ref 148, .ref 163, .int a4, .int x1, .int x2], [], sM Ln I2 L2 c1 s1)) (B := (1681, [.ref 3000000, .ref 0, .ref 148, .ref 163, .int a4, .int x1, .int x2], [], sM Ln I2 L2 c1 s1)) rfl (fun hc => ?_) (fun hc => ?_) (by omega)
    · have h := h.1 hc
      refine dd_Rn.ite 6 (c := lg_cmp (L2 163 0) x2.toInt64 = 0) (A := (1681, [.ref 3000000, .ref 0, .ref 148, .ref 163, .int a4, .int x1, .int x2], [], sM Ln I2 L2 c1 s1)) (B := (1679, [.ref 3000000, .ref 0, .ref 148, .ref 163, .int a4, .int x1, .int x2], [], sM Ln I2 L2 c1 s1)) rfl (fun hc => ?_) (fun hc => ?_) (by omega)
      · have h := h.1 hc
        exact dd_Rn.go 0 (cf' := (1681, [.ref 3000000, .ref 0, .ref 148, .ref 163, .int a4, .int x1, .int x2], [], sM Ln I2 L2 c1 s1)) rfl h (by omega)
      · have h := h.2 hc
        exact dd_Rn.retK 1 (pc := 1680) (ls := [.ref 3000000, .ref 0, .ref 148, .ref 163, .int a4, .int x1, .int x2]) (st := [.int 0]) (M := sM Ln I2 L2 c1 s1) (o := (none, .int 0, sM Ln I2 L2 c1 s1)) rfl rfl h (by omega)
    · have h := h.2 hc
      exact dd_Rn.go 0 (cf' := (1681, [.ref 3000000, .ref 0, .ref 148, .ref 163, .int a4, .int x1, .int x2], [], sM Ln I2 L2 c1 s1)) rfl h (by omega)
  · have h := h.2 hc
    exact dd_Rn.retK 1 (pc := 1663) (ls := [.ref 3000000, .ref 0, .ref 148, .ref 163, .int a4, .int x1, .int x2]) (st := [.int 0]) (M := sM Ln I2 L2 c1 s1) (o := (none, .int 0, sM Ln I2 L2 c1 s1)) rfl rfl h (by omega)

theorem w_L_law__1681 {Ln d c s : Nat} {I : Nat → Nat → Int32} {L : Nat → Nat → Int64} {Q : dd_O → Prop} {a4 a5 a6 : Int32} (hd : 28 ≤ d) (h : dd_Rn d m_L_law_ (3009, [.ref 3000000, .ref 0, .ref 148, .ref 163, .int a4, .int a5, .int a6], [], sM Ln I L c s) Q) : dd_Rn d m_L_law_ (1681, [.ref 3000000, .ref 0, .ref 148, .ref 163, .int a4, .int a5, .int a6], [], sM Ln I L c s) Q := by
  obtain ⟨e, rfl⟩ : ∃ e, d = e + 16 := ⟨d - 16, by omega⟩
  exact dd_Rn.go 1 (cf' := (3009, [.ref 3000000, .ref 0, .ref 148, .ref 163, .int a4, .int a5, .int a6], [], sM Ln I L c s)) rfl h (by omega)

theorem w_L_law__1684 {Ln d c s : Nat} {I : Nat → Nat → Int32} {L : Nat → Nat → Int64} {Q : dd_O → Prop} {a4 : Int32} {a5 a6 : Value} (hd : 28 ≤ d) (h : ((0 ≤ a4 + 1 ∧ tn (a4 + 1) < Ln) ∧ ((0 ≤ a4 + 2 ∧ tn (a4 + 2) < Ln) ∧ dd_Ev (d - 1) m_L_lost [.ref 0, .int (I 3000000 (tn (a4 + 1))), .int (I 3000000 (tn (a4 + 2))), .ref 163] (sM Ln I L c s) (dd_RJ Ln c s (fun x1 I1 L1 c1 s1 => ((0 ≤ a4 + 1 ∧ tn (a4 + 1) < Ln) ∧ ((0 ≤ a4 + 2 ∧ tn (a4 + 2) < Ln) ∧ dd_Ev (d - 1) m_X11_lost [.ref 148, .int (I1 3000000 (tn (a4 + 1))), .int (I1 3000000 (tn (a4 + 2)))] (sM Ln I1 L1 c1 s1) (dd_RI Ln c1 s1 (fun x2 I2 L2 => ((I2 148 0 = x1 → ((x1 = 0 → ((lg_cmp (L2 163 0) x2.toInt64 = 0 → dd_Rn d m_L_law_ (1749, [.ref 3000000, .ref 0, .ref 148, .ref 163, .int a4, .int x1, .int x2], [], sM Ln I2 L2 c1 s1) Q) ∧ (¬ (lg_cmp (L2 163 0) x2.toInt64 = 0) → Q (none, .int 0, sM Ln I2 L2 c1 s1)))) ∧ (¬ (x1 = 0) → dd_Rn d m_L_law_ (1749, [.ref 3000000, .ref 0, .ref 148, .ref 163, .int a4, .int x1, .int x2], [], sM Ln I2 L2 c1 s1) Q))) ∧ (¬ (I2 148 0 = x1) → Q (none, .int 0, sM Ln I2 L2 c1 s1)))))))))))) : dd_Rn d m_L_law_ (1684, [.ref 3000000, .ref 0, .ref 148, .ref 163, .int a4, a5, a6], [], sM Ln I L c s) Q := by
  obtain ⟨e, rfl⟩ : ∃ e, d = e + 16 := ⟨d - 16, by omega⟩
  obtain ⟨hc, h⟩ := h
  refine dd_Rn.go 5 (cf' := (1690, [.ref 3000000, .ref 0, .ref 148, .ref 163, .int a4, a5, a6], [.int (a4 + 1), .ref 3000000, .ref 0], sM Ln I L c s)) rfl ?_ (by omega)
  refine dd_Rn.ci (fun j0 => (1690, [.ref 3000000, .ref 0, .ref 148, .ref 163, .int a4, a5, a6], [.int j0, .ref 3000000, .ref 0], sM Ln I L c s)) (fun j0 => (1691, [.ref 3000000, .ref 0, .ref 148, .ref 163, .int a4, a5, a6], [.int (I 3000000 (tn j0)), .ref 0], sM Ln I L c s)) (fun j0 => 0 ≤ j0 ∧ tn j0 < Ln) (a4 + 1) (fun j0 hc h => dd_Rn.chk 0 (c := 0 ≤ j0 ∧ tn j0 < Ln) (A := (1691, [.ref 3000000, .ref 0, .ref 148, .ref 163, .int a4, a5, a6], [.int (I 3000000 (tn j0)), .ref 0], sM Ln I L c s)) rfl hc h (by omega)) hc ?_
  refine dd_Rn.se (cf := (1691, [.ref 3000000, .ref 0, .ref 148, .ref 163, .int a4, a5, a6], [.int (I 3000000 (tn (a4 + 1))), .ref 0], sM Ln I L c s)) ?_
  obtain ⟨hc, h⟩ := h
  refine dd_Rn.go 4 (cf' := (1696, [.ref 3000000, .ref 0, .ref 148, .ref 163, .int a4, a5, a6], [.int (a4 + 2), .ref 3000000, .int (I 3000000 (tn (a4 + 1))), .ref 0], sM Ln I L c s)) rfl ?_ (by omega)
  refine dd_Rn.ci (fun j0 => (1696, [.ref 3000000, .ref 0, .ref 148, .ref 163, .int a4, a5, a6], [.int j0, .ref 3000000, .int (I 3000000 (tn (a4 + 1))), .ref 0], sM Ln I L c s)) (fun j0 => (1697, [.ref 3000000, .ref 0, .ref 148, .ref 163, .int a4, a5, a6], [.int (I 3000000 (tn j0)), .int (I 3000000 (tn (a4 + 1))), .ref 0], sM Ln I L c s)) (fun j0 => 0 ≤ j0 ∧ tn j0 < Ln) (a4 + 2) (fun j0 hc h => dd_Rn.chk 0 (c := 0 ≤ j0 ∧ tn j0 < Ln) (A := (1697, [.ref 3000000, .ref 0, .ref 148, .ref 163, .int a4, a5, a6], [.int (I 3000000 (tn j0)), .int (I 3000000 (tn (a4 + 1))), .ref 0], sM Ln I L c s)) rfl hc h (by omega)) hc ?_
  refine dd_Rn.se (cf := (1697, [.ref 3000000, .ref 0, .ref 148, .ref 163, .int a4, a5, a6], [.int (I 3000000 (tn (a4 + 2))), .int (I 3000000 (tn (a4 + 1))), .ref 0], sM Ln I L c s)) ?_
  refine dd_Rn.cJ 1 (pc := 1698) (ls := [.ref 3000000, .ref 0, .ref 148, .ref 163, .int a4, a5, a6]) (st := [.ref 163, .int (I 3000000 (tn (a4 + 2))), .int (I 3000000 (tn (a4 + 1))), .ref 0]) (x := m_L_lost) (as := [.ref 0, .int (I 3000000 (tn (a4 + 1))), .int (I 3000000 (tn (a4 + 2))), .ref 163]) (rest := []) rfl rfl rfl rfl h ?_
  intro x1 I1 L1 c1 s1 h
  show dd_Rn (e + 16) m_L_law_ (1701, [.ref 3000000, .ref 0, .ref 148, .ref 163, .int a4, a5, a6], [.int x1], sM Ln I1 L1 c1 s1) _
  obtain ⟨hc, h⟩ := h
  refine dd_Rn.go 6 (cf' := (1709, [.ref 3000000, .ref 0, .ref 148, .ref 163, .int a4, .int x1, a6], [.int (a4 + 1), .ref 3000000, .ref 148], sM Ln I1 L1 c1 s1)) rfl ?_ (by omega)
  refine dd_Rn.ci (fun j0 => (1709, [.ref 3000000, .ref 0, .ref 148, .ref 163, .int a4, .int x1, a6], [.int j0, .ref 3000000, .ref 148], sM Ln I1 L1 c1 s1)) (fun j0 => (1710, [.ref 3000000, .ref 0, .ref 148, .ref 163, .int a4, .int x1, a6], [.int (I1 3000000 (tn j0)), .ref 148], sM Ln I1 L1 c1 s1)) (fun j0 => 0 ≤ j0 ∧ tn j0 < Ln) (a4 + 1) (fun j0 hc h => dd_Rn.chk 0 (c := 0 ≤ j0 ∧ tn j0 < Ln) (A := (1710, [.ref 3000000, .ref 0, .ref 148, .ref 163, .int a4, .int x1, a6], [.int (I1 3000000 (tn j0)), .ref 148], sM Ln I1 L1 c1 s1)) rfl hc h (by omega)) hc ?_
  refine dd_Rn.se (cf := (1710, [.ref 3000000, .ref 0, .ref 148, .ref 163, .int a4, .int x1, a6], [.int (I1 3000000 (tn (a4 + 1))), .ref 148], sM Ln I1 L1 c1 s1)) ?_
  obtain ⟨hc, h⟩ := h
  refine dd_Rn.go 4 (cf' := (1715, [.ref 3000000, .ref 0, .ref 148, .ref 163, .int a4, .int x1, a6], [.int (a4 + 2), .ref 3000000, .int (I1 3000000 (tn (a4 + 1))), .ref 148], sM Ln I1 L1 c1 s1)) rfl ?_ (by omega)
  refine dd_Rn.ci (fun j0 => (1715, [.ref 3000000, .ref 0, .ref 148, .ref 163, .int a4, .int x1, a6], [.int j0, .ref 3000000, .int (I1 3000000 (tn (a4 + 1))), .ref 148], sM Ln I1 L1 c1 s1)) (fun j0 => (1716, [.ref 3000000, .ref 0, .ref 148, .ref 163, .int a4, .int x1, a6], [.int (I1 3000000 (tn j0)), .int (I1 3000000 (tn (a4 + 1))), .ref 148], sM Ln I1 L1 c1 s1)) (fun j0 => 0 ≤ j0 ∧ tn j0 < Ln) (a4 + 2) (fun j0 hc h => dd_Rn.chk 0 (c := 0 ≤ j0 ∧ tn j0 < Ln) (A := (1716, [.ref 3000000, .ref 0, .ref 148, .ref 163, .int a4, .int x1, a6], [.int (I1 3000000 (tn j0)), .int (I1 3000000 (tn (a4 + 1))), .ref 148], sM Ln I1 L1 c1 s1)) rfl hc h (by omega)) hc ?_
  refine dd_Rn.se (cf := (1716, [.ref 3000000, .ref 0, .ref 148, .ref 163, .int a4, .int x1, a6], [.int (I1 3000000 (tn (a4 + 2))), .int (I1 3000000 (tn (a4 + 1))), .ref 148], sM Ln I1 L1 c1 s1)) ?_
  refine dd_Rn.cI 0 (pc := 1716) (ls := [.ref 3000000, .ref 0, .ref 148, .ref 163, .int a4, .int x1, a6]) (st := [.int (I1 3000000 (tn (a4 + 2))), .int (I1 3000000 (tn (a4 + 1))), .ref 148]) (x := m_X11_lost) (as := [.ref 148, .int (I1 3000000 (tn (a4 + 1))), .int (I1 3000000 (tn (a4 + 2)))]) (rest := []) rfl rfl rfl rfl h ?_
  intro x2 I2 L2 h
  show dd_Rn (e + 16) m_L_law_ (1719, [.ref 3000000, .ref 0, .ref 148, .ref 163, .int a4, .int x1, a6], [.int x2], sM Ln I2 L2 c1 s1) _
  refine dd_Rn.sub 2 (pc := 1722) (ls := [.ref 3000000, .ref 0, .ref 148, .ref 163, .int a4, .int x1, .int x2]) (st := [.ref 148]) (M := sM Ln I2 L2 c1 s1) (x := m_X11_thrown) (as := [.ref 148]) (rest := []) rfl rfl rfl rfl ?_
  show dd_Rn (e + 15) m_X11_thrown (0, [.ref 148], [], sM Ln I2 L2 c1 s1) _
  refine dd_Rn.retK 2 (pc := 4) (ls := [.ref 148]) (st := [.int (I2 148 0)]) (M := sM Ln I2 L2 c1 s1) (o := (none, .int (I2 148 0), sM Ln I2 L2 c1 s1)) rfl rfl (dd_Af.ret rfl ?_) (by omega)
  show dd_Rn (e + 16) m_L_law_ (1725, [.ref 3000000, .ref 0, .ref 148, .ref 163, .int a4, .int x1, .int x2], [.int (I2 148 0)], sM Ln I2 L2 c1 s1) _
  refine dd_Rn.ite 1 (c := I2 148 0 = x1) (A := (1732, [.ref 3000000, .ref 0, .ref 148, .ref 163, .int a4, .int x1, .int x2], [], sM Ln I2 L2 c1 s1)) (B := (1730, [.ref 3000000, .ref 0, .ref 148, .ref 163, .int a4, .int x1, .int x2], [], sM Ln I2 L2 c1 s1)) rfl (fun hc => ?_) (fun hc => ?_) (by omega)
  · have h := h.1 hc
    refine dd_Rn.ite 1 (c := x1 = 0) (A := (1737, [.ref 3000000, .ref 0, .ref 148, .ref 163, .int a4, .int x1, .int x2], [], sM Ln I2 L2 c1 s1)) (B := (1749, [.ref 3000000, .ref 0, .ref 148, .ref 163, .int a4, .int x1, .int x2], [], sM Ln I2 L2 c1 s1)) rfl (fun hc => ?_) (fun hc => ?_) (by omega)
    · have h := h.1 hc
      refine dd_Rn.ite 6 (c := lg_cmp (L2 163 0) x2.toInt64 = 0) (A := (1749, [.ref 3000000, .ref 0, .ref 148, .ref 163, .int a4, .int x1, .int x2], [], sM Ln I2 L2 c1 s1)) (B := (1747, [.ref 3000000, .ref 0, .ref 148, .ref 163, .int a4, .int x1, .int x2], [], sM Ln I2 L2 c1 s1)) rfl (fun hc => ?_) (fun hc => ?_) (by omega)
      · have h := h.1 hc
        exact dd_Rn.go 0 (cf' := (1749, [.ref 3000000, .ref 0, .ref 148, .ref 163, .int a4, .int x1, .int x2], [], sM Ln I2 L2 c1 s1)) rfl h (by omega)
      · have h := h.2 hc
        exact dd_Rn.retK 1 (pc := 1748) (ls := [.ref 3000000, .ref 0, .ref 148, .ref 163, .int a4, .int x1, .int x2]) (st := [.int 0]) (M := sM Ln I2 L2 c1 s1) (o := (none, .int 0, sM Ln I2 L2 c1 s1)) rfl rfl h (by omega)
    · have h := h.2 hc
      exact dd_Rn.go 0 (cf' := (1749, [.ref 3000000, .ref 0, .ref 148, .ref 163, .int a4, .int x1, .int x2], [], sM Ln I2 L2 c1 s1)) rfl h (by omega)
  · have h := h.2 hc
    exact dd_Rn.retK 1 (pc := 1731) (ls := [.ref 3000000, .ref 0, .ref 148, .ref 163, .int a4, .int x1, .int x2]) (st := [.int 0]) (M := sM Ln I2 L2 c1 s1) (o := (none, .int 0, sM Ln I2 L2 c1 s1)) rfl rfl h (by omega)

theorem w_L_law__1749 {Ln d c s : Nat} {I : Nat → Nat → Int32} {L : Nat → Nat → Int64} {Q : dd_O → Prop} {a4 a5 a6 : Int32} (hd : 28 ≤ d) (h : dd_Rn d m_L_law_ (3009, [.ref 3000000, .ref 0, .ref 148, .ref 163, .int a4, .int a5, .int a6], [], sM Ln I L c s) Q) : dd_Rn d m_L_law_ (1749, [.ref 3000000, .ref 0, .ref 148, .ref 163, .int a4, .int a5, .int a6], [], sM Ln I L c s) Q := by
  obtain ⟨e, rfl⟩ : ∃ e, d = e + 16 := ⟨d - 16, by omega⟩
  exact dd_Rn.go 1 (cf' := (3009, [.ref 3000000, .ref 0, .ref 148, .ref 163, .int a4, .int a5, .int a6], [], sM Ln I L c s)) rfl h (by omega)

theorem w_L_law__1752 {Ln d c s : Nat} {I : Nat → Nat → Int32} {L : Nat → Nat → Int64} {Q : dd_O → Prop} {a4 : Int32} {a5 a6 : Value} (hd : 28 ≤ d) (h : ((0 ≤ a4 + 1 ∧ tn (a4 + 1) < Ln) ∧ ((I 3000000 (tn (a4 + 1)) = 0 → dd_Rn d m_L_law_ (1767, [.ref 3000000, .ref 0, .ref 148, .ref 163, .int a4, a5, a6], [.int 0, .ref 0], sM Ln I L c s) Q) ∧ (¬ (I 3000000 (tn (a4 + 1)) = 0) → dd_Rn d m_L_law_ (1767, [.ref 3000000, .ref 0, .ref 148, .ref 163, .int a4, a5, a6], [.int 1, .ref 0], sM Ln I L c s) Q)))) : dd_Rn d m_L_law_ (1752, [.ref 3000000, .ref 0, .ref 148, .ref 163, .int a4, a5, a6], [], sM Ln I L c s) Q := by
  obtain ⟨e, rfl⟩ : ∃ e, d = e + 16 := ⟨d - 16, by omega⟩
  obtain ⟨hc, h⟩ := h
  refine dd_Rn.go 5 (cf' := (1758, [.ref 3000000, .ref 0, .ref 148, .ref 163, .int a4, a5, a6], [.int (a4 + 1), .ref 3000000, .ref 0], sM Ln I L c s)) rfl ?_ (by omega)
  refine dd_Rn.ci (fun j0 => (1758, [.ref 3000000, .ref 0, .ref 148, .ref 163, .int a4, a5, a6], [.int j0, .ref 3000000, .ref 0], sM Ln I L c s)) (fun j0 => (1759, [.ref 3000000, .ref 0, .ref 148, .ref 163, .int a4, a5, a6], [.int (I 3000000 (tn j0)), .ref 0], sM Ln I L c s)) (fun j0 => 0 ≤ j0 ∧ tn j0 < Ln) (a4 + 1) (fun j0 hc h => dd_Rn.chk 0 (c := 0 ≤ j0 ∧ tn j0 < Ln) (A := (1759, [.ref 3000000, .ref 0, .ref 148, .ref 163, .int a4, a5, a6], [.int (I 3000000 (tn j0)), .ref 0], sM Ln I L c s)) rfl hc h (by omega)) hc ?_
  refine dd_Rn.se (cf := (1759, [.ref 3000000, .ref 0, .ref 148, .ref 163, .int a4, a5, a6], [.int (I 3000000 (tn (a4 + 1))), .ref 0], sM Ln I L c s)) ?_
  refine dd_Rn.ite 0 (c := I 3000000 (tn (a4 + 1)) = 0) (A := (1766, [.ref 3000000, .ref 0, .ref 148, .ref 163, .int a4, a5, a6], [.ref 0], sM Ln I L c s)) (B := (1762, [.ref 3000000, .ref 0, .ref 148, .ref 163, .int a4, a5, a6], [.ref 0], sM Ln I L c s)) rfl (fun hc => ?_) (fun hc => ?_) (by omega)
  · have h := h.1 hc
    exact dd_Rn.go 1 (cf' := (1767, [.ref 3000000, .ref 0, .ref 148, .ref 163, .int a4, a5, a6], [.int 0, .ref 0], sM Ln I L c s)) rfl h (by omega)
  · have h := h.2 hc
    exact dd_Rn.go 2 (cf' := (1767, [.ref 3000000, .ref 0, .ref 148, .ref 163, .int a4, a5, a6], [.int 1, .ref 0], sM Ln I L c s)) rfl h (by omega)

theorem w_L_law__1767 {Ln d c s : Nat} {I : Nat → Nat → Int32} {L : Nat → Nat → Int64} {Q : dd_O → Prop} {a4 b1 : Int32} {a5 a6 : Value} (hd : 28 ≤ d) (h : dd_Ev (d - 1) m_L_sounds [.ref 0, .int b1, .ref 163] (sM Ln I L c s) (dd_RJ Ln c s (fun x1 I1 L1 c1 s1 => ((0 ≤ a4 + 1 ∧ tn (a4 + 1) < Ln) ∧ ((I1 3000000 (tn (a4 + 1)) = 0 → dd_Rn d m_L_law_ (1788, [.ref 3000000, .ref 0, .ref 148, .ref 163, .int a4, .int x1, a6], [.int 0, .ref 148], sM Ln I1 L1 c1 s1) Q) ∧ (¬ (I1 3000000 (tn (a4 + 1)) = 0) → dd_Rn d m_L_law_ (1788, [.ref 3000000, .ref 0, .ref 148, .ref 163, .int a4, .int x1, a6], [.int 1, .ref 148], sM Ln I1 L1 c1 s1) Q)))))) : dd_Rn d m_L_law_ (1767, [.ref 3000000, .ref 0, .ref 148, .ref 163, .int a4, a5, a6], [.int b1, .ref 0], sM Ln I L c s) Q := by
  obtain ⟨e, rfl⟩ : ∃ e, d = e + 16 := ⟨d - 16, by omega⟩
  refine dd_Rn.cJ 1 (pc := 1768) (ls := [.ref 3000000, .ref 0, .ref 148, .ref 163, .int a4, a5, a6]) (st := [.ref 163, .int b1, .ref 0]) (x := m_L_sounds) (as := [.ref 0, .int b1, .ref 163]) (rest := []) rfl rfl rfl rfl h ?_
  intro x1 I1 L1 c1 s1 h
  show dd_Rn (e + 16) m_L_law_ (1771, [.ref 3000000, .ref 0, .ref 148, .ref 163, .int a4, a5, a6], [.int x1], sM Ln I1 L1 c1 s1) _
  obtain ⟨hc, h⟩ := h
  refine dd_Rn.go 6 (cf' := (1779, [.ref 3000000, .ref 0, .ref 148, .ref 163, .int a4, .int x1, a6], [.int (a4 + 1), .ref 3000000, .ref 148], sM Ln I1 L1 c1 s1)) rfl ?_ (by omega)
  refine dd_Rn.ci (fun j0 => (1779, [.ref 3000000, .ref 0, .ref 148, .ref 163, .int a4, .int x1, a6], [.int j0, .ref 3000000, .ref 148], sM Ln I1 L1 c1 s1)) (fun j0 => (1780, [.ref 3000000, .ref 0, .ref 148, .ref 163, .int a4, .int x1, a6], [.int (I1 3000000 (tn j0)), .ref 148], sM Ln I1 L1 c1 s1)) (fun j0 => 0 ≤ j0 ∧ tn j0 < Ln) (a4 + 1) (fun j0 hc h => dd_Rn.chk 0 (c := 0 ≤ j0 ∧ tn j0 < Ln) (A := (1780, [.ref 3000000, .ref 0, .ref 148, .ref 163, .int a4, .int x1, a6], [.int (I1 3000000 (tn j0)), .ref 148], sM Ln I1 L1 c1 s1)) rfl hc h (by omega)) hc ?_
  refine dd_Rn.se (cf := (1780, [.ref 3000000, .ref 0, .ref 148, .ref 163, .int a4, .int x1, a6], [.int (I1 3000000 (tn (a4 + 1))), .ref 148], sM Ln I1 L1 c1 s1)) ?_
  refine dd_Rn.ite 0 (c := I1 3000000 (tn (a4 + 1)) = 0) (A := (1787, [.ref 3000000, .ref 0, .ref 148, .ref 163, .int a4, .int x1, a6], [.ref 148], sM Ln I1 L1 c1 s1)) (B := (1783, [.ref 3000000, .ref 0, .ref 148, .ref 163, .int a4, .int x1, a6], [.ref 148], sM Ln I1 L1 c1 s1)) rfl (fun hc => ?_) (fun hc => ?_) (by omega)
  · have h := h.1 hc
    exact dd_Rn.go 1 (cf' := (1788, [.ref 3000000, .ref 0, .ref 148, .ref 163, .int a4, .int x1, a6], [.int 0, .ref 148], sM Ln I1 L1 c1 s1)) rfl h (by omega)
  · have h := h.2 hc
    exact dd_Rn.go 2 (cf' := (1788, [.ref 3000000, .ref 0, .ref 148, .ref 163, .int a4, .int x1, a6], [.int 1, .ref 148], sM Ln I1 L1 c1 s1)) rfl h (by omega)

theorem w_L_law__1788 {Ln d c s : Nat} {I : Nat → Nat → Int32} {L : Nat → Nat → Int64} {Q : dd_O → Prop} {a4 a5 b1 : Int32} {a6 : Value} (hd : 28 ≤ d) (h : dd_Ev (d - 1) m_X11_sounds [.ref 148, .int b1] (sM Ln I L c s) (dd_RI Ln c s (fun x1 I1 L1 => ((I1 148 0 = a5 → ((a5 = 0 → ((lg_cmp (L1 163 0) x1.toInt64 = 0 → dd_Rn d m_L_law_ (1821, [.ref 3000000, .ref 0, .ref 148, .ref 163, .int a4, .int a5, .int x1], [], sM Ln I1 L1 c s) Q) ∧ (¬ (lg_cmp (L1 163 0) x1.toInt64 = 0) → Q (none, .int 0, sM Ln I1 L1 c s)))) ∧ (¬ (a5 = 0) → dd_Rn d m_L_law_ (1821, [.ref 3000000, .ref 0, .ref 148, .ref 163, .int a4, .int a5, .int x1], [], sM Ln I1 L1 c s) Q))) ∧ (¬ (I1 148 0 = a5) → Q (none, .int 0, sM Ln I1 L1 c s)))))) : dd_Rn d m_L_law_ (1788, [.ref 3000000, .ref 0, .ref 148, .ref 163, .int a4, .int a5, a6], [.int b1, .ref 148], sM Ln I L c s) Q := by
  obtain ⟨e, rfl⟩ : ∃ e, d = e + 16 := ⟨d - 16, by omega⟩
  refine dd_Rn.cI 0 (pc := 1788) (ls := [.ref 3000000, .ref 0, .ref 148, .ref 163, .int a4, .int a5, a6]) (st := [.int b1, .ref 148]) (x := m_X11_sounds) (as := [.ref 148, .int b1]) (rest := []) rfl rfl rfl rfl h ?_
  intro x1 I1 L1 h
  show dd_Rn (e + 16) m_L_law_ (1791, [.ref 3000000, .ref 0, .ref 148, .ref 163, .int a4, .int a5, a6], [.int x1], sM Ln I1 L1 c s) _
  refine dd_Rn.sub 2 (pc := 1794) (ls := [.ref 3000000, .ref 0, .ref 148, .ref 163, .int a4, .int a5, .int x1]) (st := [.ref 148]) (M := sM Ln I1 L1 c s) (x := m_X11_thrown) (as := [.ref 148]) (rest := []) rfl rfl rfl rfl ?_
  show dd_Rn (e + 15) m_X11_thrown (0, [.ref 148], [], sM Ln I1 L1 c s) _
  refine dd_Rn.retK 2 (pc := 4) (ls := [.ref 148]) (st := [.int (I1 148 0)]) (M := sM Ln I1 L1 c s) (o := (none, .int (I1 148 0), sM Ln I1 L1 c s)) rfl rfl (dd_Af.ret rfl ?_) (by omega)
  show dd_Rn (e + 16) m_L_law_ (1797, [.ref 3000000, .ref 0, .ref 148, .ref 163, .int a4, .int a5, .int x1], [.int (I1 148 0)], sM Ln I1 L1 c s) _
  refine dd_Rn.ite 1 (c := I1 148 0 = a5) (A := (1804, [.ref 3000000, .ref 0, .ref 148, .ref 163, .int a4, .int a5, .int x1], [], sM Ln I1 L1 c s)) (B := (1802, [.ref 3000000, .ref 0, .ref 148, .ref 163, .int a4, .int a5, .int x1], [], sM Ln I1 L1 c s)) rfl (fun hc => ?_) (fun hc => ?_) (by omega)
  · have h := h.1 hc
    refine dd_Rn.ite 1 (c := a5 = 0) (A := (1809, [.ref 3000000, .ref 0, .ref 148, .ref 163, .int a4, .int a5, .int x1], [], sM Ln I1 L1 c s)) (B := (1821, [.ref 3000000, .ref 0, .ref 148, .ref 163, .int a4, .int a5, .int x1], [], sM Ln I1 L1 c s)) rfl (fun hc => ?_) (fun hc => ?_) (by omega)
    · have h := h.1 hc
      refine dd_Rn.ite 6 (c := lg_cmp (L1 163 0) x1.toInt64 = 0) (A := (1821, [.ref 3000000, .ref 0, .ref 148, .ref 163, .int a4, .int a5, .int x1], [], sM Ln I1 L1 c s)) (B := (1819, [.ref 3000000, .ref 0, .ref 148, .ref 163, .int a4, .int a5, .int x1], [], sM Ln I1 L1 c s)) rfl (fun hc => ?_) (fun hc => ?_) (by omega)
      · have h := h.1 hc
        exact dd_Rn.go 0 (cf' := (1821, [.ref 3000000, .ref 0, .ref 148, .ref 163, .int a4, .int a5, .int x1], [], sM Ln I1 L1 c s)) rfl h (by omega)
      · have h := h.2 hc
        exact dd_Rn.retK 1 (pc := 1820) (ls := [.ref 3000000, .ref 0, .ref 148, .ref 163, .int a4, .int a5, .int x1]) (st := [.int 0]) (M := sM Ln I1 L1 c s) (o := (none, .int 0, sM Ln I1 L1 c s)) rfl rfl h (by omega)
    · have h := h.2 hc
      exact dd_Rn.go 0 (cf' := (1821, [.ref 3000000, .ref 0, .ref 148, .ref 163, .int a4, .int a5, .int x1], [], sM Ln I1 L1 c s)) rfl h (by omega)
  · have h := h.2 hc
    exact dd_Rn.retK 1 (pc := 1803) (ls := [.ref 3000000, .ref 0, .ref 148, .ref 163, .int a4, .int a5, .int x1]) (st := [.int 0]) (M := sM Ln I1 L1 c s) (o := (none, .int 0, sM Ln I1 L1 c s)) rfl rfl h (by omega)

theorem w_L_law__1821 {Ln d c s : Nat} {I : Nat → Nat → Int32} {L : Nat → Nat → Int64} {Q : dd_O → Prop} {a4 a5 a6 : Int32} (hd : 28 ≤ d) (h : dd_Rn d m_L_law_ (3009, [.ref 3000000, .ref 0, .ref 148, .ref 163, .int a4, .int a5, .int a6], [], sM Ln I L c s) Q) : dd_Rn d m_L_law_ (1821, [.ref 3000000, .ref 0, .ref 148, .ref 163, .int a4, .int a5, .int a6], [], sM Ln I L c s) Q := by
  obtain ⟨e, rfl⟩ : ∃ e, d = e + 16 := ⟨d - 16, by omega⟩
  exact dd_Rn.go 1 (cf' := (3009, [.ref 3000000, .ref 0, .ref 148, .ref 163, .int a4, .int a5, .int a6], [], sM Ln I L c s)) rfl h (by omega)

theorem w_L_law__1824 {Ln d c s : Nat} {I : Nat → Nat → Int32} {L : Nat → Nat → Int64} {Q : dd_O → Prop} {a4 : Int32} {a5 a6 : Value} (hd : 28 ≤ d) (h : dd_Ev (d - 1) m_L_listen [.ref 0, .ref 163] (sM Ln I L c s) (dd_RJ Ln c s (fun x1 I1 L1 c1 s1 => dd_Ev (d - 1) m_X11_listen [.ref 148] (sM Ln I1 L1 c1 s1) (dd_RI Ln c1 s1 (fun x2 I2 L2 => ((I2 148 0 = x1 → ((x1 = 0 → ((lg_cmp (L2 163 0) x2.toInt64 = 0 → dd_Rn d m_L_law_ (1865, [.ref 3000000, .ref 0, .ref 148, .ref 163, .int a4, .int x1, .int x2], [], sM Ln I2 L2 c1 s1) Q) ∧ (¬ (lg_cmp (L2 163 0) x2.toInt64 = 0) → Q (none, .int 0, sM Ln I2 L2 c1 s1)))) ∧ (¬ (x1 = 0) → dd_Rn d m_L_law_ (1865, [.ref 3000000, .ref 0, .ref 148, .ref 163, .int a4, .int x1, .int x2], [], sM Ln I2 L2 c1 s1) Q))) ∧ (¬ (I2 148 0 = x1) → Q (none, .int 0, sM Ln I2 L2 c1 s1)))))))) : dd_Rn d m_L_law_ (1824, [.ref 3000000, .ref 0, .ref 148, .ref 163, .int a4, a5, a6], [], sM Ln I L c s) Q := by
  obtain ⟨e, rfl⟩ : ∃ e, d = e + 16 := ⟨d - 16, by omega⟩
  refine dd_Rn.cJ 2 (pc := 1826) (ls := [.ref 3000000, .ref 0, .ref 148, .ref 163, .int a4, a5, a6]) (st := [.ref 163, .ref 0]) (x := m_L_listen) (as := [.ref 0, .ref 163]) (rest := []) rfl rfl rfl rfl h ?_
  intro x1 I1 L1 c1 s1 h
  show dd_Rn (e + 16) m_L_law_ (1829, [.ref 3000000, .ref 0, .ref 148, .ref 163, .int a4, a5, a6], [.int x1], sM Ln I1 L1 c1 s1) _
  refine dd_Rn.cI 2 (pc := 1832) (ls := [.ref 3000000, .ref 0, .ref 148, .ref 163, .int a4, .int x1, a6]) (st := [.ref 148]) (x := m_X11_listen) (as := [.ref 148]) (rest := []) rfl rfl rfl rfl h ?_
  intro x2 I2 L2 h
  show dd_Rn (e + 16) m_L_law_ (1835, [.ref 3000000, .ref 0, .ref 148, .ref 163, .int a4, .int x1, a6], [.int x2], sM Ln I2 L2 c1 s1) _
  refine dd_Rn.sub 2 (pc := 1838) (ls := [.ref 3000000, .ref 0, .ref 148, .ref 163, .int a4, .int x1, .int x2]) (st := [.ref 148]) (M := sM Ln I2 L2 c1 s1) (x := m_X11_thrown) (as := [.ref 148]) (rest := []) rfl rfl rfl rfl ?_
  show dd_Rn (e + 15) m_X11_thrown (0, [.ref 148], [], sM Ln I2 L2 c1 s1) _
  refine dd_Rn.retK 2 (pc := 4) (ls := [.ref 148]) (st := [.int (I2 148 0)]) (M := sM Ln I2 L2 c1 s1) (o := (none, .int (I2 148 0), sM Ln I2 L2 c1 s1)) rfl rfl (dd_Af.ret rfl ?_) (by omega)
  show dd_Rn (e + 16) m_L_law_ (1841, [.ref 3000000, .ref 0, .ref 148, .ref 163, .int a4, .int x1, .int x2], [.int (I2 148 0)], sM Ln I2 L2 c1 s1) _
  refine dd_Rn.ite 1 (c := I2 148 0 = x1) (A := (1848, [.ref 3000000, .ref 0, .ref 148, .ref 163, .int a4, .int x1, .int x2], [], sM Ln I2 L2 c1 s1)) (B := (1846, [.ref 3000000, .ref 0, .ref 148, .ref 163, .int a4, .int x1, .int x2], [], sM Ln I2 L2 c1 s1)) rfl (fun hc => ?_) (fun hc => ?_) (by omega)
  · have h := h.1 hc
    refine dd_Rn.ite 1 (c := x1 = 0) (A := (1853, [.ref 3000000, .ref 0, .ref 148, .ref 163, .int a4, .int x1, .int x2], [], sM Ln I2 L2 c1 s1)) (B := (1865, [.ref 3000000, .ref 0, .ref 148, .ref 163, .int a4, .int x1, .int x2], [], sM Ln I2 L2 c1 s1)) rfl (fun hc => ?_) (fun hc => ?_) (by omega)
    · have h := h.1 hc
      refine dd_Rn.ite 6 (c := lg_cmp (L2 163 0) x2.toInt64 = 0) (A := (1865, [.ref 3000000, .ref 0, .ref 148, .ref 163, .int a4, .int x1, .int x2], [], sM Ln I2 L2 c1 s1)) (B := (1863, [.ref 3000000, .ref 0, .ref 148, .ref 163, .int a4, .int x1, .int x2], [], sM Ln I2 L2 c1 s1)) rfl (fun hc => ?_) (fun hc => ?_) (by omega)
      · have h := h.1 hc
        exact dd_Rn.go 0 (cf' := (1865, [.ref 3000000, .ref 0, .ref 148, .ref 163, .int a4, .int x1, .int x2], [], sM Ln I2 L2 c1 s1)) rfl h (by omega)
      · have h := h.2 hc
        exact dd_Rn.retK 1 (pc := 1864) (ls := [.ref 3000000, .ref 0, .ref 148, .ref 163, .int a4, .int x1, .int x2]) (st := [.int 0]) (M := sM Ln I2 L2 c1 s1) (o := (none, .int 0, sM Ln I2 L2 c1 s1)) rfl rfl h (by omega)
    · have h := h.2 hc
      exact dd_Rn.go 0 (cf' := (1865, [.ref 3000000, .ref 0, .ref 148, .ref 163, .int a4, .int x1, .int x2], [], sM Ln I2 L2 c1 s1)) rfl h (by omega)
  · have h := h.2 hc
    exact dd_Rn.retK 1 (pc := 1847) (ls := [.ref 3000000, .ref 0, .ref 148, .ref 163, .int a4, .int x1, .int x2]) (st := [.int 0]) (M := sM Ln I2 L2 c1 s1) (o := (none, .int 0, sM Ln I2 L2 c1 s1)) rfl rfl h (by omega)

theorem w_L_law__1865 {Ln d c s : Nat} {I : Nat → Nat → Int32} {L : Nat → Nat → Int64} {Q : dd_O → Prop} {a4 a5 a6 : Int32} (hd : 28 ≤ d) (h : dd_Rn d m_L_law_ (3009, [.ref 3000000, .ref 0, .ref 148, .ref 163, .int a4, .int a5, .int a6], [], sM Ln I L c s) Q) : dd_Rn d m_L_law_ (1865, [.ref 3000000, .ref 0, .ref 148, .ref 163, .int a4, .int a5, .int a6], [], sM Ln I L c s) Q := by
  obtain ⟨e, rfl⟩ : ∃ e, d = e + 16 := ⟨d - 16, by omega⟩
  exact dd_Rn.go 1 (cf' := (3009, [.ref 3000000, .ref 0, .ref 148, .ref 163, .int a4, .int a5, .int a6], [], sM Ln I L c s)) rfl h (by omega)

theorem w_L_law__1868 {Ln d c s : Nat} {I : Nat → Nat → Int32} {L : Nat → Nat → Int64} {Q : dd_O → Prop} {a4 : Int32} {a5 a6 : Value} (hd : 28 ≤ d) (h : ((0 ≤ a4 + 1 ∧ tn (a4 + 1) < Ln) ∧ dd_Ev (d - 1) m_L_ears [.ref 0, .int (I 3000000 (tn (a4 + 1))), .ref 163] (sM Ln I L c s) (dd_RJ Ln c s (fun x1 I1 L1 c1 s1 => ((0 ≤ a4 + 1 ∧ tn (a4 + 1) < Ln) ∧ dd_Ev (d - 1) m_X11_ears [.ref 148, .int (I1 3000000 (tn (a4 + 1)))] (sM Ln I1 L1 c1 s1) (dd_RI Ln c1 s1 (fun x2 I2 L2 => ((I2 148 0 = x1 → ((x1 = 0 → ((lg_cmp (L2 163 0) x2.toInt64 = 0 → dd_Rn d m_L_law_ (1921, [.ref 3000000, .ref 0, .ref 148, .ref 163, .int a4, .int x1, .int x2], [], sM Ln I2 L2 c1 s1) Q) ∧ (¬ (lg_cmp (L2 163 0) x2.toInt64 = 0) → Q (none, .int 0, sM Ln I2 L2 c1 s1)))) ∧ (¬ (x1 = 0) → dd_Rn d m_L_law_ (1921, [.ref 3000000, .ref 0, .ref 148, .ref 163, .int a4, .int x1, .int x2], [], sM Ln I2 L2 c1 s1) Q))) ∧ (¬ (I2 148 0 = x1) → Q (none, .int 0, sM Ln I2 L2 c1 s1)))))))))) : dd_Rn d m_L_law_ (1868, [.ref 3000000, .ref 0, .ref 148, .ref 163, .int a4, a5, a6], [], sM Ln I L c s) Q := by
  obtain ⟨e, rfl⟩ : ∃ e, d = e + 16 := ⟨d - 16, by omega⟩
  obtain ⟨hc, h⟩ := h
  refine dd_Rn.go 5 (cf' := (1874, [.ref 3000000, .ref 0, .ref 148, .ref 163, .int a4, a5, a6], [.int (a4 + 1), .ref 3000000, .ref 0], sM Ln I L c s)) rfl ?_ (by omega)
  refine dd_Rn.ci (fun j0 => (1874, [.ref 3000000, .ref 0, .ref 148, .ref 163, .int a4, a5, a6], [.int j0, .ref 3000000, .ref 0], sM Ln I L c s)) (fun j0 => (1875, [.ref 3000000, .ref 0, .ref 148, .ref 163, .int a4, a5, a6], [.int (I 3000000 (tn j0)), .ref 0], sM Ln I L c s)) (fun j0 => 0 ≤ j0 ∧ tn j0 < Ln) (a4 + 1) (fun j0 hc h => dd_Rn.chk 0 (c := 0 ≤ j0 ∧ tn j0 < Ln) (A := (1875, [.ref 3000000, .ref 0, .ref 148, .ref 163, .int a4, a5, a6], [.int (I 3000000 (tn j0)), .ref 0], sM Ln I L c s)) rfl hc h (by omega)) hc ?_
  refine dd_Rn.se (cf := (1875, [.ref 3000000, .ref 0, .ref 148, .ref 163, .int a4, a5, a6], [.int (I 3000000 (tn (a4 + 1))), .ref 0], sM Ln I L c s)) ?_
  refine dd_Rn.cJ 1 (pc := 1876) (ls := [.ref 3000000, .ref 0, .ref 148, .ref 163, .int a4, a5, a6]) (st := [.ref 163, .int (I 3000000 (tn (a4 + 1))), .ref 0]) (x := m_L_ears) (as := [.ref 0, .int (I 3000000 (tn (a4 + 1))), .ref 163]) (rest := []) rfl rfl rfl rfl h ?_
  intro x1 I1 L1 c1 s1 h
  show dd_Rn (e + 16) m_L_law_ (1879, [.ref 3000000, .ref 0, .ref 148, .ref 163, .int a4, a5, a6], [.int x1], sM Ln I1 L1 c1 s1) _
  obtain ⟨hc, h⟩ := h
  refine dd_Rn.go 6 (cf' := (1887, [.ref 3000000, .ref 0, .ref 148, .ref 163, .int a4, .int x1, a6], [.int (a4 + 1), .ref 3000000, .ref 148], sM Ln I1 L1 c1 s1)) rfl ?_ (by omega)
  refine dd_Rn.ci (fun j0 => (1887, [.ref 3000000, .ref 0, .ref 148, .ref 163, .int a4, .int x1, a6], [.int j0, .ref 3000000, .ref 148], sM Ln I1 L1 c1 s1)) (fun j0 => (1888, [.ref 3000000, .ref 0, .ref 148, .ref 163, .int a4, .int x1, a6], [.int (I1 3000000 (tn j0)), .ref 148], sM Ln I1 L1 c1 s1)) (fun j0 => 0 ≤ j0 ∧ tn j0 < Ln) (a4 + 1) (fun j0 hc h => dd_Rn.chk 0 (c := 0 ≤ j0 ∧ tn j0 < Ln) (A := (1888, [.ref 3000000, .ref 0, .ref 148, .ref 163, .int a4, .int x1, a6], [.int (I1 3000000 (tn j0)), .ref 148], sM Ln I1 L1 c1 s1)) rfl hc h (by omega)) hc ?_
  refine dd_Rn.se (cf := (1888, [.ref 3000000, .ref 0, .ref 148, .ref 163, .int a4, .int x1, a6], [.int (I1 3000000 (tn (a4 + 1))), .ref 148], sM Ln I1 L1 c1 s1)) ?_
  refine dd_Rn.cI 0 (pc := 1888) (ls := [.ref 3000000, .ref 0, .ref 148, .ref 163, .int a4, .int x1, a6]) (st := [.int (I1 3000000 (tn (a4 + 1))), .ref 148]) (x := m_X11_ears) (as := [.ref 148, .int (I1 3000000 (tn (a4 + 1)))]) (rest := []) rfl rfl rfl rfl h ?_
  intro x2 I2 L2 h
  show dd_Rn (e + 16) m_L_law_ (1891, [.ref 3000000, .ref 0, .ref 148, .ref 163, .int a4, .int x1, a6], [.int x2], sM Ln I2 L2 c1 s1) _
  refine dd_Rn.sub 2 (pc := 1894) (ls := [.ref 3000000, .ref 0, .ref 148, .ref 163, .int a4, .int x1, .int x2]) (st := [.ref 148]) (M := sM Ln I2 L2 c1 s1) (x := m_X11_thrown) (as := [.ref 148]) (rest := []) rfl rfl rfl rfl ?_
  show dd_Rn (e + 15) m_X11_thrown (0, [.ref 148], [], sM Ln I2 L2 c1 s1) _
  refine dd_Rn.retK 2 (pc := 4) (ls := [.ref 148]) (st := [.int (I2 148 0)]) (M := sM Ln I2 L2 c1 s1) (o := (none, .int (I2 148 0), sM Ln I2 L2 c1 s1)) rfl rfl (dd_Af.ret rfl ?_) (by omega)
  show dd_Rn (e + 16) m_L_law_ (1897, [.ref 3000000, .ref 0, .ref 148, .ref 163, .int a4, .int x1, .int x2], [.int (I2 148 0)], sM Ln I2 L2 c1 s1) _
  refine dd_Rn.ite 1 (c := I2 148 0 = x1) (A := (1904, [.ref 3000000, .ref 0, .ref 148, .ref 163, .int a4, .int x1, .int x2], [], sM Ln I2 L2 c1 s1)) (B := (1902, [.ref 3000000, .ref 0, .ref 148, .ref 163, .int a4, .int x1, .int x2], [], sM Ln I2 L2 c1 s1)) rfl (fun hc => ?_) (fun hc => ?_) (by omega)
  · have h := h.1 hc
    refine dd_Rn.ite 1 (c := x1 = 0) (A := (1909, [.ref 3000000, .ref 0, .ref 148, .ref 163, .int a4, .int x1, .int x2], [], sM Ln I2 L2 c1 s1)) (B := (1921, [.ref 3000000, .ref 0, .ref 148, .ref 163, .int a4, .int x1, .int x2], [], sM Ln I2 L2 c1 s1)) rfl (fun hc => ?_) (fun hc => ?_) (by omega)
    · have h := h.1 hc
      refine dd_Rn.ite 6 (c := lg_cmp (L2 163 0) x2.toInt64 = 0) (A := (1921, [.ref 3000000, .ref 0, .ref 148, .ref 163, .int a4, .int x1, .int x2], [], sM Ln I2 L2 c1 s1)) (B := (1919, [.ref 3000000, .ref 0, .ref 148, .ref 163, .int a4, .int x1, .int x2], [], sM Ln I2 L2 c1 s1)) rfl (fun hc => ?_) (fun hc => ?_) (by omega)
      · have h := h.1 hc
        exact dd_Rn.go 0 (cf' := (1921, [.ref 3000000, .ref 0, .ref 148, .ref 163, .int a4, .int x1, .int x2], [], sM Ln I2 L2 c1 s1)) rfl h (by omega)
      · have h := h.2 hc
        exact dd_Rn.retK 1 (pc := 1920) (ls := [.ref 3000000, .ref 0, .ref 148, .ref 163, .int a4, .int x1, .int x2]) (st := [.int 0]) (M := sM Ln I2 L2 c1 s1) (o := (none, .int 0, sM Ln I2 L2 c1 s1)) rfl rfl h (by omega)
    · have h := h.2 hc
      exact dd_Rn.go 0 (cf' := (1921, [.ref 3000000, .ref 0, .ref 148, .ref 163, .int a4, .int x1, .int x2], [], sM Ln I2 L2 c1 s1)) rfl h (by omega)
  · have h := h.2 hc
    exact dd_Rn.retK 1 (pc := 1903) (ls := [.ref 3000000, .ref 0, .ref 148, .ref 163, .int a4, .int x1, .int x2]) (st := [.int 0]) (M := sM Ln I2 L2 c1 s1) (o := (none, .int 0, sM Ln I2 L2 c1 s1)) rfl rfl h (by omega)

theorem w_L_law__1921 {Ln d c s : Nat} {I : Nat → Nat → Int32} {L : Nat → Nat → Int64} {Q : dd_O → Prop} {a4 a5 a6 : Int32} (hd : 28 ≤ d) (h : dd_Rn d m_L_law_ (3009, [.ref 3000000, .ref 0, .ref 148, .ref 163, .int a4, .int a5, .int a6], [], sM Ln I L c s) Q) : dd_Rn d m_L_law_ (1921, [.ref 3000000, .ref 0, .ref 148, .ref 163, .int a4, .int a5, .int a6], [], sM Ln I L c s) Q := by
  obtain ⟨e, rfl⟩ : ∃ e, d = e + 16 := ⟨d - 16, by omega⟩
  exact dd_Rn.go 1 (cf' := (3009, [.ref 3000000, .ref 0, .ref 148, .ref 163, .int a4, .int a5, .int a6], [], sM Ln I L c s)) rfl h (by omega)

theorem w_L_law__1924 {Ln d c s : Nat} {I : Nat → Nat → Int32} {L : Nat → Nat → Int64} {Q : dd_O → Prop} {a4 : Int32} {a5 a6 : Value} (hd : 28 ≤ d) (h : dd_Ev (d - 1) m_X10_code [.ref 0] (sM Ln I L c s) (dd_RI Ln c s (fun x1 I1 L1 => dd_Ev (d - 1) m_X11_code [.ref 148] (sM Ln I1 L1 c s) (dd_RI Ln c s (fun x2 I2 L2 => ((x1 = x2 → dd_Rn d m_L_law_ (3009, [.ref 3000000, .ref 0, .ref 148, .ref 163, .int a4, a5, a6], [], sM Ln I2 L2 c s) Q) ∧ (¬ (x1 = x2) → Q (none, .int 0, sM Ln I2 L2 c s)))))))) : dd_Rn d m_L_law_ (1924, [.ref 3000000, .ref 0, .ref 148, .ref 163, .int a4, a5, a6], [], sM Ln I L c s) Q := by
  obtain ⟨e, rfl⟩ : ∃ e, d = e + 16 := ⟨d - 16, by omega⟩
  refine dd_Rn.cI 1 (pc := 1925) (ls := [.ref 3000000, .ref 0, .ref 148, .ref 163, .int a4, a5, a6]) (st := [.ref 0]) (x := m_X10_code) (as := [.ref 0]) (rest := []) rfl rfl rfl rfl h ?_
  intro x1 I1 L1 h
  show dd_Rn (e + 16) m_L_law_ (1928, [.ref 3000000, .ref 0, .ref 148, .ref 163, .int a4, a5, a6], [.int x1], sM Ln I1 L1 c s) _
  refine dd_Rn.cI 1 (pc := 1929) (ls := [.ref 3000000, .ref 0, .ref 148, .ref 163, .int a4, a5, a6]) (st := [.ref 148, .int x1]) (x := m_X11_code) (as := [.ref 148]) (rest := [.int x1]) rfl rfl rfl rfl h ?_
  intro x2 I2 L2 h
  show dd_Rn (e + 16) m_L_law_ (1932, [.ref 3000000, .ref 0, .ref 148, .ref 163, .int a4, a5, a6], [.int x2, .int x1], sM Ln I2 L2 c s) _
  refine dd_Rn.ite 0 (c := x1 = x2) (A := (3009, [.ref 3000000, .ref 0, .ref 148, .ref 163, .int a4, a5, a6], [], sM Ln I2 L2 c s)) (B := (1935, [.ref 3000000, .ref 0, .ref 148, .ref 163, .int a4, a5, a6], [], sM Ln I2 L2 c s)) rfl (fun hc => ?_) (fun hc => ?_) (by omega)
  · have h := h.1 hc
    exact dd_Rn.go 0 (cf' := (3009, [.ref 3000000, .ref 0, .ref 148, .ref 163, .int a4, a5, a6], [], sM Ln I2 L2 c s)) rfl h (by omega)
  · have h := h.2 hc
    exact dd_Rn.retK 1 (pc := 1936) (ls := [.ref 3000000, .ref 0, .ref 148, .ref 163, .int a4, a5, a6]) (st := [.int 0]) (M := sM Ln I2 L2 c s) (o := (none, .int 0, sM Ln I2 L2 c s)) rfl rfl h (by omega)

theorem w_L_law__1937 {Ln d c s : Nat} {I : Nat → Nat → Int32} {L : Nat → Nat → Int64} {Q : dd_O → Prop} {a4 : Int32} {a5 a6 : Value} (hd : 28 ≤ d) (h : ((0 ≤ a4 + 1 ∧ tn (a4 + 1) < Ln) ∧ ((0 ≤ a4 + 2 ∧ tn (a4 + 2) < Ln) ∧ dd_Ev (d - 1) m_L_shifted [.ref 0, .int (I 3000000 (tn (a4 + 1))), .int (I 3000000 (tn (a4 + 2))), .ref 163] (sM Ln I L c s) (dd_RJ Ln c s (fun x1 I1 L1 c1 s1 => ((0 ≤ a4 + 1 ∧ tn (a4 + 1) < Ln) ∧ ((0 ≤ a4 + 2 ∧ tn (a4 + 2) < Ln) ∧ dd_Ev (d - 1) m_X11_shifted [.ref 148, .int (I1 3000000 (tn (a4 + 1))), .int (I1 3000000 (tn (a4 + 2)))] (sM Ln I1 L1 c1 s1) (dd_RI Ln c1 s1 (fun x2 I2 L2 => ((I2 148 0 = x1 → ((x1 = 0 → ((lg_cmp (L2 163 0) x2.toInt64 = 0 → dd_Rn d m_L_law_ (2002, [.ref 3000000, .ref 0, .ref 148, .ref 163, .int a4, .int x1, .int x2], [], sM Ln I2 L2 c1 s1) Q) ∧ (¬ (lg_cmp (L2 163 0) x2.toInt64 = 0) → Q (none, .int 0, sM Ln I2 L2 c1 s1)))) ∧ (¬ (x1 = 0) → dd_Rn d m_L_law_ (2002, [.ref 3000000, .ref 0, .ref 148, .ref 163, .int a4, .int x1, .int x2], [], sM Ln I2 L2 c1 s1) Q))) ∧ (¬ (I2 148 0 = x1) → Q (none, .int 0, sM Ln I2 L2 c1 s1)))))))))))) : dd_Rn d m_L_law_ (1937, [.ref 3000000, .ref 0, .ref 148, .ref 163, .int a4, a5, a6], [], sM Ln I L c s) Q := by
  obtain ⟨e, rfl⟩ : ∃ e, d = e + 16 := ⟨d - 16, by omega⟩
  obtain ⟨hc, h⟩ := h
  refine dd_Rn.go 5 (cf' := (1943, [.ref 3000000, .ref 0, .ref 148, .ref 163, .int a4, a5, a6], [.int (a4 + 1), .ref 3000000, .ref 0], sM Ln I L c s)) rfl ?_ (by omega)
  refine dd_Rn.ci (fun j0 => (1943, [.ref 3000000, .ref 0, .ref 148, .ref 163, .int a4, a5, a6], [.int j0, .ref 3000000, .ref 0], sM Ln I L c s)) (fun j0 => (1944, [.ref 3000000, .ref 0, .ref 148, .ref 163, .int a4, a5, a6], [.int (I 3000000 (tn j0)), .ref 0], sM Ln I L c s)) (fun j0 => 0 ≤ j0 ∧ tn j0 < Ln) (a4 + 1) (fun j0 hc h => dd_Rn.chk 0 (c := 0 ≤ j0 ∧ tn j0 < Ln) (A := (1944, [.ref 3000000, .ref 0, .ref 148, .ref 163, .int a4, a5, a6], [.int (I 3000000 (tn j0)), .ref 0], sM Ln I L c s)) rfl hc h (by omega)) hc ?_
  refine dd_Rn.se (cf := (1944, [.ref 3000000, .ref 0, .ref 148, .ref 163, .int a4, a5, a6], [.int (I 3000000 (tn (a4 + 1))), .ref 0], sM Ln I L c s)) ?_
  obtain ⟨hc, h⟩ := h
  refine dd_Rn.go 4 (cf' := (1949, [.ref 3000000, .ref 0, .ref 148, .ref 163, .int a4, a5, a6], [.int (a4 + 2), .ref 3000000, .int (I 3000000 (tn (a4 + 1))), .ref 0], sM Ln I L c s)) rfl ?_ (by omega)
  refine dd_Rn.ci (fun j0 => (1949, [.ref 3000000, .ref 0, .ref 148, .ref 163, .int a4, a5, a6], [.int j0, .ref 3000000, .int (I 3000000 (tn (a4 + 1))), .ref 0], sM Ln I L c s)) (fun j0 => (1950, [.ref 3000000, .ref 0, .ref 148, .ref 163, .int a4, a5, a6], [.int (I 3000000 (tn j0)), .int (I 3000000 (tn (a4 + 1))), .ref 0], sM Ln I L c s)) (fun j0 => 0 ≤ j0 ∧ tn j0 < Ln) (a4 + 2) (fun j0 hc h => dd_Rn.chk 0 (c := 0 ≤ j0 ∧ tn j0 < Ln) (A := (1950, [.ref 3000000, .ref 0, .ref 148, .ref 163, .int a4, a5, a6], [.int (I 3000000 (tn j0)), .int (I 3000000 (tn (a4 + 1))), .ref 0], sM Ln I L c s)) rfl hc h (by omega)) hc ?_
  refine dd_Rn.se (cf := (1950, [.ref 3000000, .ref 0, .ref 148, .ref 163, .int a4, a5, a6], [.int (I 3000000 (tn (a4 + 2))), .int (I 3000000 (tn (a4 + 1))), .ref 0], sM Ln I L c s)) ?_
  refine dd_Rn.cJ 1 (pc := 1951) (ls := [.ref 3000000, .ref 0, .ref 148, .ref 163, .int a4, a5, a6]) (st := [.ref 163, .int (I 3000000 (tn (a4 + 2))), .int (I 3000000 (tn (a4 + 1))), .ref 0]) (x := m_L_shifted) (as := [.ref 0, .int (I 3000000 (tn (a4 + 1))), .int (I 3000000 (tn (a4 + 2))), .ref 163]) (rest := []) rfl rfl rfl rfl h ?_
  intro x1 I1 L1 c1 s1 h
  show dd_Rn (e + 16) m_L_law_ (1954, [.ref 3000000, .ref 0, .ref 148, .ref 163, .int a4, a5, a6], [.int x1], sM Ln I1 L1 c1 s1) _
  obtain ⟨hc, h⟩ := h
  refine dd_Rn.go 6 (cf' := (1962, [.ref 3000000, .ref 0, .ref 148, .ref 163, .int a4, .int x1, a6], [.int (a4 + 1), .ref 3000000, .ref 148], sM Ln I1 L1 c1 s1)) rfl ?_ (by omega)
  refine dd_Rn.ci (fun j0 => (1962, [.ref 3000000, .ref 0, .ref 148, .ref 163, .int a4, .int x1, a6], [.int j0, .ref 3000000, .ref 148], sM Ln I1 L1 c1 s1)) (fun j0 => (1963, [.ref 3000000, .ref 0, .ref 148, .ref 163, .int a4, .int x1, a6], [.int (I1 3000000 (tn j0)), .ref 148], sM Ln I1 L1 c1 s1)) (fun j0 => 0 ≤ j0 ∧ tn j0 < Ln) (a4 + 1) (fun j0 hc h => dd_Rn.chk 0 (c := 0 ≤ j0 ∧ tn j0 < Ln) (A := (1963, [.ref 3000000, .ref 0, .ref 148, .ref 163, .int a4, .int x1, a6], [.int (I1 3000000 (tn j0)), .ref 148], sM Ln I1 L1 c1 s1)) rfl hc h (by omega)) hc ?_
  refine dd_Rn.se (cf := (1963, [.ref 3000000, .ref 0, .ref 148, .ref 163, .int a4, .int x1, a6], [.int (I1 3000000 (tn (a4 + 1))), .ref 148], sM Ln I1 L1 c1 s1)) ?_
  obtain ⟨hc, h⟩ := h
  refine dd_Rn.go 4 (cf' := (1968, [.ref 3000000, .ref 0, .ref 148, .ref 163, .int a4, .int x1, a6], [.int (a4 + 2), .ref 3000000, .int (I1 3000000 (tn (a4 + 1))), .ref 148], sM Ln I1 L1 c1 s1)) rfl ?_ (by omega)
  refine dd_Rn.ci (fun j0 => (1968, [.ref 3000000, .ref 0, .ref 148, .ref 163, .int a4, .int x1, a6], [.int j0, .ref 3000000, .int (I1 3000000 (tn (a4 + 1))), .ref 148], sM Ln I1 L1 c1 s1)) (fun j0 => (1969, [.ref 3000000, .ref 0, .ref 148, .ref 163, .int a4, .int x1, a6], [.int (I1 3000000 (tn j0)), .int (I1 3000000 (tn (a4 + 1))), .ref 148], sM Ln I1 L1 c1 s1)) (fun j0 => 0 ≤ j0 ∧ tn j0 < Ln) (a4 + 2) (fun j0 hc h => dd_Rn.chk 0 (c := 0 ≤ j0 ∧ tn j0 < Ln) (A := (1969, [.ref 3000000, .ref 0, .ref 148, .ref 163, .int a4, .int x1, a6], [.int (I1 3000000 (tn j0)), .int (I1 3000000 (tn (a4 + 1))), .ref 148], sM Ln I1 L1 c1 s1)) rfl hc h (by omega)) hc ?_
  refine dd_Rn.se (cf := (1969, [.ref 3000000, .ref 0, .ref 148, .ref 163, .int a4, .int x1, a6], [.int (I1 3000000 (tn (a4 + 2))), .int (I1 3000000 (tn (a4 + 1))), .ref 148], sM Ln I1 L1 c1 s1)) ?_
  refine dd_Rn.cI 0 (pc := 1969) (ls := [.ref 3000000, .ref 0, .ref 148, .ref 163, .int a4, .int x1, a6]) (st := [.int (I1 3000000 (tn (a4 + 2))), .int (I1 3000000 (tn (a4 + 1))), .ref 148]) (x := m_X11_shifted) (as := [.ref 148, .int (I1 3000000 (tn (a4 + 1))), .int (I1 3000000 (tn (a4 + 2)))]) (rest := []) rfl rfl rfl rfl h ?_
  intro x2 I2 L2 h
  show dd_Rn (e + 16) m_L_law_ (1972, [.ref 3000000, .ref 0, .ref 148, .ref 163, .int a4, .int x1, a6], [.int x2], sM Ln I2 L2 c1 s1) _
  refine dd_Rn.sub 2 (pc := 1975) (ls := [.ref 3000000, .ref 0, .ref 148, .ref 163, .int a4, .int x1, .int x2]) (st := [.ref 148]) (M := sM Ln I2 L2 c1 s1) (x := m_X11_thrown) (as := [.ref 148]) (rest := []) rfl rfl rfl rfl ?_
  show dd_Rn (e + 15) m_X11_thrown (0, [.ref 148], [], sM Ln I2 L2 c1 s1) _
  refine dd_Rn.retK 2 (pc := 4) (ls := [.ref 148]) (st := [.int (I2 148 0)]) (M := sM Ln I2 L2 c1 s1) (o := (none, .int (I2 148 0), sM Ln I2 L2 c1 s1)) rfl rfl (dd_Af.ret rfl ?_) (by omega)
  show dd_Rn (e + 16) m_L_law_ (1978, [.ref 3000000, .ref 0, .ref 148, .ref 163, .int a4, .int x1, .int x2], [.int (I2 148 0)], sM Ln I2 L2 c1 s1) _
  refine dd_Rn.ite 1 (c := I2 148 0 = x1) (A := (1985, [.ref 3000000, .ref 0, .ref 148, .ref 163, .int a4, .int x1, .int x2], [], sM Ln I2 L2 c1 s1)) (B := (1983, [.ref 3000000, .ref 0, .ref 148, .ref 163, .int a4, .int x1, .int x2], [], sM Ln I2 L2 c1 s1)) rfl (fun hc => ?_) (fun hc => ?_) (by omega)
  · have h := h.1 hc
    refine dd_Rn.ite 1 (c := x1 = 0) (A := (1990, [.ref 3000000, .ref 0, .ref 148, .ref 163, .int a4, .int x1, .int x2], [], sM Ln I2 L2 c1 s1)) (B := (2002, [.ref 3000000, .ref 0, .ref 148, .ref 163, .int a4, .int x1, .int x2], [], sM Ln I2 L2 c1 s1)) rfl (fun hc => ?_) (fun hc => ?_) (by omega)
    · have h := h.1 hc
      refine dd_Rn.ite 6 (c := lg_cmp (L2 163 0) x2.toInt64 = 0) (A := (2002, [.ref 3000000, .ref 0, .ref 148, .ref 163, .int a4, .int x1, .int x2], [], sM Ln I2 L2 c1 s1)) (B := (2000, [.ref 3000000, .ref 0, .ref 148, .ref 163, .int a4, .int x1, .int x2], [], sM Ln I2 L2 c1 s1)) rfl (fun hc => ?_) (fun hc => ?_) (by omega)
      · have h := h.1 hc
        exact dd_Rn.go 0 (cf' := (2002, [.ref 3000000, .ref 0, .ref 148, .ref 163, .int a4, .int x1, .int x2], [], sM Ln I2 L2 c1 s1)) rfl h (by omega)
      · have h := h.2 hc
        exact dd_Rn.retK 1 (pc := 2001) (ls := [.ref 3000000, .ref 0, .ref 148, .ref 163, .int a4, .int x1, .int x2]) (st := [.int 0]) (M := sM Ln I2 L2 c1 s1) (o := (none, .int 0, sM Ln I2 L2 c1 s1)) rfl rfl h (by omega)
    · have h := h.2 hc
      exact dd_Rn.go 0 (cf' := (2002, [.ref 3000000, .ref 0, .ref 148, .ref 163, .int a4, .int x1, .int x2], [], sM Ln I2 L2 c1 s1)) rfl h (by omega)
  · have h := h.2 hc
    exact dd_Rn.retK 1 (pc := 1984) (ls := [.ref 3000000, .ref 0, .ref 148, .ref 163, .int a4, .int x1, .int x2]) (st := [.int 0]) (M := sM Ln I2 L2 c1 s1) (o := (none, .int 0, sM Ln I2 L2 c1 s1)) rfl rfl h (by omega)

theorem w_L_law__2002 {Ln d c s : Nat} {I : Nat → Nat → Int32} {L : Nat → Nat → Int64} {Q : dd_O → Prop} {a4 a5 a6 : Int32} (hd : 28 ≤ d) (h : dd_Rn d m_L_law_ (3009, [.ref 3000000, .ref 0, .ref 148, .ref 163, .int a4, .int a5, .int a6], [], sM Ln I L c s) Q) : dd_Rn d m_L_law_ (2002, [.ref 3000000, .ref 0, .ref 148, .ref 163, .int a4, .int a5, .int a6], [], sM Ln I L c s) Q := by
  obtain ⟨e, rfl⟩ : ∃ e, d = e + 16 := ⟨d - 16, by omega⟩
  exact dd_Rn.go 1 (cf' := (3009, [.ref 3000000, .ref 0, .ref 148, .ref 163, .int a4, .int a5, .int a6], [], sM Ln I L c s)) rfl h (by omega)

theorem w_L_law__2005 {Ln d c s : Nat} {I : Nat → Nat → Int32} {L : Nat → Nat → Int64} {Q : dd_O → Prop} {a4 : Int32} {a5 a6 : Value} (hd : 28 ≤ d) (h : ((0 ≤ a4 + 1 ∧ tn (a4 + 1) < Ln) ∧ dd_Ev (d - 1) m_L_silence [.ref 0, .int (I 3000000 (tn (a4 + 1))), .ref 163] (sM Ln I L c s) (dd_RJ Ln c s (fun x1 I1 L1 c1 s1 => ((0 ≤ a4 + 1 ∧ tn (a4 + 1) < Ln) ∧ dd_Ev (d - 1) m_X11_silence [.ref 148, .int (I1 3000000 (tn (a4 + 1)))] (sM Ln I1 L1 c1 s1) (dd_RI Ln c1 s1 (fun x2 I2 L2 => ((I2 148 0 = x1 → ((x1 = 0 → ((lg_cmp (L2 163 0) x2.toInt64 = 0 → dd_Rn d m_L_law_ (2058, [.ref 3000000, .ref 0, .ref 148, .ref 163, .int a4, .int x1, .int x2], [], sM Ln I2 L2 c1 s1) Q) ∧ (¬ (lg_cmp (L2 163 0) x2.toInt64 = 0) → Q (none, .int 0, sM Ln I2 L2 c1 s1)))) ∧ (¬ (x1 = 0) → dd_Rn d m_L_law_ (2058, [.ref 3000000, .ref 0, .ref 148, .ref 163, .int a4, .int x1, .int x2], [], sM Ln I2 L2 c1 s1) Q))) ∧ (¬ (I2 148 0 = x1) → Q (none, .int 0, sM Ln I2 L2 c1 s1)))))))))) : dd_Rn d m_L_law_ (2005, [.ref 3000000, .ref 0, .ref 148, .ref 163, .int a4, a5, a6], [], sM Ln I L c s) Q := by
  obtain ⟨e, rfl⟩ : ∃ e, d = e + 16 := ⟨d - 16, by omega⟩
  obtain ⟨hc, h⟩ := h
  refine dd_Rn.go 5 (cf' := (2011, [.ref 3000000, .ref 0, .ref 148, .ref 163, .int a4, a5, a6], [.int (a4 + 1), .ref 3000000, .ref 0], sM Ln I L c s)) rfl ?_ (by omega)
  refine dd_Rn.ci (fun j0 => (2011, [.ref 3000000, .ref 0, .ref 148, .ref 163, .int a4, a5, a6], [.int j0, .ref 3000000, .ref 0], sM Ln I L c s)) (fun j0 => (2012, [.ref 3000000, .ref 0, .ref 148, .ref 163, .int a4, a5, a6], [.int (I 3000000 (tn j0)), .ref 0], sM Ln I L c s)) (fun j0 => 0 ≤ j0 ∧ tn j0 < Ln) (a4 + 1) (fun j0 hc h => dd_Rn.chk 0 (c := 0 ≤ j0 ∧ tn j0 < Ln) (A := (2012, [.ref 3000000, .ref 0, .ref 148, .ref 163, .int a4, a5, a6], [.int (I 3000000 (tn j0)), .ref 0], sM Ln I L c s)) rfl hc h (by omega)) hc ?_
  refine dd_Rn.se (cf := (2012, [.ref 3000000, .ref 0, .ref 148, .ref 163, .int a4, a5, a6], [.int (I 3000000 (tn (a4 + 1))), .ref 0], sM Ln I L c s)) ?_
  refine dd_Rn.cJ 1 (pc := 2013) (ls := [.ref 3000000, .ref 0, .ref 148, .ref 163, .int a4, a5, a6]) (st := [.ref 163, .int (I 3000000 (tn (a4 + 1))), .ref 0]) (x := m_L_silence) (as := [.ref 0, .int (I 3000000 (tn (a4 + 1))), .ref 163]) (rest := []) rfl rfl rfl rfl h ?_
  intro x1 I1 L1 c1 s1 h
  show dd_Rn (e + 16) m_L_law_ (2016, [.ref 3000000, .ref 0, .ref 148, .ref 163, .int a4, a5, a6], [.int x1], sM Ln I1 L1 c1 s1) _
  obtain ⟨hc, h⟩ := h
  refine dd_Rn.go 6 (cf' := (2024, [.ref 3000000, .ref 0, .ref 148, .ref 163, .int a4, .int x1, a6], [.int (a4 + 1), .ref 3000000, .ref 148], sM Ln I1 L1 c1 s1)) rfl ?_ (by omega)
  refine dd_Rn.ci (fun j0 => (2024, [.ref 3000000, .ref 0, .ref 148, .ref 163, .int a4, .int x1, a6], [.int j0, .ref 3000000, .ref 148], sM Ln I1 L1 c1 s1)) (fun j0 => (2025, [.ref 3000000, .ref 0, .ref 148, .ref 163, .int a4, .int x1, a6], [.int (I1 3000000 (tn j0)), .ref 148], sM Ln I1 L1 c1 s1)) (fun j0 => 0 ≤ j0 ∧ tn j0 < Ln) (a4 + 1) (fun j0 hc h => dd_Rn.chk 0 (c := 0 ≤ j0 ∧ tn j0 < Ln) (A := (2025, [.ref 3000000, .ref 0, .ref 148, .ref 163, .int a4, .int x1, a6], [.int (I1 3000000 (tn j0)), .ref 148], sM Ln I1 L1 c1 s1)) rfl hc h (by omega)) hc ?_
  refine dd_Rn.se (cf := (2025, [.ref 3000000, .ref 0, .ref 148, .ref 163, .int a4, .int x1, a6], [.int (I1 3000000 (tn (a4 + 1))), .ref 148], sM Ln I1 L1 c1 s1)) ?_
  refine dd_Rn.cI 0 (pc := 2025) (ls := [.ref 3000000, .ref 0, .ref 148, .ref 163, .int a4, .int x1, a6]) (st := [.int (I1 3000000 (tn (a4 + 1))), .ref 148]) (x := m_X11_silence) (as := [.ref 148, .int (I1 3000000 (tn (a4 + 1)))]) (rest := []) rfl rfl rfl rfl h ?_
  intro x2 I2 L2 h
  show dd_Rn (e + 16) m_L_law_ (2028, [.ref 3000000, .ref 0, .ref 148, .ref 163, .int a4, .int x1, a6], [.int x2], sM Ln I2 L2 c1 s1) _
  refine dd_Rn.sub 2 (pc := 2031) (ls := [.ref 3000000, .ref 0, .ref 148, .ref 163, .int a4, .int x1, .int x2]) (st := [.ref 148]) (M := sM Ln I2 L2 c1 s1) (x := m_X11_thrown) (as := [.ref 148]) (rest := []) rfl rfl rfl rfl ?_
  show dd_Rn (e + 15) m_X11_thrown (0, [.ref 148], [], sM Ln I2 L2 c1 s1) _
  refine dd_Rn.retK 2 (pc := 4) (ls := [.ref 148]) (st := [.int (I2 148 0)]) (M := sM Ln I2 L2 c1 s1) (o := (none, .int (I2 148 0), sM Ln I2 L2 c1 s1)) rfl rfl (dd_Af.ret rfl ?_) (by omega)
  show dd_Rn (e + 16) m_L_law_ (2034, [.ref 3000000, .ref 0, .ref 148, .ref 163, .int a4, .int x1, .int x2], [.int (I2 148 0)], sM Ln I2 L2 c1 s1) _
  refine dd_Rn.ite 1 (c := I2 148 0 = x1) (A := (2041, [.ref 3000000, .ref 0, .ref 148, .ref 163, .int a4, .int x1, .int x2], [], sM Ln I2 L2 c1 s1)) (B := (2039, [.ref 3000000, .ref 0, .ref 148, .ref 163, .int a4, .int x1, .int x2], [], sM Ln I2 L2 c1 s1)) rfl (fun hc => ?_) (fun hc => ?_) (by omega)
  · have h := h.1 hc
    refine dd_Rn.ite 1 (c := x1 = 0) (A := (2046, [.ref 3000000, .ref 0, .ref 148, .ref 163, .int a4, .int x1, .int x2], [], sM Ln I2 L2 c1 s1)) (B := (2058, [.ref 3000000, .ref 0, .ref 148, .ref 163, .int a4, .int x1, .int x2], [], sM Ln I2 L2 c1 s1)) rfl (fun hc => ?_) (fun hc => ?_) (by omega)
    · have h := h.1 hc
      refine dd_Rn.ite 6 (c := lg_cmp (L2 163 0) x2.toInt64 = 0) (A := (2058, [.ref 3000000, .ref 0, .ref 148, .ref 163, .int a4, .int x1, .int x2], [], sM Ln I2 L2 c1 s1)) (B := (2056, [.ref 3000000, .ref 0, .ref 148, .ref 163, .int a4, .int x1, .int x2], [], sM Ln I2 L2 c1 s1)) rfl (fun hc => ?_) (fun hc => ?_) (by omega)
      · have h := h.1 hc
        exact dd_Rn.go 0 (cf' := (2058, [.ref 3000000, .ref 0, .ref 148, .ref 163, .int a4, .int x1, .int x2], [], sM Ln I2 L2 c1 s1)) rfl h (by omega)
      · have h := h.2 hc
        exact dd_Rn.retK 1 (pc := 2057) (ls := [.ref 3000000, .ref 0, .ref 148, .ref 163, .int a4, .int x1, .int x2]) (st := [.int 0]) (M := sM Ln I2 L2 c1 s1) (o := (none, .int 0, sM Ln I2 L2 c1 s1)) rfl rfl h (by omega)
    · have h := h.2 hc
      exact dd_Rn.go 0 (cf' := (2058, [.ref 3000000, .ref 0, .ref 148, .ref 163, .int a4, .int x1, .int x2], [], sM Ln I2 L2 c1 s1)) rfl h (by omega)
  · have h := h.2 hc
    exact dd_Rn.retK 1 (pc := 2040) (ls := [.ref 3000000, .ref 0, .ref 148, .ref 163, .int a4, .int x1, .int x2]) (st := [.int 0]) (M := sM Ln I2 L2 c1 s1) (o := (none, .int 0, sM Ln I2 L2 c1 s1)) rfl rfl h (by omega)

theorem w_L_law__2058 {Ln d c s : Nat} {I : Nat → Nat → Int32} {L : Nat → Nat → Int64} {Q : dd_O → Prop} {a4 a5 a6 : Int32} (hd : 28 ≤ d) (h : dd_Rn d m_L_law_ (3009, [.ref 3000000, .ref 0, .ref 148, .ref 163, .int a4, .int a5, .int a6], [], sM Ln I L c s) Q) : dd_Rn d m_L_law_ (2058, [.ref 3000000, .ref 0, .ref 148, .ref 163, .int a4, .int a5, .int a6], [], sM Ln I L c s) Q := by
  obtain ⟨e, rfl⟩ : ∃ e, d = e + 16 := ⟨d - 16, by omega⟩
  exact dd_Rn.go 1 (cf' := (3009, [.ref 3000000, .ref 0, .ref 148, .ref 163, .int a4, .int a5, .int a6], [], sM Ln I L c s)) rfl h (by omega)

theorem w_L_law__2061 {Ln d c s : Nat} {I : Nat → Nat → Int32} {L : Nat → Nat → Int64} {Q : dd_O → Prop} {a4 : Int32} {a5 a6 : Value} (hd : 28 ≤ d) (h : ((0 ≤ a4 + 1 ∧ tn (a4 + 1) < Ln) ∧ dd_Ev (d - 1) m_L_hush [.ref 0, .int (I 3000000 (tn (a4 + 1))), .ref 163] (sM Ln I L c s) (dd_RJ Ln c s (fun x1 I1 L1 c1 s1 => ((0 ≤ a4 + 1 ∧ tn (a4 + 1) < Ln) ∧ dd_Ev (d - 1) m_X11_hush [.ref 148, .int (I1 3000000 (tn (a4 + 1)))] (sM Ln I1 L1 c1 s1) (dd_RI Ln c1 s1 (fun x2 I2 L2 => ((I2 148 0 = x1 → ((x1 = 0 → ((lg_cmp (L2 163 0) x2.toInt64 = 0 → dd_Rn d m_L_law_ (2114, [.ref 3000000, .ref 0, .ref 148, .ref 163, .int a4, .int x1, .int x2], [], sM Ln I2 L2 c1 s1) Q) ∧ (¬ (lg_cmp (L2 163 0) x2.toInt64 = 0) → Q (none, .int 0, sM Ln I2 L2 c1 s1)))) ∧ (¬ (x1 = 0) → dd_Rn d m_L_law_ (2114, [.ref 3000000, .ref 0, .ref 148, .ref 163, .int a4, .int x1, .int x2], [], sM Ln I2 L2 c1 s1) Q))) ∧ (¬ (I2 148 0 = x1) → Q (none, .int 0, sM Ln I2 L2 c1 s1)))))))))) : dd_Rn d m_L_law_ (2061, [.ref 3000000, .ref 0, .ref 148, .ref 163, .int a4, a5, a6], [], sM Ln I L c s) Q := by
  obtain ⟨e, rfl⟩ : ∃ e, d = e + 16 := ⟨d - 16, by omega⟩
  obtain ⟨hc, h⟩ := h
  refine dd_Rn.go 5 (cf' := (2067, [.ref 3000000, .ref 0, .ref 148, .ref 163, .int a4, a5, a6], [.int (a4 + 1), .ref 3000000, .ref 0], sM Ln I L c s)) rfl ?_ (by omega)
  refine dd_Rn.ci (fun j0 => (2067, [.ref 3000000, .ref 0, .ref 148, .ref 163, .int a4, a5, a6], [.int j0, .ref 3000000, .ref 0], sM Ln I L c s)) (fun j0 => (2068, [.ref 3000000, .ref 0, .ref 148, .ref 163, .int a4, a5, a6], [.int (I 3000000 (tn j0)), .ref 0], sM Ln I L c s)) (fun j0 => 0 ≤ j0 ∧ tn j0 < Ln) (a4 + 1) (fun j0 hc h => dd_Rn.chk 0 (c := 0 ≤ j0 ∧ tn j0 < Ln) (A := (2068, [.ref 3000000, .ref 0, .ref 148, .ref 163, .int a4, a5, a6], [.int (I 3000000 (tn j0)), .ref 0], sM Ln I L c s)) rfl hc h (by omega)) hc ?_
  refine dd_Rn.se (cf := (2068, [.ref 3000000, .ref 0, .ref 148, .ref 163, .int a4, a5, a6], [.int (I 3000000 (tn (a4 + 1))), .ref 0], sM Ln I L c s)) ?_
  refine dd_Rn.cJ 1 (pc := 2069) (ls := [.ref 3000000, .ref 0, .ref 148, .ref 163, .int a4, a5, a6]) (st := [.ref 163, .int (I 3000000 (tn (a4 + 1))), .ref 0]) (x := m_L_hush) (as := [.ref 0, .int (I 3000000 (tn (a4 + 1))), .ref 163]) (rest := []) rfl rfl rfl rfl h ?_
  intro x1 I1 L1 c1 s1 h
  show dd_Rn (e + 16) m_L_law_ (2072, [.ref 3000000, .ref 0, .ref 148, .ref 163, .int a4, a5, a6], [.int x1], sM Ln I1 L1 c1 s1) _
  obtain ⟨hc, h⟩ := h
  refine dd_Rn.go 6 (cf' := (2080, [.ref 3000000, .ref 0, .ref 148, .ref 163, .int a4, .int x1, a6], [.int (a4 + 1), .ref 3000000, .ref 148], sM Ln I1 L1 c1 s1)) rfl ?_ (by omega)
  refine dd_Rn.ci (fun j0 => (2080, [.ref 3000000, .ref 0, .ref 148, .ref 163, .int a4, .int x1, a6], [.int j0, .ref 3000000, .ref 148], sM Ln I1 L1 c1 s1)) (fun j0 => (2081, [.ref 3000000, .ref 0, .ref 148, .ref 163, .int a4, .int x1, a6], [.int (I1 3000000 (tn j0)), .ref 148], sM Ln I1 L1 c1 s1)) (fun j0 => 0 ≤ j0 ∧ tn j0 < Ln) (a4 + 1) (fun j0 hc h => dd_Rn.chk 0 (c := 0 ≤ j0 ∧ tn j0 < Ln) (A := (2081, [.ref 3000000, .ref 0, .ref 148, .ref 163, .int a4, .int x1, a6], [.int (I1 3000000 (tn j0)), .ref 148], sM Ln I1 L1 c1 s1)) rfl hc h (by omega)) hc ?_
  refine dd_Rn.se (cf := (2081, [.ref 3000000, .ref 0, .ref 148, .ref 163, .int a4, .int x1, a6], [.int (I1 3000000 (tn (a4 + 1))), .ref 148], sM Ln I1 L1 c1 s1)) ?_
  refine dd_Rn.cI 0 (pc := 2081) (ls := [.ref 3000000, .ref 0, .ref 148, .ref 163, .int a4, .int x1, a6]) (st := [.int (I1 3000000 (tn (a4 + 1))), .ref 148]) (x := m_X11_hush) (as := [.ref 148, .int (I1 3000000 (tn (a4 + 1)))]) (rest := []) rfl rfl rfl rfl h ?_
  intro x2 I2 L2 h
  show dd_Rn (e + 16) m_L_law_ (2084, [.ref 3000000, .ref 0, .ref 148, .ref 163, .int a4, .int x1, a6], [.int x2], sM Ln I2 L2 c1 s1) _
  refine dd_Rn.sub 2 (pc := 2087) (ls := [.ref 3000000, .ref 0, .ref 148, .ref 163, .int a4, .int x1, .int x2]) (st := [.ref 148]) (M := sM Ln I2 L2 c1 s1) (x := m_X11_thrown) (as := [.ref 148]) (rest := []) rfl rfl rfl rfl ?_
  show dd_Rn (e + 15) m_X11_thrown (0, [.ref 148], [], sM Ln I2 L2 c1 s1) _
  refine dd_Rn.retK 2 (pc := 4) (ls := [.ref 148]) (st := [.int (I2 148 0)]) (M := sM Ln I2 L2 c1 s1) (o := (none, .int (I2 148 0), sM Ln I2 L2 c1 s1)) rfl rfl (dd_Af.ret rfl ?_) (by omega)
  show dd_Rn (e + 16) m_L_law_ (2090, [.ref 3000000, .ref 0, .ref 148, .ref 163, .int a4, .int x1, .int x2], [.int (I2 148 0)], sM Ln I2 L2 c1 s1) _
  refine dd_Rn.ite 1 (c := I2 148 0 = x1) (A := (2097, [.ref 3000000, .ref 0, .ref 148, .ref 163, .int a4, .int x1, .int x2], [], sM Ln I2 L2 c1 s1)) (B := (2095, [.ref 3000000, .ref 0, .ref 148, .ref 163, .int a4, .int x1, .int x2], [], sM Ln I2 L2 c1 s1)) rfl (fun hc => ?_) (fun hc => ?_) (by omega)
  · have h := h.1 hc
    refine dd_Rn.ite 1 (c := x1 = 0) (A := (2102, [.ref 3000000, .ref 0, .ref 148, .ref 163, .int a4, .int x1, .int x2], [], sM Ln I2 L2 c1 s1)) (B := (2114, [.ref 3000000, .ref 0, .ref 148, .ref 163, .int a4, .int x1, .int x2], [], sM Ln I2 L2 c1 s1)) rfl (fun hc => ?_) (fun hc => ?_) (by omega)
    · have h := h.1 hc
      refine dd_Rn.ite 6 (c := lg_cmp (L2 163 0) x2.toInt64 = 0) (A := (2114, [.ref 3000000, .ref 0, .ref 148, .ref 163, .int a4, .int x1, .int x2], [], sM Ln I2 L2 c1 s1)) (B := (2112, [.ref 3000000, .ref 0, .ref 148, .ref 163, .int a4, .int x1, .int x2], [], sM Ln I2 L2 c1 s1)) rfl (fun hc => ?_) (fun hc => ?_) (by omega)
      · have h := h.1 hc
        exact dd_Rn.go 0 (cf' := (2114, [.ref 3000000, .ref 0, .ref 148, .ref 163, .int a4, .int x1, .int x2], [], sM Ln I2 L2 c1 s1)) rfl h (by omega)
      · have h := h.2 hc
        exact dd_Rn.retK 1 (pc := 2113) (ls := [.ref 3000000, .ref 0, .ref 148, .ref 163, .int a4, .int x1, .int x2]) (st := [.int 0]) (M := sM Ln I2 L2 c1 s1) (o := (none, .int 0, sM Ln I2 L2 c1 s1)) rfl rfl h (by omega)
    · have h := h.2 hc
      exact dd_Rn.go 0 (cf' := (2114, [.ref 3000000, .ref 0, .ref 148, .ref 163, .int a4, .int x1, .int x2], [], sM Ln I2 L2 c1 s1)) rfl h (by omega)
  · have h := h.2 hc
    exact dd_Rn.retK 1 (pc := 2096) (ls := [.ref 3000000, .ref 0, .ref 148, .ref 163, .int a4, .int x1, .int x2]) (st := [.int 0]) (M := sM Ln I2 L2 c1 s1) (o := (none, .int 0, sM Ln I2 L2 c1 s1)) rfl rfl h (by omega)

theorem w_L_law__2114 {Ln d c s : Nat} {I : Nat → Nat → Int32} {L : Nat → Nat → Int64} {Q : dd_O → Prop} {a4 a5 a6 : Int32} (hd : 28 ≤ d) (h : dd_Rn d m_L_law_ (3009, [.ref 3000000, .ref 0, .ref 148, .ref 163, .int a4, .int a5, .int a6], [], sM Ln I L c s) Q) : dd_Rn d m_L_law_ (2114, [.ref 3000000, .ref 0, .ref 148, .ref 163, .int a4, .int a5, .int a6], [], sM Ln I L c s) Q := by
  obtain ⟨e, rfl⟩ : ∃ e, d = e + 16 := ⟨d - 16, by omega⟩
  exact dd_Rn.go 1 (cf' := (3009, [.ref 3000000, .ref 0, .ref 148, .ref 163, .int a4, .int a5, .int a6], [], sM Ln I L c s)) rfl h (by omega)

theorem w_L_law__2117 {Ln d c s : Nat} {I : Nat → Nat → Int32} {L : Nat → Nat → Int64} {Q : dd_O → Prop} {a4 : Int32} {a5 a6 : Value} (hd : 28 ≤ d) (h : dd_Ev (d - 1) m_X10_quiet [.ref 0] (sM Ln I L c s) (dd_RI Ln c s (fun x1 I1 L1 => dd_Ev (d - 1) m_X11_quiet [.ref 148] (sM Ln I1 L1 c s) (dd_RI Ln c s (fun x2 I2 L2 => ((x1 = x2 → dd_Rn d m_L_law_ (3009, [.ref 3000000, .ref 0, .ref 148, .ref 163, .int a4, a5, a6], [], sM Ln I2 L2 c s) Q) ∧ (¬ (x1 = x2) → Q (none, .int 0, sM Ln I2 L2 c s)))))))) : dd_Rn d m_L_law_ (2117, [.ref 3000000, .ref 0, .ref 148, .ref 163, .int a4, a5, a6], [], sM Ln I L c s) Q := by
  obtain ⟨e, rfl⟩ : ∃ e, d = e + 16 := ⟨d - 16, by omega⟩
  refine dd_Rn.cI 1 (pc := 2118) (ls := [.ref 3000000, .ref 0, .ref 148, .ref 163, .int a4, a5, a6]) (st := [.ref 0]) (x := m_X10_quiet) (as := [.ref 0]) (rest := []) rfl rfl rfl rfl h ?_
  intro x1 I1 L1 h
  show dd_Rn (e + 16) m_L_law_ (2121, [.ref 3000000, .ref 0, .ref 148, .ref 163, .int a4, a5, a6], [.int x1], sM Ln I1 L1 c s) _
  refine dd_Rn.cI 1 (pc := 2122) (ls := [.ref 3000000, .ref 0, .ref 148, .ref 163, .int a4, a5, a6]) (st := [.ref 148, .int x1]) (x := m_X11_quiet) (as := [.ref 148]) (rest := [.int x1]) rfl rfl rfl rfl h ?_
  intro x2 I2 L2 h
  show dd_Rn (e + 16) m_L_law_ (2125, [.ref 3000000, .ref 0, .ref 148, .ref 163, .int a4, a5, a6], [.int x2, .int x1], sM Ln I2 L2 c s) _
  refine dd_Rn.ite 0 (c := x1 = x2) (A := (3009, [.ref 3000000, .ref 0, .ref 148, .ref 163, .int a4, a5, a6], [], sM Ln I2 L2 c s)) (B := (2128, [.ref 3000000, .ref 0, .ref 148, .ref 163, .int a4, a5, a6], [], sM Ln I2 L2 c s)) rfl (fun hc => ?_) (fun hc => ?_) (by omega)
  · have h := h.1 hc
    exact dd_Rn.go 0 (cf' := (3009, [.ref 3000000, .ref 0, .ref 148, .ref 163, .int a4, a5, a6], [], sM Ln I2 L2 c s)) rfl h (by omega)
  · have h := h.2 hc
    exact dd_Rn.retK 1 (pc := 2129) (ls := [.ref 3000000, .ref 0, .ref 148, .ref 163, .int a4, a5, a6]) (st := [.int 0]) (M := sM Ln I2 L2 c s) (o := (none, .int 0, sM Ln I2 L2 c s)) rfl rfl h (by omega)

theorem w_L_law__2130 {Ln d c s : Nat} {I : Nat → Nat → Int32} {L : Nat → Nat → Int64} {Q : dd_O → Prop} {a4 : Int32} {a5 a6 : Value} (hd : 28 ≤ d) (h : ((0 ≤ a4 + 1 ∧ tn (a4 + 1) < Ln) ∧ dd_Ev (d - 1) m_L_mends [.ref 0, .int (I 3000000 (tn (a4 + 1))), .ref 163] (sM Ln I L c s) (dd_RJ Ln c s (fun x1 I1 L1 c1 s1 => ((0 ≤ a4 + 1 ∧ tn (a4 + 1) < Ln) ∧ dd_Ev (d - 1) m_X11_mends [.ref 148, .int (I1 3000000 (tn (a4 + 1)))] (sM Ln I1 L1 c1 s1) (dd_RI Ln c1 s1 (fun x2 I2 L2 => ((I2 148 0 = x1 → ((x1 = 0 → ((lg_cmp (L2 163 0) x2.toInt64 = 0 → dd_Rn d m_L_law_ (2183, [.ref 3000000, .ref 0, .ref 148, .ref 163, .int a4, .int x1, .int x2], [], sM Ln I2 L2 c1 s1) Q) ∧ (¬ (lg_cmp (L2 163 0) x2.toInt64 = 0) → Q (none, .int 0, sM Ln I2 L2 c1 s1)))) ∧ (¬ (x1 = 0) → dd_Rn d m_L_law_ (2183, [.ref 3000000, .ref 0, .ref 148, .ref 163, .int a4, .int x1, .int x2], [], sM Ln I2 L2 c1 s1) Q))) ∧ (¬ (I2 148 0 = x1) → Q (none, .int 0, sM Ln I2 L2 c1 s1)))))))))) : dd_Rn d m_L_law_ (2130, [.ref 3000000, .ref 0, .ref 148, .ref 163, .int a4, a5, a6], [], sM Ln I L c s) Q := by
  obtain ⟨e, rfl⟩ : ∃ e, d = e + 16 := ⟨d - 16, by omega⟩
  obtain ⟨hc, h⟩ := h
  refine dd_Rn.go 5 (cf' := (2136, [.ref 3000000, .ref 0, .ref 148, .ref 163, .int a4, a5, a6], [.int (a4 + 1), .ref 3000000, .ref 0], sM Ln I L c s)) rfl ?_ (by omega)
  refine dd_Rn.ci (fun j0 => (2136, [.ref 3000000, .ref 0, .ref 148, .ref 163, .int a4, a5, a6], [.int j0, .ref 3000000, .ref 0], sM Ln I L c s)) (fun j0 => (2137, [.ref 3000000, .ref 0, .ref 148, .ref 163, .int a4, a5, a6], [.int (I 3000000 (tn j0)), .ref 0], sM Ln I L c s)) (fun j0 => 0 ≤ j0 ∧ tn j0 < Ln) (a4 + 1) (fun j0 hc h => dd_Rn.chk 0 (c := 0 ≤ j0 ∧ tn j0 < Ln) (A := (2137, [.ref 3000000, .ref 0, .ref 148, .ref 163, .int a4, a5, a6], [.int (I 3000000 (tn j0)), .ref 0], sM Ln I L c s)) rfl hc h (by omega)) hc ?_
  refine dd_Rn.se (cf := (2137, [.ref 3000000, .ref 0, .ref 148, .ref 163, .int a4, a5, a6], [.int (I 3000000 (tn (a4 + 1))), .ref 0], sM Ln I L c s)) ?_
  refine dd_Rn.cJ 1 (pc := 2138) (ls := [.ref 3000000, .ref 0, .ref 148, .ref 163, .int a4, a5, a6]) (st := [.ref 163, .int (I 3000000 (tn (a4 + 1))), .ref 0]) (x := m_L_mends) (as := [.ref 0, .int (I 3000000 (tn (a4 + 1))), .ref 163]) (rest := []) rfl rfl rfl rfl h ?_
  intro x1 I1 L1 c1 s1 h
  show dd_Rn (e + 16) m_L_law_ (2141, [.ref 3000000, .ref 0, .ref 148, .ref 163, .int a4, a5, a6], [.int x1], sM Ln I1 L1 c1 s1) _
  obtain ⟨hc, h⟩ := h
  refine dd_Rn.go 6 (cf' := (2149, [.ref 3000000, .ref 0, .ref 148, .ref 163, .int a4, .int x1, a6], [.int (a4 + 1), .ref 3000000, .ref 148], sM Ln I1 L1 c1 s1)) rfl ?_ (by omega)
  refine dd_Rn.ci (fun j0 => (2149, [.ref 3000000, .ref 0, .ref 148, .ref 163, .int a4, .int x1, a6], [.int j0, .ref 3000000, .ref 148], sM Ln I1 L1 c1 s1)) (fun j0 => (2150, [.ref 3000000, .ref 0, .ref 148, .ref 163, .int a4, .int x1, a6], [.int (I1 3000000 (tn j0)), .ref 148], sM Ln I1 L1 c1 s1)) (fun j0 => 0 ≤ j0 ∧ tn j0 < Ln) (a4 + 1) (fun j0 hc h => dd_Rn.chk 0 (c := 0 ≤ j0 ∧ tn j0 < Ln) (A := (2150, [.ref 3000000, .ref 0, .ref 148, .ref 163, .int a4, .int x1, a6], [.int (I1 3000000 (tn j0)), .ref 148], sM Ln I1 L1 c1 s1)) rfl hc h (by omega)) hc ?_
  refine dd_Rn.se (cf := (2150, [.ref 3000000, .ref 0, .ref 148, .ref 163, .int a4, .int x1, a6], [.int (I1 3000000 (tn (a4 + 1))), .ref 148], sM Ln I1 L1 c1 s1)) ?_
  refine dd_Rn.cI 0 (pc := 2150) (ls := [.ref 3000000, .ref 0, .ref 148, .ref 163, .int a4, .int x1, a6]) (st := [.int (I1 3000000 (tn (a4 + 1))), .ref 148]) (x := m_X11_mends) (as := [.ref 148, .int (I1 3000000 (tn (a4 + 1)))]) (rest := []) rfl rfl rfl rfl h ?_
  intro x2 I2 L2 h
  show dd_Rn (e + 16) m_L_law_ (2153, [.ref 3000000, .ref 0, .ref 148, .ref 163, .int a4, .int x1, a6], [.int x2], sM Ln I2 L2 c1 s1) _
  refine dd_Rn.sub 2 (pc := 2156) (ls := [.ref 3000000, .ref 0, .ref 148, .ref 163, .int a4, .int x1, .int x2]) (st := [.ref 148]) (M := sM Ln I2 L2 c1 s1) (x := m_X11_thrown) (as := [.ref 148]) (rest := []) rfl rfl rfl rfl ?_
  show dd_Rn (e + 15) m_X11_thrown (0, [.ref 148], [], sM Ln I2 L2 c1 s1) _
  refine dd_Rn.retK 2 (pc := 4) (ls := [.ref 148]) (st := [.int (I2 148 0)]) (M := sM Ln I2 L2 c1 s1) (o := (none, .int (I2 148 0), sM Ln I2 L2 c1 s1)) rfl rfl (dd_Af.ret rfl ?_) (by omega)
  show dd_Rn (e + 16) m_L_law_ (2159, [.ref 3000000, .ref 0, .ref 148, .ref 163, .int a4, .int x1, .int x2], [.int (I2 148 0)], sM Ln I2 L2 c1 s1) _
  refine dd_Rn.ite 1 (c := I2 148 0 = x1) (A := (2166, [.ref 3000000, .ref 0, .ref 148, .ref 163, .int a4, .int x1, .int x2], [], sM Ln I2 L2 c1 s1)) (B := (2164, [.ref 3000000, .ref 0, .ref 148, .ref 163, .int a4, .int x1, .int x2], [], sM Ln I2 L2 c1 s1)) rfl (fun hc => ?_) (fun hc => ?_) (by omega)
  · have h := h.1 hc
    refine dd_Rn.ite 1 (c := x1 = 0) (A := (2171, [.ref 3000000, .ref 0, .ref 148, .ref 163, .int a4, .int x1, .int x2], [], sM Ln I2 L2 c1 s1)) (B := (2183, [.ref 3000000, .ref 0, .ref 148, .ref 163, .int a4, .int x1, .int x2], [], sM Ln I2 L2 c1 s1)) rfl (fun hc => ?_) (fun hc => ?_) (by omega)
    · have h := h.1 hc
      refine dd_Rn.ite 6 (c := lg_cmp (L2 163 0) x2.toInt64 = 0) (A := (2183, [.ref 3000000, .ref 0, .ref 148, .ref 163, .int a4, .int x1, .int x2], [], sM Ln I2 L2 c1 s1)) (B := (2181, [.ref 3000000, .ref 0, .ref 148, .ref 163, .int a4, .int x1, .int x2], [], sM Ln I2 L2 c1 s1)) rfl (fun hc => ?_) (fun hc => ?_) (by omega)
      · have h := h.1 hc
        exact dd_Rn.go 0 (cf' := (2183, [.ref 3000000, .ref 0, .ref 148, .ref 163, .int a4, .int x1, .int x2], [], sM Ln I2 L2 c1 s1)) rfl h (by omega)
      · have h := h.2 hc
        exact dd_Rn.retK 1 (pc := 2182) (ls := [.ref 3000000, .ref 0, .ref 148, .ref 163, .int a4, .int x1, .int x2]) (st := [.int 0]) (M := sM Ln I2 L2 c1 s1) (o := (none, .int 0, sM Ln I2 L2 c1 s1)) rfl rfl h (by omega)
    · have h := h.2 hc
      exact dd_Rn.go 0 (cf' := (2183, [.ref 3000000, .ref 0, .ref 148, .ref 163, .int a4, .int x1, .int x2], [], sM Ln I2 L2 c1 s1)) rfl h (by omega)
  · have h := h.2 hc
    exact dd_Rn.retK 1 (pc := 2165) (ls := [.ref 3000000, .ref 0, .ref 148, .ref 163, .int a4, .int x1, .int x2]) (st := [.int 0]) (M := sM Ln I2 L2 c1 s1) (o := (none, .int 0, sM Ln I2 L2 c1 s1)) rfl rfl h (by omega)

theorem w_L_law__2183 {Ln d c s : Nat} {I : Nat → Nat → Int32} {L : Nat → Nat → Int64} {Q : dd_O → Prop} {a4 a5 a6 : Int32} (hd : 28 ≤ d) (h : dd_Rn d m_L_law_ (3009, [.ref 3000000, .ref 0, .ref 148, .ref 163, .int a4, .int a5, .int a6], [], sM Ln I L c s) Q) : dd_Rn d m_L_law_ (2183, [.ref 3000000, .ref 0, .ref 148, .ref 163, .int a4, .int a5, .int a6], [], sM Ln I L c s) Q := by
  obtain ⟨e, rfl⟩ : ∃ e, d = e + 16 := ⟨d - 16, by omega⟩
  exact dd_Rn.go 1 (cf' := (3009, [.ref 3000000, .ref 0, .ref 148, .ref 163, .int a4, .int a5, .int a6], [], sM Ln I L c s)) rfl h (by omega)

theorem w_L_law__2186 {Ln d c s : Nat} {I : Nat → Nat → Int32} {L : Nat → Nat → Int64} {Q : dd_O → Prop} {a4 : Int32} {a5 a6 : Value} (hd : 28 ≤ d) (h : ((0 ≤ a4 + 1 ∧ tn (a4 + 1) < Ln) ∧ ((0 ≤ a4 + 2 ∧ tn (a4 + 2) < Ln) ∧ dd_Ev (d - 1) m_L_meet [.ref 0, .int (I 3000000 (tn (a4 + 1))), .int (I 3000000 (tn (a4 + 2))), .ref 163] (sM Ln I L c s) (dd_RJ Ln c s (fun x1 I1 L1 c1 s1 => ((0 ≤ a4 + 1 ∧ tn (a4 + 1) < Ln) ∧ ((0 ≤ a4 + 2 ∧ tn (a4 + 2) < Ln) ∧ dd_Ev (d - 1) m_X11_meet [.ref 148, .int (I1 3000000 (tn (a4 + 1))), .int (I1 3000000 (tn (a4 + 2)))] (sM Ln I1 L1 c1 s1) (dd_RI Ln c1 s1 (fun x2 I2 L2 => ((I2 148 0 = x1 → ((x1 = 0 → ((lg_cmp (L2 163 0) x2.toInt64 = 0 → dd_Rn d m_L_law_ (2251, [.ref 3000000, .ref 0, .ref 148, .ref 163, .int a4, .int x1, .int x2], [], sM Ln I2 L2 c1 s1) Q) ∧ (¬ (lg_cmp (L2 163 0) x2.toInt64 = 0) → Q (none, .int 0, sM Ln I2 L2 c1 s1)))) ∧ (¬ (x1 = 0) → dd_Rn d m_L_law_ (2251, [.ref 3000000, .ref 0, .ref 148, .ref 163, .int a4, .int x1, .int x2], [], sM Ln I2 L2 c1 s1) Q))) ∧ (¬ (I2 148 0 = x1) → Q (none, .int 0, sM Ln I2 L2 c1 s1)))))))))))) : dd_Rn d m_L_law_ (2186, [.ref 3000000, .ref 0, .ref 148, .ref 163, .int a4, a5, a6], [], sM Ln I L c s) Q := by
  obtain ⟨e, rfl⟩ : ∃ e, d = e + 16 := ⟨d - 16, by omega⟩
  obtain ⟨hc, h⟩ := h
  refine dd_Rn.go 5 (cf' := (2192, [.ref 3000000, .ref 0, .ref 148, .ref 163, .int a4, a5, a6], [.int (a4 + 1), .ref 3000000, .ref 0], sM Ln I L c s)) rfl ?_ (by omega)
  refine dd_Rn.ci (fun j0 => (2192, [.ref 3000000, .ref 0, .ref 148, .ref 163, .int a4, a5, a6], [.int j0, .ref 3000000, .ref 0], sM Ln I L c s)) (fun j0 => (2193, [.ref 3000000, .ref 0, .ref 148, .ref 163, .int a4, a5, a6], [.int (I 3000000 (tn j0)), .ref 0], sM Ln I L c s)) (fun j0 => 0 ≤ j0 ∧ tn j0 < Ln) (a4 + 1) (fun j0 hc h => dd_Rn.chk 0 (c := 0 ≤ j0 ∧ tn j0 < Ln) (A := (2193, [.ref 3000000, .ref 0, .ref 148, .ref 163, .int a4, a5, a6], [.int (I 3000000 (tn j0)), .ref 0], sM Ln I L c s)) rfl hc h (by omega)) hc ?_
  refine dd_Rn.se (cf := (2193, [.ref 3000000, .ref 0, .ref 148, .ref 163, .int a4, a5, a6], [.int (I 3000000 (tn (a4 + 1))), .ref 0], sM Ln I L c s)) ?_
  obtain ⟨hc, h⟩ := h
  refine dd_Rn.go 4 (cf' := (2198, [.ref 3000000, .ref 0, .ref 148, .ref 163, .int a4, a5, a6], [.int (a4 + 2), .ref 3000000, .int (I 3000000 (tn (a4 + 1))), .ref 0], sM Ln I L c s)) rfl ?_ (by omega)
  refine dd_Rn.ci (fun j0 => (2198, [.ref 3000000, .ref 0, .ref 148, .ref 163, .int a4, a5, a6], [.int j0, .ref 3000000, .int (I 3000000 (tn (a4 + 1))), .ref 0], sM Ln I L c s)) (fun j0 => (2199, [.ref 3000000, .ref 0, .ref 148, .ref 163, .int a4, a5, a6], [.int (I 3000000 (tn j0)), .int (I 3000000 (tn (a4 + 1))), .ref 0], sM Ln I L c s)) (fun j0 => 0 ≤ j0 ∧ tn j0 < Ln) (a4 + 2) (fun j0 hc h => dd_Rn.chk 0 (c := 0 ≤ j0 ∧ tn j0 < Ln) (A := (2199, [.ref 3000000, .ref 0, .ref 148, .ref 163, .int a4, a5, a6], [.int (I 3000000 (tn j0)), .int (I 3000000 (tn (a4 + 1))), .ref 0], sM Ln I L c s)) rfl hc h (by omega)) hc ?_
  refine dd_Rn.se (cf := (2199, [.ref 3000000, .ref 0, .ref 148, .ref 163, .int a4, a5, a6], [.int (I 3000000 (tn (a4 + 2))), .int (I 3000000 (tn (a4 + 1))), .ref 0], sM Ln I L c s)) ?_
  refine dd_Rn.cJ 1 (pc := 2200) (ls := [.ref 3000000, .ref 0, .ref 148, .ref 163, .int a4, a5, a6]) (st := [.ref 163, .int (I 3000000 (tn (a4 + 2))), .int (I 3000000 (tn (a4 + 1))), .ref 0]) (x := m_L_meet) (as := [.ref 0, .int (I 3000000 (tn (a4 + 1))), .int (I 3000000 (tn (a4 + 2))), .ref 163]) (rest := []) rfl rfl rfl rfl h ?_
  intro x1 I1 L1 c1 s1 h
  show dd_Rn (e + 16) m_L_law_ (2203, [.ref 3000000, .ref 0, .ref 148, .ref 163, .int a4, a5, a6], [.int x1], sM Ln I1 L1 c1 s1) _
  obtain ⟨hc, h⟩ := h
  refine dd_Rn.go 6 (cf' := (2211, [.ref 3000000, .ref 0, .ref 148, .ref 163, .int a4, .int x1, a6], [.int (a4 + 1), .ref 3000000, .ref 148], sM Ln I1 L1 c1 s1)) rfl ?_ (by omega)
  refine dd_Rn.ci (fun j0 => (2211, [.ref 3000000, .ref 0, .ref 148, .ref 163, .int a4, .int x1, a6], [.int j0, .ref 3000000, .ref 148], sM Ln I1 L1 c1 s1)) (fun j0 => (2212, [.ref 3000000, .ref 0, .ref 148, .ref 163, .int a4, .int x1, a6], [.int (I1 3000000 (tn j0)), .ref 148], sM Ln I1 L1 c1 s1)) (fun j0 => 0 ≤ j0 ∧ tn j0 < Ln) (a4 + 1) (fun j0 hc h => dd_Rn.chk 0 (c := 0 ≤ j0 ∧ tn j0 < Ln) (A := (2212, [.ref 3000000, .ref 0, .ref 148, .ref 163, .int a4, .int x1, a6], [.int (I1 3000000 (tn j0)), .ref 148], sM Ln I1 L1 c1 s1)) rfl hc h (by omega)) hc ?_
  refine dd_Rn.se (cf := (2212, [.ref 3000000, .ref 0, .ref 148, .ref 163, .int a4, .int x1, a6], [.int (I1 3000000 (tn (a4 + 1))), .ref 148], sM Ln I1 L1 c1 s1)) ?_
  obtain ⟨hc, h⟩ := h
  refine dd_Rn.go 4 (cf' := (2217, [.ref 3000000, .ref 0, .ref 148, .ref 163, .int a4, .int x1, a6], [.int (a4 + 2), .ref 3000000, .int (I1 3000000 (tn (a4 + 1))), .ref 148], sM Ln I1 L1 c1 s1)) rfl ?_ (by omega)
  refine dd_Rn.ci (fun j0 => (2217, [.ref 3000000, .ref 0, .ref 148, .ref 163, .int a4, .int x1, a6], [.int j0, .ref 3000000, .int (I1 3000000 (tn (a4 + 1))), .ref 148], sM Ln I1 L1 c1 s1)) (fun j0 => (2218, [.ref 3000000, .ref 0, .ref 148, .ref 163, .int a4, .int x1, a6], [.int (I1 3000000 (tn j0)), .int (I1 3000000 (tn (a4 + 1))), .ref 148], sM Ln I1 L1 c1 s1)) (fun j0 => 0 ≤ j0 ∧ tn j0 < Ln) (a4 + 2) (fun j0 hc h => dd_Rn.chk 0 (c := 0 ≤ j0 ∧ tn j0 < Ln) (A := (2218, [.ref 3000000, .ref 0, .ref 148, .ref 163, .int a4, .int x1, a6], [.int (I1 3000000 (tn j0)), .int (I1 3000000 (tn (a4 + 1))), .ref 148], sM Ln I1 L1 c1 s1)) rfl hc h (by omega)) hc ?_
  refine dd_Rn.se (cf := (2218, [.ref 3000000, .ref 0, .ref 148, .ref 163, .int a4, .int x1, a6], [.int (I1 3000000 (tn (a4 + 2))), .int (I1 3000000 (tn (a4 + 1))), .ref 148], sM Ln I1 L1 c1 s1)) ?_
  refine dd_Rn.cI 0 (pc := 2218) (ls := [.ref 3000000, .ref 0, .ref 148, .ref 163, .int a4, .int x1, a6]) (st := [.int (I1 3000000 (tn (a4 + 2))), .int (I1 3000000 (tn (a4 + 1))), .ref 148]) (x := m_X11_meet) (as := [.ref 148, .int (I1 3000000 (tn (a4 + 1))), .int (I1 3000000 (tn (a4 + 2)))]) (rest := []) rfl rfl rfl rfl h ?_
  intro x2 I2 L2 h
  show dd_Rn (e + 16) m_L_law_ (2221, [.ref 3000000, .ref 0, .ref 148, .ref 163, .int a4, .int x1, a6], [.int x2], sM Ln I2 L2 c1 s1) _
  refine dd_Rn.sub 2 (pc := 2224) (ls := [.ref 3000000, .ref 0, .ref 148, .ref 163, .int a4, .int x1, .int x2]) (st := [.ref 148]) (M := sM Ln I2 L2 c1 s1) (x := m_X11_thrown) (as := [.ref 148]) (rest := []) rfl rfl rfl rfl ?_
  show dd_Rn (e + 15) m_X11_thrown (0, [.ref 148], [], sM Ln I2 L2 c1 s1) _
  refine dd_Rn.retK 2 (pc := 4) (ls := [.ref 148]) (st := [.int (I2 148 0)]) (M := sM Ln I2 L2 c1 s1) (o := (none, .int (I2 148 0), sM Ln I2 L2 c1 s1)) rfl rfl (dd_Af.ret rfl ?_) (by omega)
  show dd_Rn (e + 16) m_L_law_ (2227, [.ref 3000000, .ref 0, .ref 148, .ref 163, .int a4, .int x1, .int x2], [.int (I2 148 0)], sM Ln I2 L2 c1 s1) _
  refine dd_Rn.ite 1 (c := I2 148 0 = x1) (A := (2234, [.ref 3000000, .ref 0, .ref 148, .ref 163, .int a4, .int x1, .int x2], [], sM Ln I2 L2 c1 s1)) (B := (2232, [.ref 3000000, .ref 0, .ref 148, .ref 163, .int a4, .int x1, .int x2], [], sM Ln I2 L2 c1 s1)) rfl (fun hc => ?_) (fun hc => ?_) (by omega)
  · have h := h.1 hc
    refine dd_Rn.ite 1 (c := x1 = 0) (A := (2239, [.ref 3000000, .ref 0, .ref 148, .ref 163, .int a4, .int x1, .int x2], [], sM Ln I2 L2 c1 s1)) (B := (2251, [.ref 3000000, .ref 0, .ref 148, .ref 163, .int a4, .int x1, .int x2], [], sM Ln I2 L2 c1 s1)) rfl (fun hc => ?_) (fun hc => ?_) (by omega)
    · have h := h.1 hc
      refine dd_Rn.ite 6 (c := lg_cmp (L2 163 0) x2.toInt64 = 0) (A := (2251, [.ref 3000000, .ref 0, .ref 148, .ref 163, .int a4, .int x1, .int x2], [], sM Ln I2 L2 c1 s1)) (B := (2249, [.ref 3000000, .ref 0, .ref 148, .ref 163, .int a4, .int x1, .int x2], [], sM Ln I2 L2 c1 s1)) rfl (fun hc => ?_) (fun hc => ?_) (by omega)
      · have h := h.1 hc
        exact dd_Rn.go 0 (cf' := (2251, [.ref 3000000, .ref 0, .ref 148, .ref 163, .int a4, .int x1, .int x2], [], sM Ln I2 L2 c1 s1)) rfl h (by omega)
      · have h := h.2 hc
        exact dd_Rn.retK 1 (pc := 2250) (ls := [.ref 3000000, .ref 0, .ref 148, .ref 163, .int a4, .int x1, .int x2]) (st := [.int 0]) (M := sM Ln I2 L2 c1 s1) (o := (none, .int 0, sM Ln I2 L2 c1 s1)) rfl rfl h (by omega)
    · have h := h.2 hc
      exact dd_Rn.go 0 (cf' := (2251, [.ref 3000000, .ref 0, .ref 148, .ref 163, .int a4, .int x1, .int x2], [], sM Ln I2 L2 c1 s1)) rfl h (by omega)
  · have h := h.2 hc
    exact dd_Rn.retK 1 (pc := 2233) (ls := [.ref 3000000, .ref 0, .ref 148, .ref 163, .int a4, .int x1, .int x2]) (st := [.int 0]) (M := sM Ln I2 L2 c1 s1) (o := (none, .int 0, sM Ln I2 L2 c1 s1)) rfl rfl h (by omega)

theorem w_L_law__2251 {Ln d c s : Nat} {I : Nat → Nat → Int32} {L : Nat → Nat → Int64} {Q : dd_O → Prop} {a4 a5 a6 : Int32} (hd : 28 ≤ d) (h : dd_Rn d m_L_law_ (3009, [.ref 3000000, .ref 0, .ref 148, .ref 163, .int a4, .int a5, .int a6], [], sM Ln I L c s) Q) : dd_Rn d m_L_law_ (2251, [.ref 3000000, .ref 0, .ref 148, .ref 163, .int a4, .int a5, .int a6], [], sM Ln I L c s) Q := by
  obtain ⟨e, rfl⟩ : ∃ e, d = e + 16 := ⟨d - 16, by omega⟩
  exact dd_Rn.go 1 (cf' := (3009, [.ref 3000000, .ref 0, .ref 148, .ref 163, .int a4, .int a5, .int a6], [], sM Ln I L c s)) rfl h (by omega)

theorem w_L_law__2254 {Ln d c s : Nat} {I : Nat → Nat → Int32} {L : Nat → Nat → Int64} {Q : dd_O → Prop} {a4 : Int32} {a5 a6 : Value} (hd : 28 ≤ d) (h : dd_Ev (d - 1) m_X10_sooner [.ref 0] (sM Ln I L c s) (dd_RI Ln c s (fun x1 I1 L1 => dd_Ev (d - 1) m_X11_sooner [.ref 148] (sM Ln I1 L1 c s) (dd_RI Ln c s (fun x2 I2 L2 => ((x1 = x2 → dd_Rn d m_L_law_ (3009, [.ref 3000000, .ref 0, .ref 148, .ref 163, .int a4, a5, a6], [], sM Ln I2 L2 c s) Q) ∧ (¬ (x1 = x2) → Q (none, .int 0, sM Ln I2 L2 c s)))))))) : dd_Rn d m_L_law_ (2254, [.ref 3000000, .ref 0, .ref 148, .ref 163, .int a4, a5, a6], [], sM Ln I L c s) Q := by
  obtain ⟨e, rfl⟩ : ∃ e, d = e + 16 := ⟨d - 16, by omega⟩
  refine dd_Rn.cI 1 (pc := 2255) (ls := [.ref 3000000, .ref 0, .ref 148, .ref 163, .int a4, a5, a6]) (st := [.ref 0]) (x := m_X10_sooner) (as := [.ref 0]) (rest := []) rfl rfl rfl rfl h ?_
  intro x1 I1 L1 h
  show dd_Rn (e + 16) m_L_law_ (2258, [.ref 3000000, .ref 0, .ref 148, .ref 163, .int a4, a5, a6], [.int x1], sM Ln I1 L1 c s) _
  refine dd_Rn.cI 1 (pc := 2259) (ls := [.ref 3000000, .ref 0, .ref 148, .ref 163, .int a4, a5, a6]) (st := [.ref 148, .int x1]) (x := m_X11_sooner) (as := [.ref 148]) (rest := [.int x1]) rfl rfl rfl rfl h ?_
  intro x2 I2 L2 h
  show dd_Rn (e + 16) m_L_law_ (2262, [.ref 3000000, .ref 0, .ref 148, .ref 163, .int a4, a5, a6], [.int x2, .int x1], sM Ln I2 L2 c s) _
  refine dd_Rn.ite 0 (c := x1 = x2) (A := (3009, [.ref 3000000, .ref 0, .ref 148, .ref 163, .int a4, a5, a6], [], sM Ln I2 L2 c s)) (B := (2265, [.ref 3000000, .ref 0, .ref 148, .ref 163, .int a4, a5, a6], [], sM Ln I2 L2 c s)) rfl (fun hc => ?_) (fun hc => ?_) (by omega)
  · have h := h.1 hc
    exact dd_Rn.go 0 (cf' := (3009, [.ref 3000000, .ref 0, .ref 148, .ref 163, .int a4, a5, a6], [], sM Ln I2 L2 c s)) rfl h (by omega)
  · have h := h.2 hc
    exact dd_Rn.retK 1 (pc := 2266) (ls := [.ref 3000000, .ref 0, .ref 148, .ref 163, .int a4, a5, a6]) (st := [.int 0]) (M := sM Ln I2 L2 c s) (o := (none, .int 0, sM Ln I2 L2 c s)) rfl rfl h (by omega)

theorem w_L_law__2267 {Ln d c s : Nat} {I : Nat → Nat → Int32} {L : Nat → Nat → Int64} {Q : dd_O → Prop} {a4 : Int32} {a5 a6 : Value} (hd : 28 ≤ d) (h : dd_Ev (d - 1) m_X10_loudest [.ref 0] (sM Ln I L c s) (dd_RI Ln c s (fun x1 I1 L1 => dd_Ev (d - 1) m_X11_loudest [.ref 148] (sM Ln I1 L1 c s) (dd_RI Ln c s (fun x2 I2 L2 => ((x1 = x2 → dd_Rn d m_L_law_ (3009, [.ref 3000000, .ref 0, .ref 148, .ref 163, .int a4, a5, a6], [], sM Ln I2 L2 c s) Q) ∧ (¬ (x1 = x2) → Q (none, .int 0, sM Ln I2 L2 c s)))))))) : dd_Rn d m_L_law_ (2267, [.ref 3000000, .ref 0, .ref 148, .ref 163, .int a4, a5, a6], [], sM Ln I L c s) Q := by
  obtain ⟨e, rfl⟩ : ∃ e, d = e + 16 := ⟨d - 16, by omega⟩
  refine dd_Rn.cI 1 (pc := 2268) (ls := [.ref 3000000, .ref 0, .ref 148, .ref 163, .int a4, a5, a6]) (st := [.ref 0]) (x := m_X10_loudest) (as := [.ref 0]) (rest := []) rfl rfl rfl rfl h ?_
  intro x1 I1 L1 h
  show dd_Rn (e + 16) m_L_law_ (2271, [.ref 3000000, .ref 0, .ref 148, .ref 163, .int a4, a5, a6], [.int x1], sM Ln I1 L1 c s) _
  refine dd_Rn.cI 1 (pc := 2272) (ls := [.ref 3000000, .ref 0, .ref 148, .ref 163, .int a4, a5, a6]) (st := [.ref 148, .int x1]) (x := m_X11_loudest) (as := [.ref 148]) (rest := [.int x1]) rfl rfl rfl rfl h ?_
  intro x2 I2 L2 h
  show dd_Rn (e + 16) m_L_law_ (2275, [.ref 3000000, .ref 0, .ref 148, .ref 163, .int a4, a5, a6], [.int x2, .int x1], sM Ln I2 L2 c s) _
  refine dd_Rn.ite 0 (c := x1 = x2) (A := (3009, [.ref 3000000, .ref 0, .ref 148, .ref 163, .int a4, a5, a6], [], sM Ln I2 L2 c s)) (B := (2278, [.ref 3000000, .ref 0, .ref 148, .ref 163, .int a4, a5, a6], [], sM Ln I2 L2 c s)) rfl (fun hc => ?_) (fun hc => ?_) (by omega)
  · have h := h.1 hc
    exact dd_Rn.go 0 (cf' := (3009, [.ref 3000000, .ref 0, .ref 148, .ref 163, .int a4, a5, a6], [], sM Ln I2 L2 c s)) rfl h (by omega)
  · have h := h.2 hc
    exact dd_Rn.retK 1 (pc := 2279) (ls := [.ref 3000000, .ref 0, .ref 148, .ref 163, .int a4, a5, a6]) (st := [.int 0]) (M := sM Ln I2 L2 c s) (o := (none, .int 0, sM Ln I2 L2 c s)) rfl rfl h (by omega)

theorem w_L_law__2280 {Ln d c s : Nat} {I : Nat → Nat → Int32} {L : Nat → Nat → Int64} {Q : dd_O → Prop} {a4 : Int32} {a5 a6 : Value} (hd : 28 ≤ d) (h : dd_Ev (d - 1) m_X10_watch [.ref 0] (sM Ln I L c s) (dd_RI Ln c s (fun x1 I1 L1 => dd_Ev (d - 1) m_X11_watch [.ref 148] (sM Ln I1 L1 c s) (dd_RI Ln c s (fun x2 I2 L2 => ((x1 = x2 → dd_Rn d m_L_law_ (3009, [.ref 3000000, .ref 0, .ref 148, .ref 163, .int a4, a5, a6], [], sM Ln I2 L2 c s) Q) ∧ (¬ (x1 = x2) → Q (none, .int 0, sM Ln I2 L2 c s)))))))) : dd_Rn d m_L_law_ (2280, [.ref 3000000, .ref 0, .ref 148, .ref 163, .int a4, a5, a6], [], sM Ln I L c s) Q := by
  obtain ⟨e, rfl⟩ : ∃ e, d = e + 16 := ⟨d - 16, by omega⟩
  refine dd_Rn.cI 1 (pc := 2281) (ls := [.ref 3000000, .ref 0, .ref 148, .ref 163, .int a4, a5, a6]) (st := [.ref 0]) (x := m_X10_watch) (as := [.ref 0]) (rest := []) rfl rfl rfl rfl h ?_
  intro x1 I1 L1 h
  show dd_Rn (e + 16) m_L_law_ (2284, [.ref 3000000, .ref 0, .ref 148, .ref 163, .int a4, a5, a6], [.int x1], sM Ln I1 L1 c s) _
  refine dd_Rn.cI 1 (pc := 2285) (ls := [.ref 3000000, .ref 0, .ref 148, .ref 163, .int a4, a5, a6]) (st := [.ref 148, .int x1]) (x := m_X11_watch) (as := [.ref 148]) (rest := [.int x1]) rfl rfl rfl rfl h ?_
  intro x2 I2 L2 h
  show dd_Rn (e + 16) m_L_law_ (2288, [.ref 3000000, .ref 0, .ref 148, .ref 163, .int a4, a5, a6], [.int x2, .int x1], sM Ln I2 L2 c s) _
  refine dd_Rn.ite 0 (c := x1 = x2) (A := (3009, [.ref 3000000, .ref 0, .ref 148, .ref 163, .int a4, a5, a6], [], sM Ln I2 L2 c s)) (B := (2291, [.ref 3000000, .ref 0, .ref 148, .ref 163, .int a4, a5, a6], [], sM Ln I2 L2 c s)) rfl (fun hc => ?_) (fun hc => ?_) (by omega)
  · have h := h.1 hc
    exact dd_Rn.go 0 (cf' := (3009, [.ref 3000000, .ref 0, .ref 148, .ref 163, .int a4, a5, a6], [], sM Ln I2 L2 c s)) rfl h (by omega)
  · have h := h.2 hc
    exact dd_Rn.retK 1 (pc := 2292) (ls := [.ref 3000000, .ref 0, .ref 148, .ref 163, .int a4, a5, a6]) (st := [.int 0]) (M := sM Ln I2 L2 c s) (o := (none, .int 0, sM Ln I2 L2 c s)) rfl rfl h (by omega)

theorem w_L_law__2293 {Ln d c s : Nat} {I : Nat → Nat → Int32} {L : Nat → Nat → Int64} {Q : dd_O → Prop} {a4 : Int32} {a5 a6 : Value} (hd : 28 ≤ d) (h : dd_Ev (d - 1) m_X10_clearings [.ref 0] (sM Ln I L c s) (dd_RI Ln c s (fun x1 I1 L1 => dd_Ev (d - 1) m_X11_clearings [.ref 148] (sM Ln I1 L1 c s) (dd_RI Ln c s (fun x2 I2 L2 => ((x1 = x2 → dd_Rn d m_L_law_ (3009, [.ref 3000000, .ref 0, .ref 148, .ref 163, .int a4, a5, a6], [], sM Ln I2 L2 c s) Q) ∧ (¬ (x1 = x2) → Q (none, .int 0, sM Ln I2 L2 c s)))))))) : dd_Rn d m_L_law_ (2293, [.ref 3000000, .ref 0, .ref 148, .ref 163, .int a4, a5, a6], [], sM Ln I L c s) Q := by
  obtain ⟨e, rfl⟩ : ∃ e, d = e + 16 := ⟨d - 16, by omega⟩
  refine dd_Rn.cI 1 (pc := 2294) (ls := [.ref 3000000, .ref 0, .ref 148, .ref 163, .int a4, a5, a6]) (st := [.ref 0]) (x := m_X10_clearings) (as := [.ref 0]) (rest := []) rfl rfl rfl rfl h ?_
  intro x1 I1 L1 h
  show dd_Rn (e + 16) m_L_law_ (2297, [.ref 3000000, .ref 0, .ref 148, .ref 163, .int a4, a5, a6], [.int x1], sM Ln I1 L1 c s) _
  refine dd_Rn.cI 1 (pc := 2298) (ls := [.ref 3000000, .ref 0, .ref 148, .ref 163, .int a4, a5, a6]) (st := [.ref 148, .int x1]) (x := m_X11_clearings) (as := [.ref 148]) (rest := [.int x1]) rfl rfl rfl rfl h ?_
  intro x2 I2 L2 h
  show dd_Rn (e + 16) m_L_law_ (2301, [.ref 3000000, .ref 0, .ref 148, .ref 163, .int a4, a5, a6], [.int x2, .int x1], sM Ln I2 L2 c s) _
  refine dd_Rn.ite 0 (c := x1 = x2) (A := (3009, [.ref 3000000, .ref 0, .ref 148, .ref 163, .int a4, a5, a6], [], sM Ln I2 L2 c s)) (B := (2304, [.ref 3000000, .ref 0, .ref 148, .ref 163, .int a4, a5, a6], [], sM Ln I2 L2 c s)) rfl (fun hc => ?_) (fun hc => ?_) (by omega)
  · have h := h.1 hc
    exact dd_Rn.go 0 (cf' := (3009, [.ref 3000000, .ref 0, .ref 148, .ref 163, .int a4, a5, a6], [], sM Ln I2 L2 c s)) rfl h (by omega)
  · have h := h.2 hc
    exact dd_Rn.retK 1 (pc := 2305) (ls := [.ref 3000000, .ref 0, .ref 148, .ref 163, .int a4, a5, a6]) (st := [.int 0]) (M := sM Ln I2 L2 c s) (o := (none, .int 0, sM Ln I2 L2 c s)) rfl rfl h (by omega)

theorem w_L_law__2306 {Ln d c s : Nat} {I : Nat → Nat → Int32} {L : Nat → Nat → Int64} {Q : dd_O → Prop} {a4 : Int32} {a5 a6 : Value} (hd : 28 ≤ d) (h : dd_Ev (d - 1) m_X10_splits [.ref 0] (sM Ln I L c s) (dd_RI Ln c s (fun x1 I1 L1 => dd_Ev (d - 1) m_X11_splits [.ref 148] (sM Ln I1 L1 c s) (dd_RI Ln c s (fun x2 I2 L2 => ((x1 = x2 → dd_Rn d m_L_law_ (3009, [.ref 3000000, .ref 0, .ref 148, .ref 163, .int a4, a5, a6], [], sM Ln I2 L2 c s) Q) ∧ (¬ (x1 = x2) → Q (none, .int 0, sM Ln I2 L2 c s)))))))) : dd_Rn d m_L_law_ (2306, [.ref 3000000, .ref 0, .ref 148, .ref 163, .int a4, a5, a6], [], sM Ln I L c s) Q := by
  obtain ⟨e, rfl⟩ : ∃ e, d = e + 16 := ⟨d - 16, by omega⟩
  refine dd_Rn.cI 1 (pc := 2307) (ls := [.ref 3000000, .ref 0, .ref 148, .ref 163, .int a4, a5, a6]) (st := [.ref 0]) (x := m_X10_splits) (as := [.ref 0]) (rest := []) rfl rfl rfl rfl h ?_
  intro x1 I1 L1 h
  show dd_Rn (e + 16) m_L_law_ (2310, [.ref 3000000, .ref 0, .ref 148, .ref 163, .int a4, a5, a6], [.int x1], sM Ln I1 L1 c s) _
  refine dd_Rn.cI 1 (pc := 2311) (ls := [.ref 3000000, .ref 0, .ref 148, .ref 163, .int a4, a5, a6]) (st := [.ref 148, .int x1]) (x := m_X11_splits) (as := [.ref 148]) (rest := [.int x1]) rfl rfl rfl rfl h ?_
  intro x2 I2 L2 h
  show dd_Rn (e + 16) m_L_law_ (2314, [.ref 3000000, .ref 0, .ref 148, .ref 163, .int a4, a5, a6], [.int x2, .int x1], sM Ln I2 L2 c s) _
  refine dd_Rn.ite 0 (c := x1 = x2) (A := (3009, [.ref 3000000, .ref 0, .ref 148, .ref 163, .int a4, a5, a6], [], sM Ln I2 L2 c s)) (B := (2317, [.ref 3000000, .ref 0, .ref 148, .ref 163, .int a4, a5, a6], [], sM Ln I2 L2 c s)) rfl (fun hc => ?_) (fun hc => ?_) (by omega)
  · have h := h.1 hc
    exact dd_Rn.go 0 (cf' := (3009, [.ref 3000000, .ref 0, .ref 148, .ref 163, .int a4, a5, a6], [], sM Ln I2 L2 c s)) rfl h (by omega)
  · have h := h.2 hc
    exact dd_Rn.retK 1 (pc := 2318) (ls := [.ref 3000000, .ref 0, .ref 148, .ref 163, .int a4, a5, a6]) (st := [.int 0]) (M := sM Ln I2 L2 c s) (o := (none, .int 0, sM Ln I2 L2 c s)) rfl rfl h (by omega)

theorem w_L_law__2319 {Ln d c s : Nat} {I : Nat → Nat → Int32} {L : Nat → Nat → Int64} {Q : dd_O → Prop} {a4 : Int32} {a5 a6 : Value} (hd : 28 ≤ d) (h : ((0 ≤ a4 + 1 ∧ tn (a4 + 1) < Ln) ∧ dd_Ev (d - 1) m_L_rests [.ref 0, .int (I 3000000 (tn (a4 + 1))), .ref 163] (sM Ln I L c s) (dd_RJ Ln c s (fun x1 I1 L1 c1 s1 => ((0 ≤ a4 + 1 ∧ tn (a4 + 1) < Ln) ∧ dd_Ev (d - 1) m_X11_rests [.ref 148, .int (I1 3000000 (tn (a4 + 1)))] (sM Ln I1 L1 c1 s1) (dd_RI Ln c1 s1 (fun x2 I2 L2 => ((I2 148 0 = x1 → ((x1 = 0 → ((lg_cmp (L2 163 0) x2.toInt64 = 0 → dd_Rn d m_L_law_ (2372, [.ref 3000000, .ref 0, .ref 148, .ref 163, .int a4, .int x1, .int x2], [], sM Ln I2 L2 c1 s1) Q) ∧ (¬ (lg_cmp (L2 163 0) x2.toInt64 = 0) → Q (none, .int 0, sM Ln I2 L2 c1 s1)))) ∧ (¬ (x1 = 0) → dd_Rn d m_L_law_ (2372, [.ref 3000000, .ref 0, .ref 148, .ref 163, .int a4, .int x1, .int x2], [], sM Ln I2 L2 c1 s1) Q))) ∧ (¬ (I2 148 0 = x1) → Q (none, .int 0, sM Ln I2 L2 c1 s1)))))))))) : dd_Rn d m_L_law_ (2319, [.ref 3000000, .ref 0, .ref 148, .ref 163, .int a4, a5, a6], [], sM Ln I L c s) Q := by
  obtain ⟨e, rfl⟩ : ∃ e, d = e + 16 := ⟨d - 16, by omega⟩
  obtain ⟨hc, h⟩ := h
  refine dd_Rn.go 5 (cf' := (2325, [.ref 3000000, .ref 0, .ref 148, .ref 163, .int a4, a5, a6], [.int (a4 + 1), .ref 3000000, .ref 0], sM Ln I L c s)) rfl ?_ (by omega)
  refine dd_Rn.ci (fun j0 => (2325, [.ref 3000000, .ref 0, .ref 148, .ref 163, .int a4, a5, a6], [.int j0, .ref 3000000, .ref 0], sM Ln I L c s)) (fun j0 => (2326, [.ref 3000000, .ref 0, .ref 148, .ref 163, .int a4, a5, a6], [.int (I 3000000 (tn j0)), .ref 0], sM Ln I L c s)) (fun j0 => 0 ≤ j0 ∧ tn j0 < Ln) (a4 + 1) (fun j0 hc h => dd_Rn.chk 0 (c := 0 ≤ j0 ∧ tn j0 < Ln) (A := (2326, [.ref 3000000, .ref 0, .ref 148, .ref 163, .int a4, a5, a6], [.int (I 3000000 (tn j0)), .ref 0], sM Ln I L c s)) rfl hc h (by omega)) hc ?_
  refine dd_Rn.se (cf := (2326, [.ref 3000000, .ref 0, .ref 148, .ref 163, .int a4, a5, a6], [.int (I 3000000 (tn (a4 + 1))), .ref 0], sM Ln I L c s)) ?_
  refine dd_Rn.cJ 1 (pc := 2327) (ls := [.ref 3000000, .ref 0, .ref 148, .ref 163, .int a4, a5, a6]) (st := [.ref 163, .int (I 3000000 (tn (a4 + 1))), .ref 0]) (x := m_L_rests) (as := [.ref 0, .int (I 3000000 (tn (a4 + 1))), .ref 163]) (rest := []) rfl rfl rfl rfl h ?_
  intro x1 I1 L1 c1 s1 h
  show dd_Rn (e + 16) m_L_law_ (2330, [.ref 3000000, .ref 0, .ref 148, .ref 163, .int a4, a5, a6], [.int x1], sM Ln I1 L1 c1 s1) _
  obtain ⟨hc, h⟩ := h
  refine dd_Rn.go 6 (cf' := (2338, [.ref 3000000, .ref 0, .ref 148, .ref 163, .int a4, .int x1, a6], [.int (a4 + 1), .ref 3000000, .ref 148], sM Ln I1 L1 c1 s1)) rfl ?_ (by omega)
  refine dd_Rn.ci (fun j0 => (2338, [.ref 3000000, .ref 0, .ref 148, .ref 163, .int a4, .int x1, a6], [.int j0, .ref 3000000, .ref 148], sM Ln I1 L1 c1 s1)) (fun j0 => (2339, [.ref 3000000, .ref 0, .ref 148, .ref 163, .int a4, .int x1, a6], [.int (I1 3000000 (tn j0)), .ref 148], sM Ln I1 L1 c1 s1)) (fun j0 => 0 ≤ j0 ∧ tn j0 < Ln) (a4 + 1) (fun j0 hc h => dd_Rn.chk 0 (c := 0 ≤ j0 ∧ tn j0 < Ln) (A := (2339, [.ref 3000000, .ref 0, .ref 148, .ref 163, .int a4, .int x1, a6], [.int (I1 3000000 (tn j0)), .ref 148], sM Ln I1 L1 c1 s1)) rfl hc h (by omega)) hc ?_
  refine dd_Rn.se (cf := (2339, [.ref 3000000, .ref 0, .ref 148, .ref 163, .int a4, .int x1, a6], [.int (I1 3000000 (tn (a4 + 1))), .ref 148], sM Ln I1 L1 c1 s1)) ?_
  refine dd_Rn.cI 0 (pc := 2339) (ls := [.ref 3000000, .ref 0, .ref 148, .ref 163, .int a4, .int x1, a6]) (st := [.int (I1 3000000 (tn (a4 + 1))), .ref 148]) (x := m_X11_rests) (as := [.ref 148, .int (I1 3000000 (tn (a4 + 1)))]) (rest := []) rfl rfl rfl rfl h ?_
  intro x2 I2 L2 h
  show dd_Rn (e + 16) m_L_law_ (2342, [.ref 3000000, .ref 0, .ref 148, .ref 163, .int a4, .int x1, a6], [.int x2], sM Ln I2 L2 c1 s1) _
  refine dd_Rn.sub 2 (pc := 2345) (ls := [.ref 3000000, .ref 0, .ref 148, .ref 163, .int a4, .int x1, .int x2]) (st := [.ref 148]) (M := sM Ln I2 L2 c1 s1) (x := m_X11_thrown) (as := [.ref 148]) (rest := []) rfl rfl rfl rfl ?_
  show dd_Rn (e + 15) m_X11_thrown (0, [.ref 148], [], sM Ln I2 L2 c1 s1) _
  refine dd_Rn.retK 2 (pc := 4) (ls := [.ref 148]) (st := [.int (I2 148 0)]) (M := sM Ln I2 L2 c1 s1) (o := (none, .int (I2 148 0), sM Ln I2 L2 c1 s1)) rfl rfl (dd_Af.ret rfl ?_) (by omega)
  show dd_Rn (e + 16) m_L_law_ (2348, [.ref 3000000, .ref 0, .ref 148, .ref 163, .int a4, .int x1, .int x2], [.int (I2 148 0)], sM Ln I2 L2 c1 s1) _
  refine dd_Rn.ite 1 (c := I2 148 0 = x1) (A := (2355, [.ref 3000000, .ref 0, .ref 148, .ref 163, .int a4, .int x1, .int x2], [], sM Ln I2 L2 c1 s1)) (B := (2353, [.ref 3000000, .ref 0, .ref 148, .ref 163, .int a4, .int x1, .int x2], [], sM Ln I2 L2 c1 s1)) rfl (fun hc => ?_) (fun hc => ?_) (by omega)
  · have h := h.1 hc
    refine dd_Rn.ite 1 (c := x1 = 0) (A := (2360, [.ref 3000000, .ref 0, .ref 148, .ref 163, .int a4, .int x1, .int x2], [], sM Ln I2 L2 c1 s1)) (B := (2372, [.ref 3000000, .ref 0, .ref 148, .ref 163, .int a4, .int x1, .int x2], [], sM Ln I2 L2 c1 s1)) rfl (fun hc => ?_) (fun hc => ?_) (by omega)
    · have h := h.1 hc
      refine dd_Rn.ite 6 (c := lg_cmp (L2 163 0) x2.toInt64 = 0) (A := (2372, [.ref 3000000, .ref 0, .ref 148, .ref 163, .int a4, .int x1, .int x2], [], sM Ln I2 L2 c1 s1)) (B := (2370, [.ref 3000000, .ref 0, .ref 148, .ref 163, .int a4, .int x1, .int x2], [], sM Ln I2 L2 c1 s1)) rfl (fun hc => ?_) (fun hc => ?_) (by omega)
      · have h := h.1 hc
        exact dd_Rn.go 0 (cf' := (2372, [.ref 3000000, .ref 0, .ref 148, .ref 163, .int a4, .int x1, .int x2], [], sM Ln I2 L2 c1 s1)) rfl h (by omega)
      · have h := h.2 hc
        exact dd_Rn.retK 1 (pc := 2371) (ls := [.ref 3000000, .ref 0, .ref 148, .ref 163, .int a4, .int x1, .int x2]) (st := [.int 0]) (M := sM Ln I2 L2 c1 s1) (o := (none, .int 0, sM Ln I2 L2 c1 s1)) rfl rfl h (by omega)
    · have h := h.2 hc
      exact dd_Rn.go 0 (cf' := (2372, [.ref 3000000, .ref 0, .ref 148, .ref 163, .int a4, .int x1, .int x2], [], sM Ln I2 L2 c1 s1)) rfl h (by omega)
  · have h := h.2 hc
    exact dd_Rn.retK 1 (pc := 2354) (ls := [.ref 3000000, .ref 0, .ref 148, .ref 163, .int a4, .int x1, .int x2]) (st := [.int 0]) (M := sM Ln I2 L2 c1 s1) (o := (none, .int 0, sM Ln I2 L2 c1 s1)) rfl rfl h (by omega)

theorem w_L_law__2372 {Ln d c s : Nat} {I : Nat → Nat → Int32} {L : Nat → Nat → Int64} {Q : dd_O → Prop} {a4 a5 a6 : Int32} (hd : 28 ≤ d) (h : dd_Rn d m_L_law_ (3009, [.ref 3000000, .ref 0, .ref 148, .ref 163, .int a4, .int a5, .int a6], [], sM Ln I L c s) Q) : dd_Rn d m_L_law_ (2372, [.ref 3000000, .ref 0, .ref 148, .ref 163, .int a4, .int a5, .int a6], [], sM Ln I L c s) Q := by
  obtain ⟨e, rfl⟩ : ∃ e, d = e + 16 := ⟨d - 16, by omega⟩
  exact dd_Rn.go 1 (cf' := (3009, [.ref 3000000, .ref 0, .ref 148, .ref 163, .int a4, .int a5, .int a6], [], sM Ln I L c s)) rfl h (by omega)

theorem w_L_law__2375 {Ln d c s : Nat} {I : Nat → Nat → Int32} {L : Nat → Nat → Int64} {Q : dd_O → Prop} {a4 : Int32} {a5 a6 : Value} (hd : 28 ≤ d) (h : dd_Ev (d - 1) m_X10_hearing [.ref 0] (sM Ln I L c s) (dd_RI Ln c s (fun x1 I1 L1 => dd_Ev (d - 1) m_X11_hearing [.ref 148] (sM Ln I1 L1 c s) (dd_RI Ln c s (fun x2 I2 L2 => ((x1 = x2 → dd_Rn d m_L_law_ (3009, [.ref 3000000, .ref 0, .ref 148, .ref 163, .int a4, a5, a6], [], sM Ln I2 L2 c s) Q) ∧ (¬ (x1 = x2) → Q (none, .int 0, sM Ln I2 L2 c s)))))))) : dd_Rn d m_L_law_ (2375, [.ref 3000000, .ref 0, .ref 148, .ref 163, .int a4, a5, a6], [], sM Ln I L c s) Q := by
  obtain ⟨e, rfl⟩ : ∃ e, d = e + 16 := ⟨d - 16, by omega⟩
  refine dd_Rn.cI 1 (pc := 2376) (ls := [.ref 3000000, .ref 0, .ref 148, .ref 163, .int a4, a5, a6]) (st := [.ref 0]) (x := m_X10_hearing) (as := [.ref 0]) (rest := []) rfl rfl rfl rfl h ?_
  intro x1 I1 L1 h
  show dd_Rn (e + 16) m_L_law_ (2379, [.ref 3000000, .ref 0, .ref 148, .ref 163, .int a4, a5, a6], [.int x1], sM Ln I1 L1 c s) _
  refine dd_Rn.cI 1 (pc := 2380) (ls := [.ref 3000000, .ref 0, .ref 148, .ref 163, .int a4, a5, a6]) (st := [.ref 148, .int x1]) (x := m_X11_hearing) (as := [.ref 148]) (rest := [.int x1]) rfl rfl rfl rfl h ?_
  intro x2 I2 L2 h
  show dd_Rn (e + 16) m_L_law_ (2383, [.ref 3000000, .ref 0, .ref 148, .ref 163, .int a4, a5, a6], [.int x2, .int x1], sM Ln I2 L2 c s) _
  refine dd_Rn.ite 0 (c := x1 = x2) (A := (3009, [.ref 3000000, .ref 0, .ref 148, .ref 163, .int a4, a5, a6], [], sM Ln I2 L2 c s)) (B := (2386, [.ref 3000000, .ref 0, .ref 148, .ref 163, .int a4, a5, a6], [], sM Ln I2 L2 c s)) rfl (fun hc => ?_) (fun hc => ?_) (by omega)
  · have h := h.1 hc
    exact dd_Rn.go 0 (cf' := (3009, [.ref 3000000, .ref 0, .ref 148, .ref 163, .int a4, a5, a6], [], sM Ln I2 L2 c s)) rfl h (by omega)
  · have h := h.2 hc
    exact dd_Rn.retK 1 (pc := 2387) (ls := [.ref 3000000, .ref 0, .ref 148, .ref 163, .int a4, a5, a6]) (st := [.int 0]) (M := sM Ln I2 L2 c s) (o := (none, .int 0, sM Ln I2 L2 c s)) rfl rfl h (by omega)

theorem w_L_law__2388 {Ln d c s : Nat} {I : Nat → Nat → Int32} {L : Nat → Nat → Int64} {Q : dd_O → Prop} {a4 : Int32} {a5 a6 : Value} (hd : 28 ≤ d) (h : dd_Ev (d - 1) m_X10_dense [.ref 0] (sM Ln I L c s) (dd_RI Ln c s (fun x1 I1 L1 => dd_Ev (d - 1) m_X11_dense [.ref 148] (sM Ln I1 L1 c s) (dd_RI Ln c s (fun x2 I2 L2 => ((x1 = x2 → dd_Rn d m_L_law_ (3009, [.ref 3000000, .ref 0, .ref 148, .ref 163, .int a4, a5, a6], [], sM Ln I2 L2 c s) Q) ∧ (¬ (x1 = x2) → Q (none, .int 0, sM Ln I2 L2 c s)))))))) : dd_Rn d m_L_law_ (2388, [.ref 3000000, .ref 0, .ref 148, .ref 163, .int a4, a5, a6], [], sM Ln I L c s) Q := by
  obtain ⟨e, rfl⟩ : ∃ e, d = e + 16 := ⟨d - 16, by omega⟩
  refine dd_Rn.cI 1 (pc := 2389) (ls := [.ref 3000000, .ref 0, .ref 148, .ref 163, .int a4, a5, a6]) (st := [.ref 0]) (x := m_X10_dense) (as := [.ref 0]) (rest := []) rfl rfl rfl rfl h ?_
  intro x1 I1 L1 h
  show dd_Rn (e + 16) m_L_law_ (2392, [.ref 3000000, .ref 0, .ref 148, .ref 163, .int a4, a5, a6], [.int x1], sM Ln I1 L1 c s) _
  refine dd_Rn.cI 1 (pc := 2393) (ls := [.ref 3000000, .ref 0, .ref 148, .ref 163, .int a4, a5, a6]) (st := [.ref 148, .int x1]) (x := m_X11_dense) (as := [.ref 148]) (rest := [.int x1]) rfl rfl rfl rfl h ?_
  intro x2 I2 L2 h
  show dd_Rn (e + 16) m_L_law_ (2396, [.ref 3000000, .ref 0, .ref 148, .ref 163, .int a4, a5, a6], [.int x2, .int x1], sM Ln I2 L2 c s) _
  refine dd_Rn.ite 0 (c := x1 = x2) (A := (3009, [.ref 3000000, .ref 0, .ref 148, .ref 163, .int a4, a5, a6], [], sM Ln I2 L2 c s)) (B := (2399, [.ref 3000000, .ref 0, .ref 148, .ref 163, .int a4, a5, a6], [], sM Ln I2 L2 c s)) rfl (fun hc => ?_) (fun hc => ?_) (by omega)
  · have h := h.1 hc
    exact dd_Rn.go 0 (cf' := (3009, [.ref 3000000, .ref 0, .ref 148, .ref 163, .int a4, a5, a6], [], sM Ln I2 L2 c s)) rfl h (by omega)
  · have h := h.2 hc
    exact dd_Rn.retK 1 (pc := 2400) (ls := [.ref 3000000, .ref 0, .ref 148, .ref 163, .int a4, a5, a6]) (st := [.int 0]) (M := sM Ln I2 L2 c s) (o := (none, .int 0, sM Ln I2 L2 c s)) rfl rfl h (by omega)

theorem w_L_law__2401 {Ln d c s : Nat} {I : Nat → Nat → Int32} {L : Nat → Nat → Int64} {Q : dd_O → Prop} {a4 : Int32} {a5 a6 : Value} (hd : 28 ≤ d) (h : dd_Ev (d - 1) m_X10_ferny [.ref 0] (sM Ln I L c s) (dd_RI Ln c s (fun x1 I1 L1 => dd_Ev (d - 1) m_X11_ferny [.ref 148] (sM Ln I1 L1 c s) (dd_RI Ln c s (fun x2 I2 L2 => ((x1 = x2 → dd_Rn d m_L_law_ (3009, [.ref 3000000, .ref 0, .ref 148, .ref 163, .int a4, a5, a6], [], sM Ln I2 L2 c s) Q) ∧ (¬ (x1 = x2) → Q (none, .int 0, sM Ln I2 L2 c s)))))))) : dd_Rn d m_L_law_ (2401, [.ref 3000000, .ref 0, .ref 148, .ref 163, .int a4, a5, a6], [], sM Ln I L c s) Q := by
  obtain ⟨e, rfl⟩ : ∃ e, d = e + 16 := ⟨d - 16, by omega⟩
  refine dd_Rn.cI 1 (pc := 2402) (ls := [.ref 3000000, .ref 0, .ref 148, .ref 163, .int a4, a5, a6]) (st := [.ref 0]) (x := m_X10_ferny) (as := [.ref 0]) (rest := []) rfl rfl rfl rfl h ?_
  intro x1 I1 L1 h
  show dd_Rn (e + 16) m_L_law_ (2405, [.ref 3000000, .ref 0, .ref 148, .ref 163, .int a4, a5, a6], [.int x1], sM Ln I1 L1 c s) _
  refine dd_Rn.cI 1 (pc := 2406) (ls := [.ref 3000000, .ref 0, .ref 148, .ref 163, .int a4, a5, a6]) (st := [.ref 148, .int x1]) (x := m_X11_ferny) (as := [.ref 148]) (rest := [.int x1]) rfl rfl rfl rfl h ?_
  intro x2 I2 L2 h
  show dd_Rn (e + 16) m_L_law_ (2409, [.ref 3000000, .ref 0, .ref 148, .ref 163, .int a4, a5, a6], [.int x2, .int x1], sM Ln I2 L2 c s) _
  refine dd_Rn.ite 0 (c := x1 = x2) (A := (3009, [.ref 3000000, .ref 0, .ref 148, .ref 163, .int a4, a5, a6], [], sM Ln I2 L2 c s)) (B := (2412, [.ref 3000000, .ref 0, .ref 148, .ref 163, .int a4, a5, a6], [], sM Ln I2 L2 c s)) rfl (fun hc => ?_) (fun hc => ?_) (by omega)
  · have h := h.1 hc
    exact dd_Rn.go 0 (cf' := (3009, [.ref 3000000, .ref 0, .ref 148, .ref 163, .int a4, a5, a6], [], sM Ln I2 L2 c s)) rfl h (by omega)
  · have h := h.2 hc
    exact dd_Rn.retK 1 (pc := 2413) (ls := [.ref 3000000, .ref 0, .ref 148, .ref 163, .int a4, a5, a6]) (st := [.int 0]) (M := sM Ln I2 L2 c s) (o := (none, .int 0, sM Ln I2 L2 c s)) rfl rfl h (by omega)

theorem w_L_law__2414 {Ln d c s : Nat} {I : Nat → Nat → Int32} {L : Nat → Nat → Int64} {Q : dd_O → Prop} {a4 : Int32} {a5 a6 : Value} (hd : 28 ≤ d) (h : dd_Ev (d - 1) m_X10_out [.ref 0] (sM Ln I L c s) (dd_RI Ln c s (fun x1 I1 L1 => dd_Ev (d - 1) m_X11_out [.ref 148] (sM Ln I1 L1 c s) (dd_RI Ln c s (fun x2 I2 L2 => ((x1 = x2 → dd_Rn d m_L_law_ (3009, [.ref 3000000, .ref 0, .ref 148, .ref 163, .int a4, a5, a6], [], sM Ln I2 L2 c s) Q) ∧ (¬ (x1 = x2) → Q (none, .int 0, sM Ln I2 L2 c s)))))))) : dd_Rn d m_L_law_ (2414, [.ref 3000000, .ref 0, .ref 148, .ref 163, .int a4, a5, a6], [], sM Ln I L c s) Q := by
  obtain ⟨e, rfl⟩ : ∃ e, d = e + 16 := ⟨d - 16, by omega⟩
  refine dd_Rn.cI 1 (pc := 2415) (ls := [.ref 3000000, .ref 0, .ref 148, .ref 163, .int a4, a5, a6]) (st := [.ref 0]) (x := m_X10_out) (as := [.ref 0]) (rest := []) rfl rfl rfl rfl h ?_
  intro x1 I1 L1 h
  show dd_Rn (e + 16) m_L_law_ (2418, [.ref 3000000, .ref 0, .ref 148, .ref 163, .int a4, a5, a6], [.int x1], sM Ln I1 L1 c s) _
  refine dd_Rn.cI 1 (pc := 2419) (ls := [.ref 3000000, .ref 0, .ref 148, .ref 163, .int a4, a5, a6]) (st := [.ref 148, .int x1]) (x := m_X11_out) (as := [.ref 148]) (rest := [.int x1]) rfl rfl rfl rfl h ?_
  intro x2 I2 L2 h
  show dd_Rn (e + 16) m_L_law_ (2422, [.ref 3000000, .ref 0, .ref 148, .ref 163, .int a4, a5, a6], [.int x2, .int x1], sM Ln I2 L2 c s) _
  refine dd_Rn.ite 0 (c := x1 = x2) (A := (3009, [.ref 3000000, .ref 0, .ref 148, .ref 163, .int a4, a5, a6], [], sM Ln I2 L2 c s)) (B := (2425, [.ref 3000000, .ref 0, .ref 148, .ref 163, .int a4, a5, a6], [], sM Ln I2 L2 c s)) rfl (fun hc => ?_) (fun hc => ?_) (by omega)
  · have h := h.1 hc
    exact dd_Rn.go 0 (cf' := (3009, [.ref 3000000, .ref 0, .ref 148, .ref 163, .int a4, a5, a6], [], sM Ln I2 L2 c s)) rfl h (by omega)
  · have h := h.2 hc
    exact dd_Rn.retK 1 (pc := 2426) (ls := [.ref 3000000, .ref 0, .ref 148, .ref 163, .int a4, a5, a6]) (st := [.int 0]) (M := sM Ln I2 L2 c s) (o := (none, .int 0, sM Ln I2 L2 c s)) rfl rfl h (by omega)

theorem w_L_law__2427 {Ln d c s : Nat} {I : Nat → Nat → Int32} {L : Nat → Nat → Int64} {Q : dd_O → Prop} {a4 : Int32} {a5 a6 : Value} (hd : 28 ≤ d) (h : dd_Ev (d - 1) m_X10_far [.ref 0] (sM Ln I L c s) (dd_RI Ln c s (fun x1 I1 L1 => dd_Ev (d - 1) m_X11_far [.ref 148] (sM Ln I1 L1 c s) (dd_RI Ln c s (fun x2 I2 L2 => ((x1 = x2 → dd_Rn d m_L_law_ (3009, [.ref 3000000, .ref 0, .ref 148, .ref 163, .int a4, a5, a6], [], sM Ln I2 L2 c s) Q) ∧ (¬ (x1 = x2) → Q (none, .int 0, sM Ln I2 L2 c s)))))))) : dd_Rn d m_L_law_ (2427, [.ref 3000000, .ref 0, .ref 148, .ref 163, .int a4, a5, a6], [], sM Ln I L c s) Q := by
  obtain ⟨e, rfl⟩ : ∃ e, d = e + 16 := ⟨d - 16, by omega⟩
  refine dd_Rn.cI 1 (pc := 2428) (ls := [.ref 3000000, .ref 0, .ref 148, .ref 163, .int a4, a5, a6]) (st := [.ref 0]) (x := m_X10_far) (as := [.ref 0]) (rest := []) rfl rfl rfl rfl h ?_
  intro x1 I1 L1 h
  show dd_Rn (e + 16) m_L_law_ (2431, [.ref 3000000, .ref 0, .ref 148, .ref 163, .int a4, a5, a6], [.int x1], sM Ln I1 L1 c s) _
  refine dd_Rn.cI 1 (pc := 2432) (ls := [.ref 3000000, .ref 0, .ref 148, .ref 163, .int a4, a5, a6]) (st := [.ref 148, .int x1]) (x := m_X11_far) (as := [.ref 148]) (rest := [.int x1]) rfl rfl rfl rfl h ?_
  intro x2 I2 L2 h
  show dd_Rn (e + 16) m_L_law_ (2435, [.ref 3000000, .ref 0, .ref 148, .ref 163, .int a4, a5, a6], [.int x2, .int x1], sM Ln I2 L2 c s) _
  refine dd_Rn.ite 0 (c := x1 = x2) (A := (3009, [.ref 3000000, .ref 0, .ref 148, .ref 163, .int a4, a5, a6], [], sM Ln I2 L2 c s)) (B := (2438, [.ref 3000000, .ref 0, .ref 148, .ref 163, .int a4, a5, a6], [], sM Ln I2 L2 c s)) rfl (fun hc => ?_) (fun hc => ?_) (by omega)
  · have h := h.1 hc
    exact dd_Rn.go 0 (cf' := (3009, [.ref 3000000, .ref 0, .ref 148, .ref 163, .int a4, a5, a6], [], sM Ln I2 L2 c s)) rfl h (by omega)
  · have h := h.2 hc
    exact dd_Rn.retK 1 (pc := 2439) (ls := [.ref 3000000, .ref 0, .ref 148, .ref 163, .int a4, a5, a6]) (st := [.int 0]) (M := sM Ln I2 L2 c s) (o := (none, .int 0, sM Ln I2 L2 c s)) rfl rfl h (by omega)

theorem w_L_law__2440 {Ln d c s : Nat} {I : Nat → Nat → Int32} {L : Nat → Nat → Int64} {Q : dd_O → Prop} {a4 : Int32} {a5 a6 : Value} (hd : 28 ≤ d) (h : dd_Ev (d - 1) m_X10_worst [.ref 0] (sM Ln I L c s) (dd_RI Ln c s (fun x1 I1 L1 => dd_Ev (d - 1) m_X11_worst [.ref 148] (sM Ln I1 L1 c s) (dd_RI Ln c s (fun x2 I2 L2 => ((x1 = x2 → dd_Rn d m_L_law_ (3009, [.ref 3000000, .ref 0, .ref 148, .ref 163, .int a4, a5, a6], [], sM Ln I2 L2 c s) Q) ∧ (¬ (x1 = x2) → Q (none, .int 0, sM Ln I2 L2 c s)))))))) : dd_Rn d m_L_law_ (2440, [.ref 3000000, .ref 0, .ref 148, .ref 163, .int a4, a5, a6], [], sM Ln I L c s) Q := by
  obtain ⟨e, rfl⟩ : ∃ e, d = e + 16 := ⟨d - 16, by omega⟩
  refine dd_Rn.cI 1 (pc := 2441) (ls := [.ref 3000000, .ref 0, .ref 148, .ref 163, .int a4, a5, a6]) (st := [.ref 0]) (x := m_X10_worst) (as := [.ref 0]) (rest := []) rfl rfl rfl rfl h ?_
  intro x1 I1 L1 h
  show dd_Rn (e + 16) m_L_law_ (2444, [.ref 3000000, .ref 0, .ref 148, .ref 163, .int a4, a5, a6], [.int x1], sM Ln I1 L1 c s) _
  refine dd_Rn.cI 1 (pc := 2445) (ls := [.ref 3000000, .ref 0, .ref 148, .ref 163, .int a4, a5, a6]) (st := [.ref 148, .int x1]) (x := m_X11_worst) (as := [.ref 148]) (rest := [.int x1]) rfl rfl rfl rfl h ?_
  intro x2 I2 L2 h
  show dd_Rn (e + 16) m_L_law_ (2448, [.ref 3000000, .ref 0, .ref 148, .ref 163, .int a4, a5, a6], [.int x2, .int x1], sM Ln I2 L2 c s) _
  refine dd_Rn.ite 0 (c := x1 = x2) (A := (3009, [.ref 3000000, .ref 0, .ref 148, .ref 163, .int a4, a5, a6], [], sM Ln I2 L2 c s)) (B := (2451, [.ref 3000000, .ref 0, .ref 148, .ref 163, .int a4, a5, a6], [], sM Ln I2 L2 c s)) rfl (fun hc => ?_) (fun hc => ?_) (by omega)
  · have h := h.1 hc
    exact dd_Rn.go 0 (cf' := (3009, [.ref 3000000, .ref 0, .ref 148, .ref 163, .int a4, a5, a6], [], sM Ln I2 L2 c s)) rfl h (by omega)
  · have h := h.2 hc
    exact dd_Rn.retK 1 (pc := 2452) (ls := [.ref 3000000, .ref 0, .ref 148, .ref 163, .int a4, a5, a6]) (st := [.int 0]) (M := sM Ln I2 L2 c s) (o := (none, .int 0, sM Ln I2 L2 c s)) rfl rfl h (by omega)

theorem w_L_law__2453 {Ln d c s : Nat} {I : Nat → Nat → Int32} {L : Nat → Nat → Int64} {Q : dd_O → Prop} {a4 : Int32} {a5 a6 : Value} (hd : 28 ≤ d) (h : ((0 ≤ a4 + 1 ∧ tn (a4 + 1) < Ln) ∧ ((0 ≤ a4 + 2 ∧ tn (a4 + 2) < Ln) ∧ dd_Ev (d - 1) m_L_odds [.ref 0, .int (I 3000000 (tn (a4 + 1))), .int (I 3000000 (tn (a4 + 2))), .ref 163] (sM Ln I L c s) (dd_RJ Ln c s (fun x1 I1 L1 c1 s1 => ((0 ≤ a4 + 1 ∧ tn (a4 + 1) < Ln) ∧ ((0 ≤ a4 + 2 ∧ tn (a4 + 2) < Ln) ∧ dd_Ev (d - 1) m_X11_odds [.ref 148, .int (I1 3000000 (tn (a4 + 1))), .int (I1 3000000 (tn (a4 + 2)))] (sM Ln I1 L1 c1 s1) (dd_RI Ln c1 s1 (fun x2 I2 L2 => ((I2 148 0 = x1 → ((x1 = 0 → ((lg_cmp (L2 163 0) x2.toInt64 = 0 → dd_Rn d m_L_law_ (2518, [.ref 3000000, .ref 0, .ref 148, .ref 163, .int a4, .int x1, .int x2], [], sM Ln I2 L2 c1 s1) Q) ∧ (¬ (lg_cmp (L2 163 0) x2.toInt64 = 0) → Q (none, .int 0, sM Ln I2 L2 c1 s1)))) ∧ (¬ (x1 = 0) → dd_Rn d m_L_law_ (2518, [.ref 3000000, .ref 0, .ref 148, .ref 163, .int a4, .int x1, .int x2], [], sM Ln I2 L2 c1 s1) Q))) ∧ (¬ (I2 148 0 = x1) → Q (none, .int 0, sM Ln I2 L2 c1 s1)))))))))))) : dd_Rn d m_L_law_ (2453, [.ref 3000000, .ref 0, .ref 148, .ref 163, .int a4, a5, a6], [], sM Ln I L c s) Q := by
  obtain ⟨e, rfl⟩ : ∃ e, d = e + 16 := ⟨d - 16, by omega⟩
  obtain ⟨hc, h⟩ := h
  refine dd_Rn.go 5 (cf' := (2459, [.ref 3000000, .ref 0, .ref 148, .ref 163, .int a4, a5, a6], [.int (a4 + 1), .ref 3000000, .ref 0], sM Ln I L c s)) rfl ?_ (by omega)
  refine dd_Rn.ci (fun j0 => (2459, [.ref 3000000, .ref 0, .ref 148, .ref 163, .int a4, a5, a6], [.int j0, .ref 3000000, .ref 0], sM Ln I L c s)) (fun j0 => (2460, [.ref 3000000, .ref 0, .ref 148, .ref 163, .int a4, a5, a6], [.int (I 3000000 (tn j0)), .ref 0], sM Ln I L c s)) (fun j0 => 0 ≤ j0 ∧ tn j0 < Ln) (a4 + 1) (fun j0 hc h => dd_Rn.chk 0 (c := 0 ≤ j0 ∧ tn j0 < Ln) (A := (2460, [.ref 3000000, .ref 0, .ref 148, .ref 163, .int a4, a5, a6], [.int (I 3000000 (tn j0)), .ref 0], sM Ln I L c s)) rfl hc h (by omega)) hc ?_
  refine dd_Rn.se (cf := (2460, [.ref 3000000, .ref 0, .ref 148, .ref 163, .int a4, a5, a6], [.int (I 3000000 (tn (a4 + 1))), .ref 0], sM Ln I L c s)) ?_
  obtain ⟨hc, h⟩ := h
  refine dd_Rn.go 4 (cf' := (2465, [.ref 3000000, .ref 0, .ref 148, .ref 163, .int a4, a5, a6], [.int (a4 + 2), .ref 3000000, .int (I 3000000 (tn (a4 + 1))), .ref 0], sM Ln I L c s)) rfl ?_ (by omega)
  refine dd_Rn.ci (fun j0 => (2465, [.ref 3000000, .ref 0, .ref 148, .ref 163, .int a4, a5, a6], [.int j0, .ref 3000000, .int (I 3000000 (tn (a4 + 1))), .ref 0], sM Ln I L c s)) (fun j0 => (2466, [.ref 3000000, .ref 0, .ref 148, .ref 163, .int a4, a5, a6], [.int (I 3000000 (tn j0)), .int (I 3000000 (tn (a4 + 1))), .ref 0], sM Ln I L c s)) (fun j0 => 0 ≤ j0 ∧ tn j0 < Ln) (a4 + 2) (fun j0 hc h => dd_Rn.chk 0 (c := 0 ≤ j0 ∧ tn j0 < Ln) (A := (2466, [.ref 3000000, .ref 0, .ref 148, .ref 163, .int a4, a5, a6], [.int (I 3000000 (tn j0)), .int (I 3000000 (tn (a4 + 1))), .ref 0], sM Ln I L c s)) rfl hc h (by omega)) hc ?_
  refine dd_Rn.se (cf := (2466, [.ref 3000000, .ref 0, .ref 148, .ref 163, .int a4, a5, a6], [.int (I 3000000 (tn (a4 + 2))), .int (I 3000000 (tn (a4 + 1))), .ref 0], sM Ln I L c s)) ?_
  refine dd_Rn.cJ 1 (pc := 2467) (ls := [.ref 3000000, .ref 0, .ref 148, .ref 163, .int a4, a5, a6]) (st := [.ref 163, .int (I 3000000 (tn (a4 + 2))), .int (I 3000000 (tn (a4 + 1))), .ref 0]) (x := m_L_odds) (as := [.ref 0, .int (I 3000000 (tn (a4 + 1))), .int (I 3000000 (tn (a4 + 2))), .ref 163]) (rest := []) rfl rfl rfl rfl h ?_
  intro x1 I1 L1 c1 s1 h
  show dd_Rn (e + 16) m_L_law_ (2470, [.ref 3000000, .ref 0, .ref 148, .ref 163, .int a4, a5, a6], [.int x1], sM Ln I1 L1 c1 s1) _
  obtain ⟨hc, h⟩ := h
  refine dd_Rn.go 6 (cf' := (2478, [.ref 3000000, .ref 0, .ref 148, .ref 163, .int a4, .int x1, a6], [.int (a4 + 1), .ref 3000000, .ref 148], sM Ln I1 L1 c1 s1)) rfl ?_ (by omega)
  refine dd_Rn.ci (fun j0 => (2478, [.ref 3000000, .ref 0, .ref 148, .ref 163, .int a4, .int x1, a6], [.int j0, .ref 3000000, .ref 148], sM Ln I1 L1 c1 s1)) (fun j0 => (2479, [.ref 3000000, .ref 0, .ref 148, .ref 163, .int a4, .int x1, a6], [.int (I1 3000000 (tn j0)), .ref 148], sM Ln I1 L1 c1 s1)) (fun j0 => 0 ≤ j0 ∧ tn j0 < Ln) (a4 + 1) (fun j0 hc h => dd_Rn.chk 0 (c := 0 ≤ j0 ∧ tn j0 < Ln) (A := (2479, [.ref 3000000, .ref 0, .ref 148, .ref 163, .int a4, .int x1, a6], [.int (I1 3000000 (tn j0)), .ref 148], sM Ln I1 L1 c1 s1)) rfl hc h (by omega)) hc ?_
  refine dd_Rn.se (cf := (2479, [.ref 3000000, .ref 0, .ref 148, .ref 163, .int a4, .int x1, a6], [.int (I1 3000000 (tn (a4 + 1))), .ref 148], sM Ln I1 L1 c1 s1)) ?_
  obtain ⟨hc, h⟩ := h
  refine dd_Rn.go 4 (cf' := (2484, [.ref 3000000, .ref 0, .ref 148, .ref 163, .int a4, .int x1, a6], [.int (a4 + 2), .ref 3000000, .int (I1 3000000 (tn (a4 + 1))), .ref 148], sM Ln I1 L1 c1 s1)) rfl ?_ (by omega)
  refine dd_Rn.ci (fun j0 => (2484, [.ref 3000000, .ref 0, .ref 148, .ref 163, .int a4, .int x1, a6], [.int j0, .ref 3000000, .int (I1 3000000 (tn (a4 + 1))), .ref 148], sM Ln I1 L1 c1 s1)) (fun j0 => (2485, [.ref 3000000, .ref 0, .ref 148, .ref 163, .int a4, .int x1, a6], [.int (I1 3000000 (tn j0)), .int (I1 3000000 (tn (a4 + 1))), .ref 148], sM Ln I1 L1 c1 s1)) (fun j0 => 0 ≤ j0 ∧ tn j0 < Ln) (a4 + 2) (fun j0 hc h => dd_Rn.chk 0 (c := 0 ≤ j0 ∧ tn j0 < Ln) (A := (2485, [.ref 3000000, .ref 0, .ref 148, .ref 163, .int a4, .int x1, a6], [.int (I1 3000000 (tn j0)), .int (I1 3000000 (tn (a4 + 1))), .ref 148], sM Ln I1 L1 c1 s1)) rfl hc h (by omega)) hc ?_
  refine dd_Rn.se (cf := (2485, [.ref 3000000, .ref 0, .ref 148, .ref 163, .int a4, .int x1, a6], [.int (I1 3000000 (tn (a4 + 2))), .int (I1 3000000 (tn (a4 + 1))), .ref 148], sM Ln I1 L1 c1 s1)) ?_
  refine dd_Rn.cI 0 (pc := 2485) (ls := [.ref 3000000, .ref 0, .ref 148, .ref 163, .int a4, .int x1, a6]) (st := [.int (I1 3000000 (tn (a4 + 2))), .int (I1 3000000 (tn (a4 + 1))), .ref 148]) (x := m_X11_odds) (as := [.ref 148, .int (I1 3000000 (tn (a4 + 1))), .int (I1 3000000 (tn (a4 + 2)))]) (rest := []) rfl rfl rfl rfl h ?_
  intro x2 I2 L2 h
  show dd_Rn (e + 16) m_L_law_ (2488, [.ref 3000000, .ref 0, .ref 148, .ref 163, .int a4, .int x1, a6], [.int x2], sM Ln I2 L2 c1 s1) _
  refine dd_Rn.sub 2 (pc := 2491) (ls := [.ref 3000000, .ref 0, .ref 148, .ref 163, .int a4, .int x1, .int x2]) (st := [.ref 148]) (M := sM Ln I2 L2 c1 s1) (x := m_X11_thrown) (as := [.ref 148]) (rest := []) rfl rfl rfl rfl ?_
  show dd_Rn (e + 15) m_X11_thrown (0, [.ref 148], [], sM Ln I2 L2 c1 s1) _
  refine dd_Rn.retK 2 (pc := 4) (ls := [.ref 148]) (st := [.int (I2 148 0)]) (M := sM Ln I2 L2 c1 s1) (o := (none, .int (I2 148 0), sM Ln I2 L2 c1 s1)) rfl rfl (dd_Af.ret rfl ?_) (by omega)
  show dd_Rn (e + 16) m_L_law_ (2494, [.ref 3000000, .ref 0, .ref 148, .ref 163, .int a4, .int x1, .int x2], [.int (I2 148 0)], sM Ln I2 L2 c1 s1) _
  refine dd_Rn.ite 1 (c := I2 148 0 = x1) (A := (2501, [.ref 3000000, .ref 0, .ref 148, .ref 163, .int a4, .int x1, .int x2], [], sM Ln I2 L2 c1 s1)) (B := (2499, [.ref 3000000, .ref 0, .ref 148, .ref 163, .int a4, .int x1, .int x2], [], sM Ln I2 L2 c1 s1)) rfl (fun hc => ?_) (fun hc => ?_) (by omega)
  · have h := h.1 hc
    refine dd_Rn.ite 1 (c := x1 = 0) (A := (2506, [.ref 3000000, .ref 0, .ref 148, .ref 163, .int a4, .int x1, .int x2], [], sM Ln I2 L2 c1 s1)) (B := (2518, [.ref 3000000, .ref 0, .ref 148, .ref 163, .int a4, .int x1, .int x2], [], sM Ln I2 L2 c1 s1)) rfl (fun hc => ?_) (fun hc => ?_) (by omega)
    · have h := h.1 hc
      refine dd_Rn.ite 6 (c := lg_cmp (L2 163 0) x2.toInt64 = 0) (A := (2518, [.ref 3000000, .ref 0, .ref 148, .ref 163, .int a4, .int x1, .int x2], [], sM Ln I2 L2 c1 s1)) (B := (2516, [.ref 3000000, .ref 0, .ref 148, .ref 163, .int a4, .int x1, .int x2], [], sM Ln I2 L2 c1 s1)) rfl (fun hc => ?_) (fun hc => ?_) (by omega)
      · have h := h.1 hc
        exact dd_Rn.go 0 (cf' := (2518, [.ref 3000000, .ref 0, .ref 148, .ref 163, .int a4, .int x1, .int x2], [], sM Ln I2 L2 c1 s1)) rfl h (by omega)
      · have h := h.2 hc
        exact dd_Rn.retK 1 (pc := 2517) (ls := [.ref 3000000, .ref 0, .ref 148, .ref 163, .int a4, .int x1, .int x2]) (st := [.int 0]) (M := sM Ln I2 L2 c1 s1) (o := (none, .int 0, sM Ln I2 L2 c1 s1)) rfl rfl h (by omega)
    · have h := h.2 hc
      exact dd_Rn.go 0 (cf' := (2518, [.ref 3000000, .ref 0, .ref 148, .ref 163, .int a4, .int x1, .int x2], [], sM Ln I2 L2 c1 s1)) rfl h (by omega)
  · have h := h.2 hc
    exact dd_Rn.retK 1 (pc := 2500) (ls := [.ref 3000000, .ref 0, .ref 148, .ref 163, .int a4, .int x1, .int x2]) (st := [.int 0]) (M := sM Ln I2 L2 c1 s1) (o := (none, .int 0, sM Ln I2 L2 c1 s1)) rfl rfl h (by omega)

theorem w_L_law__2518 {Ln d c s : Nat} {I : Nat → Nat → Int32} {L : Nat → Nat → Int64} {Q : dd_O → Prop} {a4 a5 a6 : Int32} (hd : 28 ≤ d) (h : dd_Rn d m_L_law_ (3009, [.ref 3000000, .ref 0, .ref 148, .ref 163, .int a4, .int a5, .int a6], [], sM Ln I L c s) Q) : dd_Rn d m_L_law_ (2518, [.ref 3000000, .ref 0, .ref 148, .ref 163, .int a4, .int a5, .int a6], [], sM Ln I L c s) Q := by
  obtain ⟨e, rfl⟩ : ∃ e, d = e + 16 := ⟨d - 16, by omega⟩
  exact dd_Rn.go 1 (cf' := (3009, [.ref 3000000, .ref 0, .ref 148, .ref 163, .int a4, .int a5, .int a6], [], sM Ln I L c s)) rfl h (by omega)

theorem w_L_law__2521 {Ln d c s : Nat} {I : Nat → Nat → Int32} {L : Nat → Nat → Int64} {Q : dd_O → Prop} {a4 : Int32} {a5 a6 : Value} (hd : 28 ≤ d) (h : dd_Ev (d - 1) m_X10_twins [.ref 0] (sM Ln I L c s) (dd_RI Ln c s (fun x1 I1 L1 => dd_Ev (d - 1) m_X11_twins [.ref 148] (sM Ln I1 L1 c s) (dd_RI Ln c s (fun x2 I2 L2 => ((x1 = x2 → dd_Rn d m_L_law_ (3009, [.ref 3000000, .ref 0, .ref 148, .ref 163, .int a4, a5, a6], [], sM Ln I2 L2 c s) Q) ∧ (¬ (x1 = x2) → Q (none, .int 0, sM Ln I2 L2 c s)))))))) : dd_Rn d m_L_law_ (2521, [.ref 3000000, .ref 0, .ref 148, .ref 163, .int a4, a5, a6], [], sM Ln I L c s) Q := by
  obtain ⟨e, rfl⟩ : ∃ e, d = e + 16 := ⟨d - 16, by omega⟩
  refine dd_Rn.cI 1 (pc := 2522) (ls := [.ref 3000000, .ref 0, .ref 148, .ref 163, .int a4, a5, a6]) (st := [.ref 0]) (x := m_X10_twins) (as := [.ref 0]) (rest := []) rfl rfl rfl rfl h ?_
  intro x1 I1 L1 h
  show dd_Rn (e + 16) m_L_law_ (2525, [.ref 3000000, .ref 0, .ref 148, .ref 163, .int a4, a5, a6], [.int x1], sM Ln I1 L1 c s) _
  refine dd_Rn.cI 1 (pc := 2526) (ls := [.ref 3000000, .ref 0, .ref 148, .ref 163, .int a4, a5, a6]) (st := [.ref 148, .int x1]) (x := m_X11_twins) (as := [.ref 148]) (rest := [.int x1]) rfl rfl rfl rfl h ?_
  intro x2 I2 L2 h
  show dd_Rn (e + 16) m_L_law_ (2529, [.ref 3000000, .ref 0, .ref 148, .ref 163, .int a4, a5, a6], [.int x2, .int x1], sM Ln I2 L2 c s) _
  refine dd_Rn.ite 0 (c := x1 = x2) (A := (3009, [.ref 3000000, .ref 0, .ref 148, .ref 163, .int a4, a5, a6], [], sM Ln I2 L2 c s)) (B := (2532, [.ref 3000000, .ref 0, .ref 148, .ref 163, .int a4, a5, a6], [], sM Ln I2 L2 c s)) rfl (fun hc => ?_) (fun hc => ?_) (by omega)
  · have h := h.1 hc
    exact dd_Rn.go 0 (cf' := (3009, [.ref 3000000, .ref 0, .ref 148, .ref 163, .int a4, a5, a6], [], sM Ln I2 L2 c s)) rfl h (by omega)
  · have h := h.2 hc
    exact dd_Rn.retK 1 (pc := 2533) (ls := [.ref 3000000, .ref 0, .ref 148, .ref 163, .int a4, a5, a6]) (st := [.int 0]) (M := sM Ln I2 L2 c s) (o := (none, .int 0, sM Ln I2 L2 c s)) rfl rfl h (by omega)

theorem w_L_law__2534 {Ln d c s : Nat} {I : Nat → Nat → Int32} {L : Nat → Nat → Int64} {Q : dd_O → Prop} {a4 : Int32} {a5 a6 : Value} (hd : 28 ≤ d) (h : ((0 ≤ a4 + 1 ∧ tn (a4 + 1) < Ln) ∧ ((0 ≤ a4 + 2 ∧ tn (a4 + 2) < Ln) ∧ dd_Ev (d - 1) m_L_ahead [.ref 0, .int (I 3000000 (tn (a4 + 1))), .int (I 3000000 (tn (a4 + 2))), .ref 163] (sM Ln I L c s) (dd_RJ Ln c s (fun x1 I1 L1 c1 s1 => ((0 ≤ a4 + 1 ∧ tn (a4 + 1) < Ln) ∧ ((0 ≤ a4 + 2 ∧ tn (a4 + 2) < Ln) ∧ dd_Ev (d - 1) m_X11_ahead [.ref 148, .int (I1 3000000 (tn (a4 + 1))), .int (I1 3000000 (tn (a4 + 2)))] (sM Ln I1 L1 c1 s1) (dd_RI Ln c1 s1 (fun x2 I2 L2 => ((I2 148 0 = x1 → ((x1 = 0 → ((lg_cmp (L2 163 0) x2.toInt64 = 0 → dd_Rn d m_L_law_ (2599, [.ref 3000000, .ref 0, .ref 148, .ref 163, .int a4, .int x1, .int x2], [], sM Ln I2 L2 c1 s1) Q) ∧ (¬ (lg_cmp (L2 163 0) x2.toInt64 = 0) → Q (none, .int 0, sM Ln I2 L2 c1 s1)))) ∧ (¬ (x1 = 0) → dd_Rn d m_L_law_ (2599, [.ref 3000000, .ref 0, .ref 148, .ref 163, .int a4, .int x1, .int x2], [], sM Ln I2 L2 c1 s1) Q))) ∧ (¬ (I2 148 0 = x1) → Q (none, .int 0, sM Ln I2 L2 c1 s1)))))))))))) : dd_Rn d m_L_law_ (2534, [.ref 3000000, .ref 0, .ref 148, .ref 163, .int a4, a5, a6], [], sM Ln I L c s) Q := by
  obtain ⟨e, rfl⟩ : ∃ e, d = e + 16 := ⟨d - 16, by omega⟩
  obtain ⟨hc, h⟩ := h
  refine dd_Rn.go 5 (cf' := (2540, [.ref 3000000, .ref 0, .ref 148, .ref 163, .int a4, a5, a6], [.int (a4 + 1), .ref 3000000, .ref 0], sM Ln I L c s)) rfl ?_ (by omega)
  refine dd_Rn.ci (fun j0 => (2540, [.ref 3000000, .ref 0, .ref 148, .ref 163, .int a4, a5, a6], [.int j0, .ref 3000000, .ref 0], sM Ln I L c s)) (fun j0 => (2541, [.ref 3000000, .ref 0, .ref 148, .ref 163, .int a4, a5, a6], [.int (I 3000000 (tn j0)), .ref 0], sM Ln I L c s)) (fun j0 => 0 ≤ j0 ∧ tn j0 < Ln) (a4 + 1) (fun j0 hc h => dd_Rn.chk 0 (c := 0 ≤ j0 ∧ tn j0 < Ln) (A := (2541, [.ref 3000000, .ref 0, .ref 148, .ref 163, .int a4, a5, a6], [.int (I 3000000 (tn j0)), .ref 0], sM Ln I L c s)) rfl hc h (by omega)) hc ?_
  refine dd_Rn.se (cf := (2541, [.ref 3000000, .ref 0, .ref 148, .ref 163, .int a4, a5, a6], [.int (I 3000000 (tn (a4 + 1))), .ref 0], sM Ln I L c s)) ?_
  obtain ⟨hc, h⟩ := h
  refine dd_Rn.go 4 (cf' := (2546, [.ref 3000000, .ref 0, .ref 148, .ref 163, .int a4, a5, a6], [.int (a4 + 2), .ref 3000000, .int (I 3000000 (tn (a4 + 1))), .ref 0], sM Ln I L c s)) rfl ?_ (by omega)
  refine dd_Rn.ci (fun j0 => (2546, [.ref 3000000, .ref 0, .ref 148, .ref 163, .int a4, a5, a6], [.int j0, .ref 3000000, .int (I 3000000 (tn (a4 + 1))), .ref 0], sM Ln I L c s)) (fun j0 => (2547, [.ref 3000000, .ref 0, .ref 148, .ref 163, .int a4, a5, a6], [.int (I 3000000 (tn j0)), .int (I 3000000 (tn (a4 + 1))), .ref 0], sM Ln I L c s)) (fun j0 => 0 ≤ j0 ∧ tn j0 < Ln) (a4 + 2) (fun j0 hc h => dd_Rn.chk 0 (c := 0 ≤ j0 ∧ tn j0 < Ln) (A := (2547, [.ref 3000000, .ref 0, .ref 148, .ref 163, .int a4, a5, a6], [.int (I 3000000 (tn j0)), .int (I 3000000 (tn (a4 + 1))), .ref 0], sM Ln I L c s)) rfl hc h (by omega)) hc ?_
  refine dd_Rn.se (cf := (2547, [.ref 3000000, .ref 0, .ref 148, .ref 163, .int a4, a5, a6], [.int (I 3000000 (tn (a4 + 2))), .int (I 3000000 (tn (a4 + 1))), .ref 0], sM Ln I L c s)) ?_
  refine dd_Rn.cJ 1 (pc := 2548) (ls := [.ref 3000000, .ref 0, .ref 148, .ref 163, .int a4, a5, a6]) (st := [.ref 163, .int (I 3000000 (tn (a4 + 2))), .int (I 3000000 (tn (a4 + 1))), .ref 0]) (x := m_L_ahead) (as := [.ref 0, .int (I 3000000 (tn (a4 + 1))), .int (I 3000000 (tn (a4 + 2))), .ref 163]) (rest := []) rfl rfl rfl rfl h ?_
  intro x1 I1 L1 c1 s1 h
  show dd_Rn (e + 16) m_L_law_ (2551, [.ref 3000000, .ref 0, .ref 148, .ref 163, .int a4, a5, a6], [.int x1], sM Ln I1 L1 c1 s1) _
  obtain ⟨hc, h⟩ := h
  refine dd_Rn.go 6 (cf' := (2559, [.ref 3000000, .ref 0, .ref 148, .ref 163, .int a4, .int x1, a6], [.int (a4 + 1), .ref 3000000, .ref 148], sM Ln I1 L1 c1 s1)) rfl ?_ (by omega)
  refine dd_Rn.ci (fun j0 => (2559, [.ref 3000000, .ref 0, .ref 148, .ref 163, .int a4, .int x1, a6], [.int j0, .ref 3000000, .ref 148], sM Ln I1 L1 c1 s1)) (fun j0 => (2560, [.ref 3000000, .ref 0, .ref 148, .ref 163, .int a4, .int x1, a6], [.int (I1 3000000 (tn j0)), .ref 148], sM Ln I1 L1 c1 s1)) (fun j0 => 0 ≤ j0 ∧ tn j0 < Ln) (a4 + 1) (fun j0 hc h => dd_Rn.chk 0 (c := 0 ≤ j0 ∧ tn j0 < Ln) (A := (2560, [.ref 3000000, .ref 0, .ref 148, .ref 163, .int a4, .int x1, a6], [.int (I1 3000000 (tn j0)), .ref 148], sM Ln I1 L1 c1 s1)) rfl hc h (by omega)) hc ?_
  refine dd_Rn.se (cf := (2560, [.ref 3000000, .ref 0, .ref 148, .ref 163, .int a4, .int x1, a6], [.int (I1 3000000 (tn (a4 + 1))), .ref 148], sM Ln I1 L1 c1 s1)) ?_
  obtain ⟨hc, h⟩ := h
  refine dd_Rn.go 4 (cf' := (2565, [.ref 3000000, .ref 0, .ref 148, .ref 163, .int a4, .int x1, a6], [.int (a4 + 2), .ref 3000000, .int (I1 3000000 (tn (a4 + 1))), .ref 148], sM Ln I1 L1 c1 s1)) rfl ?_ (by omega)
  refine dd_Rn.ci (fun j0 => (2565, [.ref 3000000, .ref 0, .ref 148, .ref 163, .int a4, .int x1, a6], [.int j0, .ref 3000000, .int (I1 3000000 (tn (a4 + 1))), .ref 148], sM Ln I1 L1 c1 s1)) (fun j0 => (2566, [.ref 3000000, .ref 0, .ref 148, .ref 163, .int a4, .int x1, a6], [.int (I1 3000000 (tn j0)), .int (I1 3000000 (tn (a4 + 1))), .ref 148], sM Ln I1 L1 c1 s1)) (fun j0 => 0 ≤ j0 ∧ tn j0 < Ln) (a4 + 2) (fun j0 hc h => dd_Rn.chk 0 (c := 0 ≤ j0 ∧ tn j0 < Ln) (A := (2566, [.ref 3000000, .ref 0, .ref 148, .ref 163, .int a4, .int x1, a6], [.int (I1 3000000 (tn j0)), .int (I1 3000000 (tn (a4 + 1))), .ref 148], sM Ln I1 L1 c1 s1)) rfl hc h (by omega)) hc ?_
  refine dd_Rn.se (cf := (2566, [.ref 3000000, .ref 0, .ref 148, .ref 163, .int a4, .int x1, a6], [.int (I1 3000000 (tn (a4 + 2))), .int (I1 3000000 (tn (a4 + 1))), .ref 148], sM Ln I1 L1 c1 s1)) ?_
  refine dd_Rn.cI 0 (pc := 2566) (ls := [.ref 3000000, .ref 0, .ref 148, .ref 163, .int a4, .int x1, a6]) (st := [.int (I1 3000000 (tn (a4 + 2))), .int (I1 3000000 (tn (a4 + 1))), .ref 148]) (x := m_X11_ahead) (as := [.ref 148, .int (I1 3000000 (tn (a4 + 1))), .int (I1 3000000 (tn (a4 + 2)))]) (rest := []) rfl rfl rfl rfl h ?_
  intro x2 I2 L2 h
  show dd_Rn (e + 16) m_L_law_ (2569, [.ref 3000000, .ref 0, .ref 148, .ref 163, .int a4, .int x1, a6], [.int x2], sM Ln I2 L2 c1 s1) _
  refine dd_Rn.sub 2 (pc := 2572) (ls := [.ref 3000000, .ref 0, .ref 148, .ref 163, .int a4, .int x1, .int x2]) (st := [.ref 148]) (M := sM Ln I2 L2 c1 s1) (x := m_X11_thrown) (as := [.ref 148]) (rest := []) rfl rfl rfl rfl ?_
  show dd_Rn (e + 15) m_X11_thrown (0, [.ref 148], [], sM Ln I2 L2 c1 s1) _
  refine dd_Rn.retK 2 (pc := 4) (ls := [.ref 148]) (st := [.int (I2 148 0)]) (M := sM Ln I2 L2 c1 s1) (o := (none, .int (I2 148 0), sM Ln I2 L2 c1 s1)) rfl rfl (dd_Af.ret rfl ?_) (by omega)
  show dd_Rn (e + 16) m_L_law_ (2575, [.ref 3000000, .ref 0, .ref 148, .ref 163, .int a4, .int x1, .int x2], [.int (I2 148 0)], sM Ln I2 L2 c1 s1) _
  refine dd_Rn.ite 1 (c := I2 148 0 = x1) (A := (2582, [.ref 3000000, .ref 0, .ref 148, .ref 163, .int a4, .int x1, .int x2], [], sM Ln I2 L2 c1 s1)) (B := (2580, [.ref 3000000, .ref 0, .ref 148, .ref 163, .int a4, .int x1, .int x2], [], sM Ln I2 L2 c1 s1)) rfl (fun hc => ?_) (fun hc => ?_) (by omega)
  · have h := h.1 hc
    refine dd_Rn.ite 1 (c := x1 = 0) (A := (2587, [.ref 3000000, .ref 0, .ref 148, .ref 163, .int a4, .int x1, .int x2], [], sM Ln I2 L2 c1 s1)) (B := (2599, [.ref 3000000, .ref 0, .ref 148, .ref 163, .int a4, .int x1, .int x2], [], sM Ln I2 L2 c1 s1)) rfl (fun hc => ?_) (fun hc => ?_) (by omega)
    · have h := h.1 hc
      refine dd_Rn.ite 6 (c := lg_cmp (L2 163 0) x2.toInt64 = 0) (A := (2599, [.ref 3000000, .ref 0, .ref 148, .ref 163, .int a4, .int x1, .int x2], [], sM Ln I2 L2 c1 s1)) (B := (2597, [.ref 3000000, .ref 0, .ref 148, .ref 163, .int a4, .int x1, .int x2], [], sM Ln I2 L2 c1 s1)) rfl (fun hc => ?_) (fun hc => ?_) (by omega)
      · have h := h.1 hc
        exact dd_Rn.go 0 (cf' := (2599, [.ref 3000000, .ref 0, .ref 148, .ref 163, .int a4, .int x1, .int x2], [], sM Ln I2 L2 c1 s1)) rfl h (by omega)
      · have h := h.2 hc
        exact dd_Rn.retK 1 (pc := 2598) (ls := [.ref 3000000, .ref 0, .ref 148, .ref 163, .int a4, .int x1, .int x2]) (st := [.int 0]) (M := sM Ln I2 L2 c1 s1) (o := (none, .int 0, sM Ln I2 L2 c1 s1)) rfl rfl h (by omega)
    · have h := h.2 hc
      exact dd_Rn.go 0 (cf' := (2599, [.ref 3000000, .ref 0, .ref 148, .ref 163, .int a4, .int x1, .int x2], [], sM Ln I2 L2 c1 s1)) rfl h (by omega)
  · have h := h.2 hc
    exact dd_Rn.retK 1 (pc := 2581) (ls := [.ref 3000000, .ref 0, .ref 148, .ref 163, .int a4, .int x1, .int x2]) (st := [.int 0]) (M := sM Ln I2 L2 c1 s1) (o := (none, .int 0, sM Ln I2 L2 c1 s1)) rfl rfl h (by omega)

theorem w_L_law__2599 {Ln d c s : Nat} {I : Nat → Nat → Int32} {L : Nat → Nat → Int64} {Q : dd_O → Prop} {a4 a5 a6 : Int32} (hd : 28 ≤ d) (h : dd_Rn d m_L_law_ (3009, [.ref 3000000, .ref 0, .ref 148, .ref 163, .int a4, .int a5, .int a6], [], sM Ln I L c s) Q) : dd_Rn d m_L_law_ (2599, [.ref 3000000, .ref 0, .ref 148, .ref 163, .int a4, .int a5, .int a6], [], sM Ln I L c s) Q := by
  obtain ⟨e, rfl⟩ : ∃ e, d = e + 16 := ⟨d - 16, by omega⟩
  exact dd_Rn.go 1 (cf' := (3009, [.ref 3000000, .ref 0, .ref 148, .ref 163, .int a4, .int a5, .int a6], [], sM Ln I L c s)) rfl h (by omega)

theorem w_L_law__2602 {Ln d c s : Nat} {I : Nat → Nat → Int32} {L : Nat → Nat → Int64} {Q : dd_O → Prop} {a4 : Int32} {a5 a6 : Value} (hd : 28 ≤ d) (h : ((0 ≤ a4 + 1 ∧ tn (a4 + 1) < Ln) ∧ ((0 ≤ a4 + 2 ∧ tn (a4 + 2) < Ln) ∧ ((I 3000000 (tn (a4 + 2)) = 0 → dd_Rn d m_L_law_ (2623, [.ref 3000000, .ref 0, .ref 148, .ref 163, .int a4, a5, a6], [.int 0, .int (I 3000000 (tn (a4 + 1))), .ref 0], sM Ln I L c s) Q) ∧ (¬ (I 3000000 (tn (a4 + 2)) = 0) → dd_Rn d m_L_law_ (2623, [.ref 3000000, .ref 0, .ref 148, .ref 163, .int a4, a5, a6], [.int 1, .int (I 3000000 (tn (a4 + 1))), .ref 0], sM Ln I L c s) Q))))) : dd_Rn d m_L_law_ (2602, [.ref 3000000, .ref 0, .ref 148, .ref 163, .int a4, a5, a6], [], sM Ln I L c s) Q := by
  obtain ⟨e, rfl⟩ : ∃ e, d = e + 16 := ⟨d - 16, by omega⟩
  obtain ⟨hc, h⟩ := h
  refine dd_Rn.go 5 (cf' := (2608, [.ref 3000000, .ref 0, .ref 148, .ref 163, .int a4, a5, a6], [.int (a4 + 1), .ref 3000000, .ref 0], sM Ln I L c s)) rfl ?_ (by omega)
  refine dd_Rn.ci (fun j0 => (2608, [.ref 3000000, .ref 0, .ref 148, .ref 163, .int a4, a5, a6], [.int j0, .ref 3000000, .ref 0], sM Ln I L c s)) (fun j0 => (2609, [.ref 3000000, .ref 0, .ref 148, .ref 163, .int a4, a5, a6], [.int (I 3000000 (tn j0)), .ref 0], sM Ln I L c s)) (fun j0 => 0 ≤ j0 ∧ tn j0 < Ln) (a4 + 1) (fun j0 hc h => dd_Rn.chk 0 (c := 0 ≤ j0 ∧ tn j0 < Ln) (A := (2609, [.ref 3000000, .ref 0, .ref 148, .ref 163, .int a4, a5, a6], [.int (I 3000000 (tn j0)), .ref 0], sM Ln I L c s)) rfl hc h (by omega)) hc ?_
  refine dd_Rn.se (cf := (2609, [.ref 3000000, .ref 0, .ref 148, .ref 163, .int a4, a5, a6], [.int (I 3000000 (tn (a4 + 1))), .ref 0], sM Ln I L c s)) ?_
  obtain ⟨hc, h⟩ := h
  refine dd_Rn.go 4 (cf' := (2614, [.ref 3000000, .ref 0, .ref 148, .ref 163, .int a4, a5, a6], [.int (a4 + 2), .ref 3000000, .int (I 3000000 (tn (a4 + 1))), .ref 0], sM Ln I L c s)) rfl ?_ (by omega)
  refine dd_Rn.ci (fun j0 => (2614, [.ref 3000000, .ref 0, .ref 148, .ref 163, .int a4, a5, a6], [.int j0, .ref 3000000, .int (I 3000000 (tn (a4 + 1))), .ref 0], sM Ln I L c s)) (fun j0 => (2615, [.ref 3000000, .ref 0, .ref 148, .ref 163, .int a4, a5, a6], [.int (I 3000000 (tn j0)), .int (I 3000000 (tn (a4 + 1))), .ref 0], sM Ln I L c s)) (fun j0 => 0 ≤ j0 ∧ tn j0 < Ln) (a4 + 2) (fun j0 hc h => dd_Rn.chk 0 (c := 0 ≤ j0 ∧ tn j0 < Ln) (A := (2615, [.ref 3000000, .ref 0, .ref 148, .ref 163, .int a4, a5, a6], [.int (I 3000000 (tn j0)), .int (I 3000000 (tn (a4 + 1))), .ref 0], sM Ln I L c s)) rfl hc h (by omega)) hc ?_
  refine dd_Rn.se (cf := (2615, [.ref 3000000, .ref 0, .ref 148, .ref 163, .int a4, a5, a6], [.int (I 3000000 (tn (a4 + 2))), .int (I 3000000 (tn (a4 + 1))), .ref 0], sM Ln I L c s)) ?_
  refine dd_Rn.ite 0 (c := I 3000000 (tn (a4 + 2)) = 0) (A := (2622, [.ref 3000000, .ref 0, .ref 148, .ref 163, .int a4, a5, a6], [.int (I 3000000 (tn (a4 + 1))), .ref 0], sM Ln I L c s)) (B := (2618, [.ref 3000000, .ref 0, .ref 148, .ref 163, .int a4, a5, a6], [.int (I 3000000 (tn (a4 + 1))), .ref 0], sM Ln I L c s)) rfl (fun hc => ?_) (fun hc => ?_) (by omega)
  · have h := h.1 hc
    exact dd_Rn.go 1 (cf' := (2623, [.ref 3000000, .ref 0, .ref 148, .ref 163, .int a4, a5, a6], [.int 0, .int (I 3000000 (tn (a4 + 1))), .ref 0], sM Ln I L c s)) rfl h (by omega)
  · have h := h.2 hc
    exact dd_Rn.go 2 (cf' := (2623, [.ref 3000000, .ref 0, .ref 148, .ref 163, .int a4, a5, a6], [.int 1, .int (I 3000000 (tn (a4 + 1))), .ref 0], sM Ln I L c s)) rfl h (by omega)

theorem w_L_law__2623 {Ln d c s : Nat} {I : Nat → Nat → Int32} {L : Nat → Nat → Int64} {Q : dd_O → Prop} {a4 b1 b2 : Int32} {a5 a6 : Value} (hd : 28 ≤ d) (h : dd_Ev (d - 1) m_L_trial [.ref 0, .int b1, .int b2, .ref 163] (sM Ln I L c s) (dd_RJ Ln c s (fun x1 I1 L1 c1 s1 => ((0 ≤ a4 + 1 ∧ tn (a4 + 1) < Ln) ∧ ((0 ≤ a4 + 2 ∧ tn (a4 + 2) < Ln) ∧ ((I1 3000000 (tn (a4 + 2)) = 0 → dd_Rn d m_L_law_ (2650, [.ref 3000000, .ref 0, .ref 148, .ref 163, .int a4, .int x1, a6], [.int 0, .int (I1 3000000 (tn (a4 + 1))), .ref 148], sM Ln I1 L1 c1 s1) Q) ∧ (¬ (I1 3000000 (tn (a4 + 2)) = 0) → dd_Rn d m_L_law_ (2650, [.ref 3000000, .ref 0, .ref 148, .ref 163, .int a4, .int x1, a6], [.int 1, .int (I1 3000000 (tn (a4 + 1))), .ref 148], sM Ln I1 L1 c1 s1) Q))))))) : dd_Rn d m_L_law_ (2623, [.ref 3000000, .ref 0, .ref 148, .ref 163, .int a4, a5, a6], [.int b2, .int b1, .ref 0], sM Ln I L c s) Q := by
  obtain ⟨e, rfl⟩ : ∃ e, d = e + 16 := ⟨d - 16, by omega⟩
  refine dd_Rn.cJ 1 (pc := 2624) (ls := [.ref 3000000, .ref 0, .ref 148, .ref 163, .int a4, a5, a6]) (st := [.ref 163, .int b2, .int b1, .ref 0]) (x := m_L_trial) (as := [.ref 0, .int b1, .int b2, .ref 163]) (rest := []) rfl rfl rfl rfl h ?_
  intro x1 I1 L1 c1 s1 h
  show dd_Rn (e + 16) m_L_law_ (2627, [.ref 3000000, .ref 0, .ref 148, .ref 163, .int a4, a5, a6], [.int x1], sM Ln I1 L1 c1 s1) _
  obtain ⟨hc, h⟩ := h
  refine dd_Rn.go 6 (cf' := (2635, [.ref 3000000, .ref 0, .ref 148, .ref 163, .int a4, .int x1, a6], [.int (a4 + 1), .ref 3000000, .ref 148], sM Ln I1 L1 c1 s1)) rfl ?_ (by omega)
  refine dd_Rn.ci (fun j0 => (2635, [.ref 3000000, .ref 0, .ref 148, .ref 163, .int a4, .int x1, a6], [.int j0, .ref 3000000, .ref 148], sM Ln I1 L1 c1 s1)) (fun j0 => (2636, [.ref 3000000, .ref 0, .ref 148, .ref 163, .int a4, .int x1, a6], [.int (I1 3000000 (tn j0)), .ref 148], sM Ln I1 L1 c1 s1)) (fun j0 => 0 ≤ j0 ∧ tn j0 < Ln) (a4 + 1) (fun j0 hc h => dd_Rn.chk 0 (c := 0 ≤ j0 ∧ tn j0 < Ln) (A := (2636, [.ref 3000000, .ref 0, .ref 148, .ref 163, .int a4, .int x1, a6], [.int (I1 3000000 (tn j0)), .ref 148], sM Ln I1 L1 c1 s1)) rfl hc h (by omega)) hc ?_
  refine dd_Rn.se (cf := (2636, [.ref 3000000, .ref 0, .ref 148, .ref 163, .int a4, .int x1, a6], [.int (I1 3000000 (tn (a4 + 1))), .ref 148], sM Ln I1 L1 c1 s1)) ?_
  obtain ⟨hc, h⟩ := h
  refine dd_Rn.go 4 (cf' := (2641, [.ref 3000000, .ref 0, .ref 148, .ref 163, .int a4, .int x1, a6], [.int (a4 + 2), .ref 3000000, .int (I1 3000000 (tn (a4 + 1))), .ref 148], sM Ln I1 L1 c1 s1)) rfl ?_ (by omega)
  refine dd_Rn.ci (fun j0 => (2641, [.ref 3000000, .ref 0, .ref 148, .ref 163, .int a4, .int x1, a6], [.int j0, .ref 3000000, .int (I1 3000000 (tn (a4 + 1))), .ref 148], sM Ln I1 L1 c1 s1)) (fun j0 => (2642, [.ref 3000000, .ref 0, .ref 148, .ref 163, .int a4, .int x1, a6], [.int (I1 3000000 (tn j0)), .int (I1 3000000 (tn (a4 + 1))), .ref 148], sM Ln I1 L1 c1 s1)) (fun j0 => 0 ≤ j0 ∧ tn j0 < Ln) (a4 + 2) (fun j0 hc h => dd_Rn.chk 0 (c := 0 ≤ j0 ∧ tn j0 < Ln) (A := (2642, [.ref 3000000, .ref 0, .ref 148, .ref 163, .int a4, .int x1, a6], [.int (I1 3000000 (tn j0)), .int (I1 3000000 (tn (a4 + 1))), .ref 148], sM Ln I1 L1 c1 s1)) rfl hc h (by omega)) hc ?_
  refine dd_Rn.se (cf := (2642, [.ref 3000000, .ref 0, .ref 148, .ref 163, .int a4, .int x1, a6], [.int (I1 3000000 (tn (a4 + 2))), .int (I1 3000000 (tn (a4 + 1))), .ref 148], sM Ln I1 L1 c1 s1)) ?_
  refine dd_Rn.ite 0 (c := I1 3000000 (tn (a4 + 2)) = 0) (A := (2649, [.ref 3000000, .ref 0, .ref 148, .ref 163, .int a4, .int x1, a6], [.int (I1 3000000 (tn (a4 + 1))), .ref 148], sM Ln I1 L1 c1 s1)) (B := (2645, [.ref 3000000, .ref 0, .ref 148, .ref 163, .int a4, .int x1, a6], [.int (I1 3000000 (tn (a4 + 1))), .ref 148], sM Ln I1 L1 c1 s1)) rfl (fun hc => ?_) (fun hc => ?_) (by omega)
  · have h := h.1 hc
    exact dd_Rn.go 1 (cf' := (2650, [.ref 3000000, .ref 0, .ref 148, .ref 163, .int a4, .int x1, a6], [.int 0, .int (I1 3000000 (tn (a4 + 1))), .ref 148], sM Ln I1 L1 c1 s1)) rfl h (by omega)
  · have h := h.2 hc
    exact dd_Rn.go 2 (cf' := (2650, [.ref 3000000, .ref 0, .ref 148, .ref 163, .int a4, .int x1, a6], [.int 1, .int (I1 3000000 (tn (a4 + 1))), .ref 148], sM Ln I1 L1 c1 s1)) rfl h (by omega)

theorem w_L_law__2650 {Ln d c s : Nat} {I : Nat → Nat → Int32} {L : Nat → Nat → Int64} {Q : dd_O → Prop} {a4 a5 b1 b2 : Int32} {a6 : Value} (hd : 28 ≤ d) (h : dd_Ev (d - 1) m_X11_trial [.ref 148, .int b1, .int b2] (sM Ln I L c s) (dd_RI Ln c s (fun x1 I1 L1 => ((I1 148 0 = a5 → ((a5 = 0 → ((lg_cmp (L1 163 0) x1.toInt64 = 0 → dd_Rn d m_L_law_ (2683, [.ref 3000000, .ref 0, .ref 148, .ref 163, .int a4, .int a5, .int x1], [], sM Ln I1 L1 c s) Q) ∧ (¬ (lg_cmp (L1 163 0) x1.toInt64 = 0) → Q (none, .int 0, sM Ln I1 L1 c s)))) ∧ (¬ (a5 = 0) → dd_Rn d m_L_law_ (2683, [.ref 3000000, .ref 0, .ref 148, .ref 163, .int a4, .int a5, .int x1], [], sM Ln I1 L1 c s) Q))) ∧ (¬ (I1 148 0 = a5) → Q (none, .int 0, sM Ln I1 L1 c s)))))) : dd_Rn d m_L_law_ (2650, [.ref 3000000, .ref 0, .ref 148, .ref 163, .int a4, .int a5, a6], [.int b2, .int b1, .ref 148], sM Ln I L c s) Q := by
  obtain ⟨e, rfl⟩ : ∃ e, d = e + 16 := ⟨d - 16, by omega⟩
  refine dd_Rn.cI 0 (pc := 2650) (ls := [.ref 3000000, .ref 0, .ref 148, .ref 163, .int a4, .int a5, a6]) (st := [.int b2, .int b1, .ref 148]) (x := m_X11_trial) (as := [.ref 148, .int b1, .int b2]) (rest := []) rfl rfl rfl rfl h ?_
  intro x1 I1 L1 h
  show dd_Rn (e + 16) m_L_law_ (2653, [.ref 3000000, .ref 0, .ref 148, .ref 163, .int a4, .int a5, a6], [.int x1], sM Ln I1 L1 c s) _
  refine dd_Rn.sub 2 (pc := 2656) (ls := [.ref 3000000, .ref 0, .ref 148, .ref 163, .int a4, .int a5, .int x1]) (st := [.ref 148]) (M := sM Ln I1 L1 c s) (x := m_X11_thrown) (as := [.ref 148]) (rest := []) rfl rfl rfl rfl ?_
  show dd_Rn (e + 15) m_X11_thrown (0, [.ref 148], [], sM Ln I1 L1 c s) _
  refine dd_Rn.retK 2 (pc := 4) (ls := [.ref 148]) (st := [.int (I1 148 0)]) (M := sM Ln I1 L1 c s) (o := (none, .int (I1 148 0), sM Ln I1 L1 c s)) rfl rfl (dd_Af.ret rfl ?_) (by omega)
  show dd_Rn (e + 16) m_L_law_ (2659, [.ref 3000000, .ref 0, .ref 148, .ref 163, .int a4, .int a5, .int x1], [.int (I1 148 0)], sM Ln I1 L1 c s) _
  refine dd_Rn.ite 1 (c := I1 148 0 = a5) (A := (2666, [.ref 3000000, .ref 0, .ref 148, .ref 163, .int a4, .int a5, .int x1], [], sM Ln I1 L1 c s)) (B := (2664, [.ref 3000000, .ref 0, .ref 148, .ref 163, .int a4, .int a5, .int x1], [], sM Ln I1 L1 c s)) rfl (fun hc => ?_) (fun hc => ?_) (by omega)
  · have h := h.1 hc
    refine dd_Rn.ite 1 (c := a5 = 0) (A := (2671, [.ref 3000000, .ref 0, .ref 148, .ref 163, .int a4, .int a5, .int x1], [], sM Ln I1 L1 c s)) (B := (2683, [.ref 3000000, .ref 0, .ref 148, .ref 163, .int a4, .int a5, .int x1], [], sM Ln I1 L1 c s)) rfl (fun hc => ?_) (fun hc => ?_) (by omega)
    · have h := h.1 hc
      refine dd_Rn.ite 6 (c := lg_cmp (L1 163 0) x1.toInt64 = 0) (A := (2683, [.ref 3000000, .ref 0, .ref 148, .ref 163, .int a4, .int a5, .int x1], [], sM Ln I1 L1 c s)) (B := (2681, [.ref 3000000, .ref 0, .ref 148, .ref 163, .int a4, .int a5, .int x1], [], sM Ln I1 L1 c s)) rfl (fun hc => ?_) (fun hc => ?_) (by omega)
      · have h := h.1 hc
        exact dd_Rn.go 0 (cf' := (2683, [.ref 3000000, .ref 0, .ref 148, .ref 163, .int a4, .int a5, .int x1], [], sM Ln I1 L1 c s)) rfl h (by omega)
      · have h := h.2 hc
        exact dd_Rn.retK 1 (pc := 2682) (ls := [.ref 3000000, .ref 0, .ref 148, .ref 163, .int a4, .int a5, .int x1]) (st := [.int 0]) (M := sM Ln I1 L1 c s) (o := (none, .int 0, sM Ln I1 L1 c s)) rfl rfl h (by omega)
    · have h := h.2 hc
      exact dd_Rn.go 0 (cf' := (2683, [.ref 3000000, .ref 0, .ref 148, .ref 163, .int a4, .int a5, .int x1], [], sM Ln I1 L1 c s)) rfl h (by omega)
  · have h := h.2 hc
    exact dd_Rn.retK 1 (pc := 2665) (ls := [.ref 3000000, .ref 0, .ref 148, .ref 163, .int a4, .int a5, .int x1]) (st := [.int 0]) (M := sM Ln I1 L1 c s) (o := (none, .int 0, sM Ln I1 L1 c s)) rfl rfl h (by omega)

theorem w_L_law__2683 {Ln d c s : Nat} {I : Nat → Nat → Int32} {L : Nat → Nat → Int64} {Q : dd_O → Prop} {a4 a5 a6 : Int32} (hd : 28 ≤ d) (h : dd_Rn d m_L_law_ (3009, [.ref 3000000, .ref 0, .ref 148, .ref 163, .int a4, .int a5, .int a6], [], sM Ln I L c s) Q) : dd_Rn d m_L_law_ (2683, [.ref 3000000, .ref 0, .ref 148, .ref 163, .int a4, .int a5, .int a6], [], sM Ln I L c s) Q := by
  obtain ⟨e, rfl⟩ : ∃ e, d = e + 16 := ⟨d - 16, by omega⟩
  exact dd_Rn.go 1 (cf' := (3009, [.ref 3000000, .ref 0, .ref 148, .ref 163, .int a4, .int a5, .int a6], [], sM Ln I L c s)) rfl h (by omega)

theorem w_L_law__2686 {Ln d c s : Nat} {I : Nat → Nat → Int32} {L : Nat → Nat → Int64} {Q : dd_O → Prop} {a4 : Int32} {a5 a6 : Value} (hd : 28 ≤ d) (h : ((0 ≤ a4 + 1 ∧ tn (a4 + 1) < Ln) ∧ ((0 ≤ a4 + 2 ∧ tn (a4 + 2) < Ln) ∧ ((I 3000000 (tn (a4 + 2)) = 0 → dd_Rn d m_L_law_ (2707, [.ref 3000000, .ref 0, .ref 148, .ref 163, .int a4, a5, a6], [.int 0, .int (I 3000000 (tn (a4 + 1))), .ref 0], sM Ln I L c s) Q) ∧ (¬ (I 3000000 (tn (a4 + 2)) = 0) → dd_Rn d m_L_law_ (2707, [.ref 3000000, .ref 0, .ref 148, .ref 163, .int a4, a5, a6], [.int 1, .int (I 3000000 (tn (a4 + 1))), .ref 0], sM Ln I L c s) Q))))) : dd_Rn d m_L_law_ (2686, [.ref 3000000, .ref 0, .ref 148, .ref 163, .int a4, a5, a6], [], sM Ln I L c s) Q := by
  obtain ⟨e, rfl⟩ : ∃ e, d = e + 16 := ⟨d - 16, by omega⟩
  obtain ⟨hc, h⟩ := h
  refine dd_Rn.go 5 (cf' := (2692, [.ref 3000000, .ref 0, .ref 148, .ref 163, .int a4, a5, a6], [.int (a4 + 1), .ref 3000000, .ref 0], sM Ln I L c s)) rfl ?_ (by omega)
  refine dd_Rn.ci (fun j0 => (2692, [.ref 3000000, .ref 0, .ref 148, .ref 163, .int a4, a5, a6], [.int j0, .ref 3000000, .ref 0], sM Ln I L c s)) (fun j0 => (2693, [.ref 3000000, .ref 0, .ref 148, .ref 163, .int a4, a5, a6], [.int (I 3000000 (tn j0)), .ref 0], sM Ln I L c s)) (fun j0 => 0 ≤ j0 ∧ tn j0 < Ln) (a4 + 1) (fun j0 hc h => dd_Rn.chk 0 (c := 0 ≤ j0 ∧ tn j0 < Ln) (A := (2693, [.ref 3000000, .ref 0, .ref 148, .ref 163, .int a4, a5, a6], [.int (I 3000000 (tn j0)), .ref 0], sM Ln I L c s)) rfl hc h (by omega)) hc ?_
  refine dd_Rn.se (cf := (2693, [.ref 3000000, .ref 0, .ref 148, .ref 163, .int a4, a5, a6], [.int (I 3000000 (tn (a4 + 1))), .ref 0], sM Ln I L c s)) ?_
  obtain ⟨hc, h⟩ := h
  refine dd_Rn.go 4 (cf' := (2698, [.ref 3000000, .ref 0, .ref 148, .ref 163, .int a4, a5, a6], [.int (a4 + 2), .ref 3000000, .int (I 3000000 (tn (a4 + 1))), .ref 0], sM Ln I L c s)) rfl ?_ (by omega)
  refine dd_Rn.ci (fun j0 => (2698, [.ref 3000000, .ref 0, .ref 148, .ref 163, .int a4, a5, a6], [.int j0, .ref 3000000, .int (I 3000000 (tn (a4 + 1))), .ref 0], sM Ln I L c s)) (fun j0 => (2699, [.ref 3000000, .ref 0, .ref 148, .ref 163, .int a4, a5, a6], [.int (I 3000000 (tn j0)), .int (I 3000000 (tn (a4 + 1))), .ref 0], sM Ln I L c s)) (fun j0 => 0 ≤ j0 ∧ tn j0 < Ln) (a4 + 2) (fun j0 hc h => dd_Rn.chk 0 (c := 0 ≤ j0 ∧ tn j0 < Ln) (A := (2699, [.ref 3000000, .ref 0, .ref 148, .ref 163, .int a4, a5, a6], [.int (I 3000000 (tn j0)), .int (I 3000000 (tn (a4 + 1))), .ref 0], sM Ln I L c s)) rfl hc h (by omega)) hc ?_
  refine dd_Rn.se (cf := (2699, [.ref 3000000, .ref 0, .ref 148, .ref 163, .int a4, a5, a6], [.int (I 3000000 (tn (a4 + 2))), .int (I 3000000 (tn (a4 + 1))), .ref 0], sM Ln I L c s)) ?_
  refine dd_Rn.ite 0 (c := I 3000000 (tn (a4 + 2)) = 0) (A := (2706, [.ref 3000000, .ref 0, .ref 148, .ref 163, .int a4, a5, a6], [.int (I 3000000 (tn (a4 + 1))), .ref 0], sM Ln I L c s)) (B := (2702, [.ref 3000000, .ref 0, .ref 148, .ref 163, .int a4, a5, a6], [.int (I 3000000 (tn (a4 + 1))), .ref 0], sM Ln I L c s)) rfl (fun hc => ?_) (fun hc => ?_) (by omega)
  · have h := h.1 hc
    exact dd_Rn.go 1 (cf' := (2707, [.ref 3000000, .ref 0, .ref 148, .ref 163, .int a4, a5, a6], [.int 0, .int (I 3000000 (tn (a4 + 1))), .ref 0], sM Ln I L c s)) rfl h (by omega)
  · have h := h.2 hc
    exact dd_Rn.go 2 (cf' := (2707, [.ref 3000000, .ref 0, .ref 148, .ref 163, .int a4, a5, a6], [.int 1, .int (I 3000000 (tn (a4 + 1))), .ref 0], sM Ln I L c s)) rfl h (by omega)

theorem w_L_law__2707 {Ln d c s : Nat} {I : Nat → Nat → Int32} {L : Nat → Nat → Int64} {Q : dd_O → Prop} {a4 b1 b2 : Int32} {a5 a6 : Value} (hd : 28 ≤ d) (h : dd_Ev (d - 1) m_L_span [.ref 0, .int b1, .int b2, .ref 163] (sM Ln I L c s) (dd_RJ Ln c s (fun x1 I1 L1 c1 s1 => ((0 ≤ a4 + 1 ∧ tn (a4 + 1) < Ln) ∧ ((0 ≤ a4 + 2 ∧ tn (a4 + 2) < Ln) ∧ ((I1 3000000 (tn (a4 + 2)) = 0 → dd_Rn d m_L_law_ (2734, [.ref 3000000, .ref 0, .ref 148, .ref 163, .int a4, .int x1, a6], [.int 0, .int (I1 3000000 (tn (a4 + 1))), .ref 148], sM Ln I1 L1 c1 s1) Q) ∧ (¬ (I1 3000000 (tn (a4 + 2)) = 0) → dd_Rn d m_L_law_ (2734, [.ref 3000000, .ref 0, .ref 148, .ref 163, .int a4, .int x1, a6], [.int 1, .int (I1 3000000 (tn (a4 + 1))), .ref 148], sM Ln I1 L1 c1 s1) Q))))))) : dd_Rn d m_L_law_ (2707, [.ref 3000000, .ref 0, .ref 148, .ref 163, .int a4, a5, a6], [.int b2, .int b1, .ref 0], sM Ln I L c s) Q := by
  obtain ⟨e, rfl⟩ : ∃ e, d = e + 16 := ⟨d - 16, by omega⟩
  refine dd_Rn.cJ 1 (pc := 2708) (ls := [.ref 3000000, .ref 0, .ref 148, .ref 163, .int a4, a5, a6]) (st := [.ref 163, .int b2, .int b1, .ref 0]) (x := m_L_span) (as := [.ref 0, .int b1, .int b2, .ref 163]) (rest := []) rfl rfl rfl rfl h ?_
  intro x1 I1 L1 c1 s1 h
  show dd_Rn (e + 16) m_L_law_ (2711, [.ref 3000000, .ref 0, .ref 148, .ref 163, .int a4, a5, a6], [.int x1], sM Ln I1 L1 c1 s1) _
  obtain ⟨hc, h⟩ := h
  refine dd_Rn.go 6 (cf' := (2719, [.ref 3000000, .ref 0, .ref 148, .ref 163, .int a4, .int x1, a6], [.int (a4 + 1), .ref 3000000, .ref 148], sM Ln I1 L1 c1 s1)) rfl ?_ (by omega)
  refine dd_Rn.ci (fun j0 => (2719, [.ref 3000000, .ref 0, .ref 148, .ref 163, .int a4, .int x1, a6], [.int j0, .ref 3000000, .ref 148], sM Ln I1 L1 c1 s1)) (fun j0 => (2720, [.ref 3000000, .ref 0, .ref 148, .ref 163, .int a4, .int x1, a6], [.int (I1 3000000 (tn j0)), .ref 148], sM Ln I1 L1 c1 s1)) (fun j0 => 0 ≤ j0 ∧ tn j0 < Ln) (a4 + 1) (fun j0 hc h => dd_Rn.chk 0 (c := 0 ≤ j0 ∧ tn j0 < Ln) (A := (2720, [.ref 3000000, .ref 0, .ref 148, .ref 163, .int a4, .int x1, a6], [.int (I1 3000000 (tn j0)), .ref 148], sM Ln I1 L1 c1 s1)) rfl hc h (by omega)) hc ?_
  refine dd_Rn.se (cf := (2720, [.ref 3000000, .ref 0, .ref 148, .ref 163, .int a4, .int x1, a6], [.int (I1 3000000 (tn (a4 + 1))), .ref 148], sM Ln I1 L1 c1 s1)) ?_
  obtain ⟨hc, h⟩ := h
  refine dd_Rn.go 4 (cf' := (2725, [.ref 3000000, .ref 0, .ref 148, .ref 163, .int a4, .int x1, a6], [.int (a4 + 2), .ref 3000000, .int (I1 3000000 (tn (a4 + 1))), .ref 148], sM Ln I1 L1 c1 s1)) rfl ?_ (by omega)
  refine dd_Rn.ci (fun j0 => (2725, [.ref 3000000, .ref 0, .ref 148, .ref 163, .int a4, .int x1, a6], [.int j0, .ref 3000000, .int (I1 3000000 (tn (a4 + 1))), .ref 148], sM Ln I1 L1 c1 s1)) (fun j0 => (2726, [.ref 3000000, .ref 0, .ref 148, .ref 163, .int a4, .int x1, a6], [.int (I1 3000000 (tn j0)), .int (I1 3000000 (tn (a4 + 1))), .ref 148], sM Ln I1 L1 c1 s1)) (fun j0 => 0 ≤ j0 ∧ tn j0 < Ln) (a4 + 2) (fun j0 hc h => dd_Rn.chk 0 (c := 0 ≤ j0 ∧ tn j0 < Ln) (A := (2726, [.ref 3000000, .ref 0, .ref 148, .ref 163, .int a4, .int x1, a6], [.int (I1 3000000 (tn j0)), .int (I1 3000000 (tn (a4 + 1))), .ref 148], sM Ln I1 L1 c1 s1)) rfl hc h (by omega)) hc ?_
  refine dd_Rn.se (cf := (2726, [.ref 3000000, .ref 0, .ref 148, .ref 163, .int a4, .int x1, a6], [.int (I1 3000000 (tn (a4 + 2))), .int (I1 3000000 (tn (a4 + 1))), .ref 148], sM Ln I1 L1 c1 s1)) ?_
  refine dd_Rn.ite 0 (c := I1 3000000 (tn (a4 + 2)) = 0) (A := (2733, [.ref 3000000, .ref 0, .ref 148, .ref 163, .int a4, .int x1, a6], [.int (I1 3000000 (tn (a4 + 1))), .ref 148], sM Ln I1 L1 c1 s1)) (B := (2729, [.ref 3000000, .ref 0, .ref 148, .ref 163, .int a4, .int x1, a6], [.int (I1 3000000 (tn (a4 + 1))), .ref 148], sM Ln I1 L1 c1 s1)) rfl (fun hc => ?_) (fun hc => ?_) (by omega)
  · have h := h.1 hc
    exact dd_Rn.go 1 (cf' := (2734, [.ref 3000000, .ref 0, .ref 148, .ref 163, .int a4, .int x1, a6], [.int 0, .int (I1 3000000 (tn (a4 + 1))), .ref 148], sM Ln I1 L1 c1 s1)) rfl h (by omega)
  · have h := h.2 hc
    exact dd_Rn.go 2 (cf' := (2734, [.ref 3000000, .ref 0, .ref 148, .ref 163, .int a4, .int x1, a6], [.int 1, .int (I1 3000000 (tn (a4 + 1))), .ref 148], sM Ln I1 L1 c1 s1)) rfl h (by omega)

theorem w_L_law__2734 {Ln d c s : Nat} {I : Nat → Nat → Int32} {L : Nat → Nat → Int64} {Q : dd_O → Prop} {a4 a5 b1 b2 : Int32} {a6 : Value} (hd : 28 ≤ d) (h : dd_Ev (d - 1) m_X11_span [.ref 148, .int b1, .int b2] (sM Ln I L c s) (dd_RI Ln c s (fun x1 I1 L1 => ((I1 148 0 = a5 → ((a5 = 0 → ((lg_cmp (L1 163 0) x1.toInt64 = 0 → dd_Rn d m_L_law_ (2767, [.ref 3000000, .ref 0, .ref 148, .ref 163, .int a4, .int a5, .int x1], [], sM Ln I1 L1 c s) Q) ∧ (¬ (lg_cmp (L1 163 0) x1.toInt64 = 0) → Q (none, .int 0, sM Ln I1 L1 c s)))) ∧ (¬ (a5 = 0) → dd_Rn d m_L_law_ (2767, [.ref 3000000, .ref 0, .ref 148, .ref 163, .int a4, .int a5, .int x1], [], sM Ln I1 L1 c s) Q))) ∧ (¬ (I1 148 0 = a5) → Q (none, .int 0, sM Ln I1 L1 c s)))))) : dd_Rn d m_L_law_ (2734, [.ref 3000000, .ref 0, .ref 148, .ref 163, .int a4, .int a5, a6], [.int b2, .int b1, .ref 148], sM Ln I L c s) Q := by
  obtain ⟨e, rfl⟩ : ∃ e, d = e + 16 := ⟨d - 16, by omega⟩
  refine dd_Rn.cI 0 (pc := 2734) (ls := [.ref 3000000, .ref 0, .ref 148, .ref 163, .int a4, .int a5, a6]) (st := [.int b2, .int b1, .ref 148]) (x := m_X11_span) (as := [.ref 148, .int b1, .int b2]) (rest := []) rfl rfl rfl rfl h ?_
  intro x1 I1 L1 h
  show dd_Rn (e + 16) m_L_law_ (2737, [.ref 3000000, .ref 0, .ref 148, .ref 163, .int a4, .int a5, a6], [.int x1], sM Ln I1 L1 c s) _
  refine dd_Rn.sub 2 (pc := 2740) (ls := [.ref 3000000, .ref 0, .ref 148, .ref 163, .int a4, .int a5, .int x1]) (st := [.ref 148]) (M := sM Ln I1 L1 c s) (x := m_X11_thrown) (as := [.ref 148]) (rest := []) rfl rfl rfl rfl ?_
  show dd_Rn (e + 15) m_X11_thrown (0, [.ref 148], [], sM Ln I1 L1 c s) _
  refine dd_Rn.retK 2 (pc := 4) (ls := [.ref 148]) (st := [.int (I1 148 0)]) (M := sM Ln I1 L1 c s) (o := (none, .int (I1 148 0), sM Ln I1 L1 c s)) rfl rfl (dd_Af.ret rfl ?_) (by omega)
  show dd_Rn (e + 16) m_L_law_ (2743, [.ref 3000000, .ref 0, .ref 148, .ref 163, .int a4, .int a5, .int x1], [.int (I1 148 0)], sM Ln I1 L1 c s) _
  refine dd_Rn.ite 1 (c := I1 148 0 = a5) (A := (2750, [.ref 3000000, .ref 0, .ref 148, .ref 163, .int a4, .int a5, .int x1], [], sM Ln I1 L1 c s)) (B := (2748, [.ref 3000000, .ref 0, .ref 148, .ref 163, .int a4, .int a5, .int x1], [], sM Ln I1 L1 c s)) rfl (fun hc => ?_) (fun hc => ?_) (by omega)
  · have h := h.1 hc
    refine dd_Rn.ite 1 (c := a5 = 0) (A := (2755, [.ref 3000000, .ref 0, .ref 148, .ref 163, .int a4, .int a5, .int x1], [], sM Ln I1 L1 c s)) (B := (2767, [.ref 3000000, .ref 0, .ref 148, .ref 163, .int a4, .int a5, .int x1], [], sM Ln I1 L1 c s)) rfl (fun hc => ?_) (fun hc => ?_) (by omega)
    · have h := h.1 hc
      refine dd_Rn.ite 6 (c := lg_cmp (L1 163 0) x1.toInt64 = 0) (A := (2767, [.ref 3000000, .ref 0, .ref 148, .ref 163, .int a4, .int a5, .int x1], [], sM Ln I1 L1 c s)) (B := (2765, [.ref 3000000, .ref 0, .ref 148, .ref 163, .int a4, .int a5, .int x1], [], sM Ln I1 L1 c s)) rfl (fun hc => ?_) (fun hc => ?_) (by omega)
      · have h := h.1 hc
        exact dd_Rn.go 0 (cf' := (2767, [.ref 3000000, .ref 0, .ref 148, .ref 163, .int a4, .int a5, .int x1], [], sM Ln I1 L1 c s)) rfl h (by omega)
      · have h := h.2 hc
        exact dd_Rn.retK 1 (pc := 2766) (ls := [.ref 3000000, .ref 0, .ref 148, .ref 163, .int a4, .int a5, .int x1]) (st := [.int 0]) (M := sM Ln I1 L1 c s) (o := (none, .int 0, sM Ln I1 L1 c s)) rfl rfl h (by omega)
    · have h := h.2 hc
      exact dd_Rn.go 0 (cf' := (2767, [.ref 3000000, .ref 0, .ref 148, .ref 163, .int a4, .int a5, .int x1], [], sM Ln I1 L1 c s)) rfl h (by omega)
  · have h := h.2 hc
    exact dd_Rn.retK 1 (pc := 2749) (ls := [.ref 3000000, .ref 0, .ref 148, .ref 163, .int a4, .int a5, .int x1]) (st := [.int 0]) (M := sM Ln I1 L1 c s) (o := (none, .int 0, sM Ln I1 L1 c s)) rfl rfl h (by omega)

theorem w_L_law__2767 {Ln d c s : Nat} {I : Nat → Nat → Int32} {L : Nat → Nat → Int64} {Q : dd_O → Prop} {a4 a5 a6 : Int32} (hd : 28 ≤ d) (h : dd_Rn d m_L_law_ (3009, [.ref 3000000, .ref 0, .ref 148, .ref 163, .int a4, .int a5, .int a6], [], sM Ln I L c s) Q) : dd_Rn d m_L_law_ (2767, [.ref 3000000, .ref 0, .ref 148, .ref 163, .int a4, .int a5, .int a6], [], sM Ln I L c s) Q := by
  obtain ⟨e, rfl⟩ : ∃ e, d = e + 16 := ⟨d - 16, by omega⟩
  exact dd_Rn.go 1 (cf' := (3009, [.ref 3000000, .ref 0, .ref 148, .ref 163, .int a4, .int a5, .int a6], [], sM Ln I L c s)) rfl h (by omega)

theorem w_L_law__2770 {Ln d c s : Nat} {I : Nat → Nat → Int32} {L : Nat → Nat → Int64} {Q : dd_O → Prop} {a4 : Int32} {a5 a6 : Value} (hd : 28 ≤ d) (h : ((0 ≤ a4 + 1 ∧ tn (a4 + 1) < Ln) ∧ ((0 ≤ a4 + 2 ∧ tn (a4 + 2) < Ln) ∧ ((I 3000000 (tn (a4 + 2)) = 0 → dd_Rn d m_L_law_ (2791, [.ref 3000000, .ref 0, .ref 148, .ref 163, .int a4, a5, a6], [.int 0, .int (I 3000000 (tn (a4 + 1))), .ref 0], sM Ln I L c s) Q) ∧ (¬ (I 3000000 (tn (a4 + 2)) = 0) → dd_Rn d m_L_law_ (2791, [.ref 3000000, .ref 0, .ref 148, .ref 163, .int a4, a5, a6], [.int 1, .int (I 3000000 (tn (a4 + 1))), .ref 0], sM Ln I L c s) Q))))) : dd_Rn d m_L_law_ (2770, [.ref 3000000, .ref 0, .ref 148, .ref 163, .int a4, a5, a6], [], sM Ln I L c s) Q := by
  obtain ⟨e, rfl⟩ : ∃ e, d = e + 16 := ⟨d - 16, by omega⟩
  obtain ⟨hc, h⟩ := h
  refine dd_Rn.go 5 (cf' := (2776, [.ref 3000000, .ref 0, .ref 148, .ref 163, .int a4, a5, a6], [.int (a4 + 1), .ref 3000000, .ref 0], sM Ln I L c s)) rfl ?_ (by omega)
  refine dd_Rn.ci (fun j0 => (2776, [.ref 3000000, .ref 0, .ref 148, .ref 163, .int a4, a5, a6], [.int j0, .ref 3000000, .ref 0], sM Ln I L c s)) (fun j0 => (2777, [.ref 3000000, .ref 0, .ref 148, .ref 163, .int a4, a5, a6], [.int (I 3000000 (tn j0)), .ref 0], sM Ln I L c s)) (fun j0 => 0 ≤ j0 ∧ tn j0 < Ln) (a4 + 1) (fun j0 hc h => dd_Rn.chk 0 (c := 0 ≤ j0 ∧ tn j0 < Ln) (A := (2777, [.ref 3000000, .ref 0, .ref 148, .ref 163, .int a4, a5, a6], [.int (I 3000000 (tn j0)), .ref 0], sM Ln I L c s)) rfl hc h (by omega)) hc ?_
  refine dd_Rn.se (cf := (2777, [.ref 3000000, .ref 0, .ref 148, .ref 163, .int a4, a5, a6], [.int (I 3000000 (tn (a4 + 1))), .ref 0], sM Ln I L c s)) ?_
  obtain ⟨hc, h⟩ := h
  refine dd_Rn.go 4 (cf' := (2782, [.ref 3000000, .ref 0, .ref 148, .ref 163, .int a4, a5, a6], [.int (a4 + 2), .ref 3000000, .int (I 3000000 (tn (a4 + 1))), .ref 0], sM Ln I L c s)) rfl ?_ (by omega)
  refine dd_Rn.ci (fun j0 => (2782, [.ref 3000000, .ref 0, .ref 148, .ref 163, .int a4, a5, a6], [.int j0, .ref 3000000, .int (I 3000000 (tn (a4 + 1))), .ref 0], sM Ln I L c s)) (fun j0 => (2783, [.ref 3000000, .ref 0, .ref 148, .ref 163, .int a4, a5, a6], [.int (I 3000000 (tn j0)), .int (I 3000000 (tn (a4 + 1))), .ref 0], sM Ln I L c s)) (fun j0 => 0 ≤ j0 ∧ tn j0 < Ln) (a4 + 2) (fun j0 hc h => dd_Rn.chk 0 (c := 0 ≤ j0 ∧ tn j0 < Ln) (A := (2783, [.ref 3000000, .ref 0, .ref 148, .ref 163, .int a4, a5, a6], [.int (I 3000000 (tn j0)), .int (I 3000000 (tn (a4 + 1))), .ref 0], sM Ln I L c s)) rfl hc h (by omega)) hc ?_
  refine dd_Rn.se (cf := (2783, [.ref 3000000, .ref 0, .ref 148, .ref 163, .int a4, a5, a6], [.int (I 3000000 (tn (a4 + 2))), .int (I 3000000 (tn (a4 + 1))), .ref 0], sM Ln I L c s)) ?_
  refine dd_Rn.ite 0 (c := I 3000000 (tn (a4 + 2)) = 0) (A := (2790, [.ref 3000000, .ref 0, .ref 148, .ref 163, .int a4, a5, a6], [.int (I 3000000 (tn (a4 + 1))), .ref 0], sM Ln I L c s)) (B := (2786, [.ref 3000000, .ref 0, .ref 148, .ref 163, .int a4, a5, a6], [.int (I 3000000 (tn (a4 + 1))), .ref 0], sM Ln I L c s)) rfl (fun hc => ?_) (fun hc => ?_) (by omega)
  · have h := h.1 hc
    exact dd_Rn.go 1 (cf' := (2791, [.ref 3000000, .ref 0, .ref 148, .ref 163, .int a4, a5, a6], [.int 0, .int (I 3000000 (tn (a4 + 1))), .ref 0], sM Ln I L c s)) rfl h (by omega)
  · have h := h.2 hc
    exact dd_Rn.go 2 (cf' := (2791, [.ref 3000000, .ref 0, .ref 148, .ref 163, .int a4, a5, a6], [.int 1, .int (I 3000000 (tn (a4 + 1))), .ref 0], sM Ln I L c s)) rfl h (by omega)

theorem w_L_law__2791 {Ln d c s : Nat} {I : Nat → Nat → Int32} {L : Nat → Nat → Int64} {Q : dd_O → Prop} {a4 b1 b2 : Int32} {a5 a6 : Value} (hd : 28 ≤ d) (h : dd_Ev (d - 1) m_L_led [.ref 0, .int b1, .int b2, .ref 163] (sM Ln I L c s) (dd_RJ Ln c s (fun x1 I1 L1 c1 s1 => ((0 ≤ a4 + 1 ∧ tn (a4 + 1) < Ln) ∧ ((0 ≤ a4 + 2 ∧ tn (a4 + 2) < Ln) ∧ ((I1 3000000 (tn (a4 + 2)) = 0 → dd_Rn d m_L_law_ (2818, [.ref 3000000, .ref 0, .ref 148, .ref 163, .int a4, .int x1, a6], [.int 0, .int (I1 3000000 (tn (a4 + 1))), .ref 148], sM Ln I1 L1 c1 s1) Q) ∧ (¬ (I1 3000000 (tn (a4 + 2)) = 0) → dd_Rn d m_L_law_ (2818, [.ref 3000000, .ref 0, .ref 148, .ref 163, .int a4, .int x1, a6], [.int 1, .int (I1 3000000 (tn (a4 + 1))), .ref 148], sM Ln I1 L1 c1 s1) Q))))))) : dd_Rn d m_L_law_ (2791, [.ref 3000000, .ref 0, .ref 148, .ref 163, .int a4, a5, a6], [.int b2, .int b1, .ref 0], sM Ln I L c s) Q := by
  obtain ⟨e, rfl⟩ : ∃ e, d = e + 16 := ⟨d - 16, by omega⟩
  refine dd_Rn.cJ 1 (pc := 2792) (ls := [.ref 3000000, .ref 0, .ref 148, .ref 163, .int a4, a5, a6]) (st := [.ref 163, .int b2, .int b1, .ref 0]) (x := m_L_led) (as := [.ref 0, .int b1, .int b2, .ref 163]) (rest := []) rfl rfl rfl rfl h ?_
  intro x1 I1 L1 c1 s1 h
  show dd_Rn (e + 16) m_L_law_ (2795, [.ref 3000000, .ref 0, .ref 148, .ref 163, .int a4, a5, a6], [.int x1], sM Ln I1 L1 c1 s1) _
  obtain ⟨hc, h⟩ := h
  refine dd_Rn.go 6 (cf' := (2803, [.ref 3000000, .ref 0, .ref 148, .ref 163, .int a4, .int x1, a6], [.int (a4 + 1), .ref 3000000, .ref 148], sM Ln I1 L1 c1 s1)) rfl ?_ (by omega)
  refine dd_Rn.ci (fun j0 => (2803, [.ref 3000000, .ref 0, .ref 148, .ref 163, .int a4, .int x1, a6], [.int j0, .ref 3000000, .ref 148], sM Ln I1 L1 c1 s1)) (fun j0 => (2804, [.ref 3000000, .ref 0, .ref 148, .ref 163, .int a4, .int x1, a6], [.int (I1 3000000 (tn j0)), .ref 148], sM Ln I1 L1 c1 s1)) (fun j0 => 0 ≤ j0 ∧ tn j0 < Ln) (a4 + 1) (fun j0 hc h => dd_Rn.chk 0 (c := 0 ≤ j0 ∧ tn j0 < Ln) (A := (2804, [.ref 3000000, .ref 0, .ref 148, .ref 163, .int a4, .int x1, a6], [.int (I1 3000000 (tn j0)), .ref 148], sM Ln I1 L1 c1 s1)) rfl hc h (by omega)) hc ?_
  refine dd_Rn.se (cf := (2804, [.ref 3000000, .ref 0, .ref 148, .ref 163, .int a4, .int x1, a6], [.int (I1 3000000 (tn (a4 + 1))), .ref 148], sM Ln I1 L1 c1 s1)) ?_
  obtain ⟨hc, h⟩ := h
  refine dd_Rn.go 4 (cf' := (2809, [.ref 3000000, .ref 0, .ref 148, .ref 163, .int a4, .int x1, a6], [.int (a4 + 2), .ref 3000000, .int (I1 3000000 (tn (a4 + 1))), .ref 148], sM Ln I1 L1 c1 s1)) rfl ?_ (by omega)
  refine dd_Rn.ci (fun j0 => (2809, [.ref 3000000, .ref 0, .ref 148, .ref 163, .int a4, .int x1, a6], [.int j0, .ref 3000000, .int (I1 3000000 (tn (a4 + 1))), .ref 148], sM Ln I1 L1 c1 s1)) (fun j0 => (2810, [.ref 3000000, .ref 0, .ref 148, .ref 163, .int a4, .int x1, a6], [.int (I1 3000000 (tn j0)), .int (I1 3000000 (tn (a4 + 1))), .ref 148], sM Ln I1 L1 c1 s1)) (fun j0 => 0 ≤ j0 ∧ tn j0 < Ln) (a4 + 2) (fun j0 hc h => dd_Rn.chk 0 (c := 0 ≤ j0 ∧ tn j0 < Ln) (A := (2810, [.ref 3000000, .ref 0, .ref 148, .ref 163, .int a4, .int x1, a6], [.int (I1 3000000 (tn j0)), .int (I1 3000000 (tn (a4 + 1))), .ref 148], sM Ln I1 L1 c1 s1)) rfl hc h (by omega)) hc ?_
  refine dd_Rn.se (cf := (2810, [.ref 3000000, .ref 0, .ref 148, .ref 163, .int a4, .int x1, a6], [.int (I1 3000000 (tn (a4 + 2))), .int (I1 3000000 (tn (a4 + 1))), .ref 148], sM Ln I1 L1 c1 s1)) ?_
  refine dd_Rn.ite 0 (c := I1 3000000 (tn (a4 + 2)) = 0) (A := (2817, [.ref 3000000, .ref 0, .ref 148, .ref 163, .int a4, .int x1, a6], [.int (I1 3000000 (tn (a4 + 1))), .ref 148], sM Ln I1 L1 c1 s1)) (B := (2813, [.ref 3000000, .ref 0, .ref 148, .ref 163, .int a4, .int x1, a6], [.int (I1 3000000 (tn (a4 + 1))), .ref 148], sM Ln I1 L1 c1 s1)) rfl (fun hc => ?_) (fun hc => ?_) (by omega)
  · have h := h.1 hc
    exact dd_Rn.go 1 (cf' := (2818, [.ref 3000000, .ref 0, .ref 148, .ref 163, .int a4, .int x1, a6], [.int 0, .int (I1 3000000 (tn (a4 + 1))), .ref 148], sM Ln I1 L1 c1 s1)) rfl h (by omega)
  · have h := h.2 hc
    exact dd_Rn.go 2 (cf' := (2818, [.ref 3000000, .ref 0, .ref 148, .ref 163, .int a4, .int x1, a6], [.int 1, .int (I1 3000000 (tn (a4 + 1))), .ref 148], sM Ln I1 L1 c1 s1)) rfl h (by omega)

theorem w_L_law__2818 {Ln d c s : Nat} {I : Nat → Nat → Int32} {L : Nat → Nat → Int64} {Q : dd_O → Prop} {a4 a5 b1 b2 : Int32} {a6 : Value} (hd : 28 ≤ d) (h : dd_Ev (d - 1) m_X11_led [.ref 148, .int b1, .int b2] (sM Ln I L c s) (dd_RI Ln c s (fun x1 I1 L1 => ((I1 148 0 = a5 → ((a5 = 0 → ((lg_cmp (L1 163 0) x1.toInt64 = 0 → dd_Rn d m_L_law_ (2851, [.ref 3000000, .ref 0, .ref 148, .ref 163, .int a4, .int a5, .int x1], [], sM Ln I1 L1 c s) Q) ∧ (¬ (lg_cmp (L1 163 0) x1.toInt64 = 0) → Q (none, .int 0, sM Ln I1 L1 c s)))) ∧ (¬ (a5 = 0) → dd_Rn d m_L_law_ (2851, [.ref 3000000, .ref 0, .ref 148, .ref 163, .int a4, .int a5, .int x1], [], sM Ln I1 L1 c s) Q))) ∧ (¬ (I1 148 0 = a5) → Q (none, .int 0, sM Ln I1 L1 c s)))))) : dd_Rn d m_L_law_ (2818, [.ref 3000000, .ref 0, .ref 148, .ref 163, .int a4, .int a5, a6], [.int b2, .int b1, .ref 148], sM Ln I L c s) Q := by
  obtain ⟨e, rfl⟩ : ∃ e, d = e + 16 := ⟨d - 16, by omega⟩
  refine dd_Rn.cI 0 (pc := 2818) (ls := [.ref 3000000, .ref 0, .ref 148, .ref 163, .int a4, .int a5, a6]) (st := [.int b2, .int b1, .ref 148]) (x := m_X11_led) (as := [.ref 148, .int b1, .int b2]) (rest := []) rfl rfl rfl rfl h ?_
  intro x1 I1 L1 h
  show dd_Rn (e + 16) m_L_law_ (2821, [.ref 3000000, .ref 0, .ref 148, .ref 163, .int a4, .int a5, a6], [.int x1], sM Ln I1 L1 c s) _
  refine dd_Rn.sub 2 (pc := 2824) (ls := [.ref 3000000, .ref 0, .ref 148, .ref 163, .int a4, .int a5, .int x1]) (st := [.ref 148]) (M := sM Ln I1 L1 c s) (x := m_X11_thrown) (as := [.ref 148]) (rest := []) rfl rfl rfl rfl ?_
  show dd_Rn (e + 15) m_X11_thrown (0, [.ref 148], [], sM Ln I1 L1 c s) _
  refine dd_Rn.retK 2 (pc := 4) (ls := [.ref 148]) (st := [.int (I1 148 0)]) (M := sM Ln I1 L1 c s) (o := (none, .int (I1 148 0), sM Ln I1 L1 c s)) rfl rfl (dd_Af.ret rfl ?_) (by omega)
  show dd_Rn (e + 16) m_L_law_ (2827, [.ref 3000000, .ref 0, .ref 148, .ref 163, .int a4, .int a5, .int x1], [.int (I1 148 0)], sM Ln I1 L1 c s) _
  refine dd_Rn.ite 1 (c := I1 148 0 = a5) (A := (2834, [.ref 3000000, .ref 0, .ref 148, .ref 163, .int a4, .int a5, .int x1], [], sM Ln I1 L1 c s)) (B := (2832, [.ref 3000000, .ref 0, .ref 148, .ref 163, .int a4, .int a5, .int x1], [], sM Ln I1 L1 c s)) rfl (fun hc => ?_) (fun hc => ?_) (by omega)
  · have h := h.1 hc
    refine dd_Rn.ite 1 (c := a5 = 0) (A := (2839, [.ref 3000000, .ref 0, .ref 148, .ref 163, .int a4, .int a5, .int x1], [], sM Ln I1 L1 c s)) (B := (2851, [.ref 3000000, .ref 0, .ref 148, .ref 163, .int a4, .int a5, .int x1], [], sM Ln I1 L1 c s)) rfl (fun hc => ?_) (fun hc => ?_) (by omega)
    · have h := h.1 hc
      refine dd_Rn.ite 6 (c := lg_cmp (L1 163 0) x1.toInt64 = 0) (A := (2851, [.ref 3000000, .ref 0, .ref 148, .ref 163, .int a4, .int a5, .int x1], [], sM Ln I1 L1 c s)) (B := (2849, [.ref 3000000, .ref 0, .ref 148, .ref 163, .int a4, .int a5, .int x1], [], sM Ln I1 L1 c s)) rfl (fun hc => ?_) (fun hc => ?_) (by omega)
      · have h := h.1 hc
        exact dd_Rn.go 0 (cf' := (2851, [.ref 3000000, .ref 0, .ref 148, .ref 163, .int a4, .int a5, .int x1], [], sM Ln I1 L1 c s)) rfl h (by omega)
      · have h := h.2 hc
        exact dd_Rn.retK 1 (pc := 2850) (ls := [.ref 3000000, .ref 0, .ref 148, .ref 163, .int a4, .int a5, .int x1]) (st := [.int 0]) (M := sM Ln I1 L1 c s) (o := (none, .int 0, sM Ln I1 L1 c s)) rfl rfl h (by omega)
    · have h := h.2 hc
      exact dd_Rn.go 0 (cf' := (2851, [.ref 3000000, .ref 0, .ref 148, .ref 163, .int a4, .int a5, .int x1], [], sM Ln I1 L1 c s)) rfl h (by omega)
  · have h := h.2 hc
    exact dd_Rn.retK 1 (pc := 2833) (ls := [.ref 3000000, .ref 0, .ref 148, .ref 163, .int a4, .int a5, .int x1]) (st := [.int 0]) (M := sM Ln I1 L1 c s) (o := (none, .int 0, sM Ln I1 L1 c s)) rfl rfl h (by omega)

theorem w_L_law__2851 {Ln d c s : Nat} {I : Nat → Nat → Int32} {L : Nat → Nat → Int64} {Q : dd_O → Prop} {a4 a5 a6 : Int32} (hd : 28 ≤ d) (h : dd_Rn d m_L_law_ (3009, [.ref 3000000, .ref 0, .ref 148, .ref 163, .int a4, .int a5, .int a6], [], sM Ln I L c s) Q) : dd_Rn d m_L_law_ (2851, [.ref 3000000, .ref 0, .ref 148, .ref 163, .int a4, .int a5, .int a6], [], sM Ln I L c s) Q := by
  obtain ⟨e, rfl⟩ : ∃ e, d = e + 16 := ⟨d - 16, by omega⟩
  exact dd_Rn.go 1 (cf' := (3009, [.ref 3000000, .ref 0, .ref 148, .ref 163, .int a4, .int a5, .int a6], [], sM Ln I L c s)) rfl h (by omega)

theorem w_L_law__2854 {Ln d c s : Nat} {I : Nat → Nat → Int32} {L : Nat → Nat → Int64} {Q : dd_O → Prop} {a4 : Int32} {a5 a6 : Value} (hd : 28 ≤ d) (h : ((0 ≤ a4 + 1 ∧ tn (a4 + 1) < Ln) ∧ ((0 ≤ a4 + 2 ∧ tn (a4 + 2) < Ln) ∧ dd_Ev (d - 1) m_L_log [.ref 0, .int (I 3000000 (tn (a4 + 1))), .int (I 3000000 (tn (a4 + 2))), .ref 163] (sM Ln I L c s) (dd_RJ Ln c s (fun x1 I1 L1 c1 s1 => ((0 ≤ a4 + 1 ∧ tn (a4 + 1) < Ln) ∧ ((0 ≤ a4 + 2 ∧ tn (a4 + 2) < Ln) ∧ dd_Ev (d - 1) m_X11_log [.ref 148, .int (I1 3000000 (tn (a4 + 1))), .int (I1 3000000 (tn (a4 + 2)))] (sM Ln I1 L1 c1 s1) (dd_RI Ln c1 s1 (fun x2 I2 L2 => ((I2 148 0 = x1 → ((x1 = 0 → ((lg_cmp (L2 163 0) x2.toInt64 = 0 → dd_Rn d m_L_law_ (2919, [.ref 3000000, .ref 0, .ref 148, .ref 163, .int a4, .int x1, .int x2], [], sM Ln I2 L2 c1 s1) Q) ∧ (¬ (lg_cmp (L2 163 0) x2.toInt64 = 0) → Q (none, .int 0, sM Ln I2 L2 c1 s1)))) ∧ (¬ (x1 = 0) → dd_Rn d m_L_law_ (2919, [.ref 3000000, .ref 0, .ref 148, .ref 163, .int a4, .int x1, .int x2], [], sM Ln I2 L2 c1 s1) Q))) ∧ (¬ (I2 148 0 = x1) → Q (none, .int 0, sM Ln I2 L2 c1 s1)))))))))))) : dd_Rn d m_L_law_ (2854, [.ref 3000000, .ref 0, .ref 148, .ref 163, .int a4, a5, a6], [], sM Ln I L c s) Q := by
  obtain ⟨e, rfl⟩ : ∃ e, d = e + 16 := ⟨d - 16, by omega⟩
  obtain ⟨hc, h⟩ := h
  refine dd_Rn.go 5 (cf' := (2860, [.ref 3000000, .ref 0, .ref 148, .ref 163, .int a4, a5, a6], [.int (a4 + 1), .ref 3000000, .ref 0], sM Ln I L c s)) rfl ?_ (by omega)
  refine dd_Rn.ci (fun j0 => (2860, [.ref 3000000, .ref 0, .ref 148, .ref 163, .int a4, a5, a6], [.int j0, .ref 3000000, .ref 0], sM Ln I L c s)) (fun j0 => (2861, [.ref 3000000, .ref 0, .ref 148, .ref 163, .int a4, a5, a6], [.int (I 3000000 (tn j0)), .ref 0], sM Ln I L c s)) (fun j0 => 0 ≤ j0 ∧ tn j0 < Ln) (a4 + 1) (fun j0 hc h => dd_Rn.chk 0 (c := 0 ≤ j0 ∧ tn j0 < Ln) (A := (2861, [.ref 3000000, .ref 0, .ref 148, .ref 163, .int a4, a5, a6], [.int (I 3000000 (tn j0)), .ref 0], sM Ln I L c s)) rfl hc h (by omega)) hc ?_
  refine dd_Rn.se (cf := (2861, [.ref 3000000, .ref 0, .ref 148, .ref 163, .int a4, a5, a6], [.int (I 3000000 (tn (a4 + 1))), .ref 0], sM Ln I L c s)) ?_
  obtain ⟨hc, h⟩ := h
  refine dd_Rn.go 4 (cf' := (2866, [.ref 3000000, .ref 0, .ref 148, .ref 163, .int a4, a5, a6], [.int (a4 + 2), .ref 3000000, .int (I 3000000 (tn (a4 + 1))), .ref 0], sM Ln I L c s)) rfl ?_ (by omega)
  refine dd_Rn.ci (fun j0 => (2866, [.ref 3000000, .ref 0, .ref 148, .ref 163, .int a4, a5, a6], [.int j0, .ref 3000000, .int (I 3000000 (tn (a4 + 1))), .ref 0], sM Ln I L c s)) (fun j0 => (2867, [.ref 3000000, .ref 0, .ref 148, .ref 163, .int a4, a5, a6], [.int (I 3000000 (tn j0)), .int (I 3000000 (tn (a4 + 1))), .ref 0], sM Ln I L c s)) (fun j0 => 0 ≤ j0 ∧ tn j0 < Ln) (a4 + 2) (fun j0 hc h => dd_Rn.chk 0 (c := 0 ≤ j0 ∧ tn j0 < Ln) (A := (2867, [.ref 3000000, .ref 0, .ref 148, .ref 163, .int a4, a5, a6], [.int (I 3000000 (tn j0)), .int (I 3000000 (tn (a4 + 1))), .ref 0], sM Ln I L c s)) rfl hc h (by omega)) hc ?_
  refine dd_Rn.se (cf := (2867, [.ref 3000000, .ref 0, .ref 148, .ref 163, .int a4, a5, a6], [.int (I 3000000 (tn (a4 + 2))), .int (I 3000000 (tn (a4 + 1))), .ref 0], sM Ln I L c s)) ?_
  refine dd_Rn.cJ 1 (pc := 2868) (ls := [.ref 3000000, .ref 0, .ref 148, .ref 163, .int a4, a5, a6]) (st := [.ref 163, .int (I 3000000 (tn (a4 + 2))), .int (I 3000000 (tn (a4 + 1))), .ref 0]) (x := m_L_log) (as := [.ref 0, .int (I 3000000 (tn (a4 + 1))), .int (I 3000000 (tn (a4 + 2))), .ref 163]) (rest := []) rfl rfl rfl rfl h ?_
  intro x1 I1 L1 c1 s1 h
  show dd_Rn (e + 16) m_L_law_ (2871, [.ref 3000000, .ref 0, .ref 148, .ref 163, .int a4, a5, a6], [.int x1], sM Ln I1 L1 c1 s1) _
  obtain ⟨hc, h⟩ := h
  refine dd_Rn.go 6 (cf' := (2879, [.ref 3000000, .ref 0, .ref 148, .ref 163, .int a4, .int x1, a6], [.int (a4 + 1), .ref 3000000, .ref 148], sM Ln I1 L1 c1 s1)) rfl ?_ (by omega)
  refine dd_Rn.ci (fun j0 => (2879, [.ref 3000000, .ref 0, .ref 148, .ref 163, .int a4, .int x1, a6], [.int j0, .ref 3000000, .ref 148], sM Ln I1 L1 c1 s1)) (fun j0 => (2880, [.ref 3000000, .ref 0, .ref 148, .ref 163, .int a4, .int x1, a6], [.int (I1 3000000 (tn j0)), .ref 148], sM Ln I1 L1 c1 s1)) (fun j0 => 0 ≤ j0 ∧ tn j0 < Ln) (a4 + 1) (fun j0 hc h => dd_Rn.chk 0 (c := 0 ≤ j0 ∧ tn j0 < Ln) (A := (2880, [.ref 3000000, .ref 0, .ref 148, .ref 163, .int a4, .int x1, a6], [.int (I1 3000000 (tn j0)), .ref 148], sM Ln I1 L1 c1 s1)) rfl hc h (by omega)) hc ?_
  refine dd_Rn.se (cf := (2880, [.ref 3000000, .ref 0, .ref 148, .ref 163, .int a4, .int x1, a6], [.int (I1 3000000 (tn (a4 + 1))), .ref 148], sM Ln I1 L1 c1 s1)) ?_
  obtain ⟨hc, h⟩ := h
  refine dd_Rn.go 4 (cf' := (2885, [.ref 3000000, .ref 0, .ref 148, .ref 163, .int a4, .int x1, a6], [.int (a4 + 2), .ref 3000000, .int (I1 3000000 (tn (a4 + 1))), .ref 148], sM Ln I1 L1 c1 s1)) rfl ?_ (by omega)
  refine dd_Rn.ci (fun j0 => (2885, [.ref 3000000, .ref 0, .ref 148, .ref 163, .int a4, .int x1, a6], [.int j0, .ref 3000000, .int (I1 3000000 (tn (a4 + 1))), .ref 148], sM Ln I1 L1 c1 s1)) (fun j0 => (2886, [.ref 3000000, .ref 0, .ref 148, .ref 163, .int a4, .int x1, a6], [.int (I1 3000000 (tn j0)), .int (I1 3000000 (tn (a4 + 1))), .ref 148], sM Ln I1 L1 c1 s1)) (fun j0 => 0 ≤ j0 ∧ tn j0 < Ln) (a4 + 2) (fun j0 hc h => dd_Rn.chk 0 (c := 0 ≤ j0 ∧ tn j0 < Ln) (A := (2886, [.ref 3000000, .ref 0, .ref 148, .ref 163, .int a4, .int x1, a6], [.int (I1 3000000 (tn j0)), .int (I1 3000000 (tn (a4 + 1))), .ref 148], sM Ln I1 L1 c1 s1)) rfl hc h (by omega)) hc ?_
  refine dd_Rn.se (cf := (2886, [.ref 3000000, .ref 0, .ref 148, .ref 163, .int a4, .int x1, a6], [.int (I1 3000000 (tn (a4 + 2))), .int (I1 3000000 (tn (a4 + 1))), .ref 148], sM Ln I1 L1 c1 s1)) ?_
  refine dd_Rn.cI 0 (pc := 2886) (ls := [.ref 3000000, .ref 0, .ref 148, .ref 163, .int a4, .int x1, a6]) (st := [.int (I1 3000000 (tn (a4 + 2))), .int (I1 3000000 (tn (a4 + 1))), .ref 148]) (x := m_X11_log) (as := [.ref 148, .int (I1 3000000 (tn (a4 + 1))), .int (I1 3000000 (tn (a4 + 2)))]) (rest := []) rfl rfl rfl rfl h ?_
  intro x2 I2 L2 h
  show dd_Rn (e + 16) m_L_law_ (2889, [.ref 3000000, .ref 0, .ref 148, .ref 163, .int a4, .int x1, a6], [.int x2], sM Ln I2 L2 c1 s1) _
  refine dd_Rn.sub 2 (pc := 2892) (ls := [.ref 3000000, .ref 0, .ref 148, .ref 163, .int a4, .int x1, .int x2]) (st := [.ref 148]) (M := sM Ln I2 L2 c1 s1) (x := m_X11_thrown) (as := [.ref 148]) (rest := []) rfl rfl rfl rfl ?_
  show dd_Rn (e + 15) m_X11_thrown (0, [.ref 148], [], sM Ln I2 L2 c1 s1) _
  refine dd_Rn.retK 2 (pc := 4) (ls := [.ref 148]) (st := [.int (I2 148 0)]) (M := sM Ln I2 L2 c1 s1) (o := (none, .int (I2 148 0), sM Ln I2 L2 c1 s1)) rfl rfl (dd_Af.ret rfl ?_) (by omega)
  show dd_Rn (e + 16) m_L_law_ (2895, [.ref 3000000, .ref 0, .ref 148, .ref 163, .int a4, .int x1, .int x2], [.int (I2 148 0)], sM Ln I2 L2 c1 s1) _
  refine dd_Rn.ite 1 (c := I2 148 0 = x1) (A := (2902, [.ref 3000000, .ref 0, .ref 148, .ref 163, .int a4, .int x1, .int x2], [], sM Ln I2 L2 c1 s1)) (B := (2900, [.ref 3000000, .ref 0, .ref 148, .ref 163, .int a4, .int x1, .int x2], [], sM Ln I2 L2 c1 s1)) rfl (fun hc => ?_) (fun hc => ?_) (by omega)
  · have h := h.1 hc
    refine dd_Rn.ite 1 (c := x1 = 0) (A := (2907, [.ref 3000000, .ref 0, .ref 148, .ref 163, .int a4, .int x1, .int x2], [], sM Ln I2 L2 c1 s1)) (B := (2919, [.ref 3000000, .ref 0, .ref 148, .ref 163, .int a4, .int x1, .int x2], [], sM Ln I2 L2 c1 s1)) rfl (fun hc => ?_) (fun hc => ?_) (by omega)
    · have h := h.1 hc
      refine dd_Rn.ite 6 (c := lg_cmp (L2 163 0) x2.toInt64 = 0) (A := (2919, [.ref 3000000, .ref 0, .ref 148, .ref 163, .int a4, .int x1, .int x2], [], sM Ln I2 L2 c1 s1)) (B := (2917, [.ref 3000000, .ref 0, .ref 148, .ref 163, .int a4, .int x1, .int x2], [], sM Ln I2 L2 c1 s1)) rfl (fun hc => ?_) (fun hc => ?_) (by omega)
      · have h := h.1 hc
        exact dd_Rn.go 0 (cf' := (2919, [.ref 3000000, .ref 0, .ref 148, .ref 163, .int a4, .int x1, .int x2], [], sM Ln I2 L2 c1 s1)) rfl h (by omega)
      · have h := h.2 hc
        exact dd_Rn.retK 1 (pc := 2918) (ls := [.ref 3000000, .ref 0, .ref 148, .ref 163, .int a4, .int x1, .int x2]) (st := [.int 0]) (M := sM Ln I2 L2 c1 s1) (o := (none, .int 0, sM Ln I2 L2 c1 s1)) rfl rfl h (by omega)
    · have h := h.2 hc
      exact dd_Rn.go 0 (cf' := (2919, [.ref 3000000, .ref 0, .ref 148, .ref 163, .int a4, .int x1, .int x2], [], sM Ln I2 L2 c1 s1)) rfl h (by omega)
  · have h := h.2 hc
    exact dd_Rn.retK 1 (pc := 2901) (ls := [.ref 3000000, .ref 0, .ref 148, .ref 163, .int a4, .int x1, .int x2]) (st := [.int 0]) (M := sM Ln I2 L2 c1 s1) (o := (none, .int 0, sM Ln I2 L2 c1 s1)) rfl rfl h (by omega)

theorem w_L_law__2919 {Ln d c s : Nat} {I : Nat → Nat → Int32} {L : Nat → Nat → Int64} {Q : dd_O → Prop} {a4 a5 a6 : Int32} (hd : 28 ≤ d) (h : dd_Rn d m_L_law_ (3009, [.ref 3000000, .ref 0, .ref 148, .ref 163, .int a4, .int a5, .int a6], [], sM Ln I L c s) Q) : dd_Rn d m_L_law_ (2919, [.ref 3000000, .ref 0, .ref 148, .ref 163, .int a4, .int a5, .int a6], [], sM Ln I L c s) Q := by
  obtain ⟨e, rfl⟩ : ∃ e, d = e + 16 := ⟨d - 16, by omega⟩
  exact dd_Rn.go 1 (cf' := (3009, [.ref 3000000, .ref 0, .ref 148, .ref 163, .int a4, .int a5, .int a6], [], sM Ln I L c s)) rfl h (by omega)

theorem w_L_law__2922 {Ln d c s : Nat} {I : Nat → Nat → Int32} {L : Nat → Nat → Int64} {Q : dd_O → Prop} {a4 : Int32} {a5 a6 : Value} (hd : 28 ≤ d) (h : ((0 ≤ a4 + 1 ∧ tn (a4 + 1) < Ln) ∧ dd_Ev (d - 1) m_X10_seed [.ref 0, .int (I 3000000 (tn (a4 + 1)))] (sM Ln I L c s) (dd_RI Ln c s (fun x1 I1 L1 => ((0 ≤ a4 + 1 ∧ tn (a4 + 1) < Ln) ∧ dd_Ev (d - 1) m_X11_seed [.ref 148, .int (I1 3000000 (tn (a4 + 1)))] (sM Ln I1 L1 c s) (dd_RI Ln c s (fun x2 I2 L2 => ((x1 = x2 → dd_Rn d m_L_law_ (3009, [.ref 3000000, .ref 0, .ref 148, .ref 163, .int a4, a5, a6], [], sM Ln I2 L2 c s) Q) ∧ (¬ (x1 = x2) → Q (none, .int 0, sM Ln I2 L2 c s)))))))))) : dd_Rn d m_L_law_ (2922, [.ref 3000000, .ref 0, .ref 148, .ref 163, .int a4, a5, a6], [], sM Ln I L c s) Q := by
  obtain ⟨e, rfl⟩ : ∃ e, d = e + 16 := ⟨d - 16, by omega⟩
  obtain ⟨hc, h⟩ := h
  refine dd_Rn.go 5 (cf' := (2928, [.ref 3000000, .ref 0, .ref 148, .ref 163, .int a4, a5, a6], [.int (a4 + 1), .ref 3000000, .ref 0], sM Ln I L c s)) rfl ?_ (by omega)
  refine dd_Rn.ci (fun j0 => (2928, [.ref 3000000, .ref 0, .ref 148, .ref 163, .int a4, a5, a6], [.int j0, .ref 3000000, .ref 0], sM Ln I L c s)) (fun j0 => (2929, [.ref 3000000, .ref 0, .ref 148, .ref 163, .int a4, a5, a6], [.int (I 3000000 (tn j0)), .ref 0], sM Ln I L c s)) (fun j0 => 0 ≤ j0 ∧ tn j0 < Ln) (a4 + 1) (fun j0 hc h => dd_Rn.chk 0 (c := 0 ≤ j0 ∧ tn j0 < Ln) (A := (2929, [.ref 3000000, .ref 0, .ref 148, .ref 163, .int a4, a5, a6], [.int (I 3000000 (tn j0)), .ref 0], sM Ln I L c s)) rfl hc h (by omega)) hc ?_
  refine dd_Rn.se (cf := (2929, [.ref 3000000, .ref 0, .ref 148, .ref 163, .int a4, a5, a6], [.int (I 3000000 (tn (a4 + 1))), .ref 0], sM Ln I L c s)) ?_
  refine dd_Rn.cI 0 (pc := 2929) (ls := [.ref 3000000, .ref 0, .ref 148, .ref 163, .int a4, a5, a6]) (st := [.int (I 3000000 (tn (a4 + 1))), .ref 0]) (x := m_X10_seed) (as := [.ref 0, .int (I 3000000 (tn (a4 + 1)))]) (rest := []) rfl rfl rfl rfl h ?_
  intro x1 I1 L1 h
  show dd_Rn (e + 16) m_L_law_ (2932, [.ref 3000000, .ref 0, .ref 148, .ref 163, .int a4, a5, a6], [.int x1], sM Ln I1 L1 c s) _
  obtain ⟨hc, h⟩ := h
  refine dd_Rn.go 5 (cf' := (2938, [.ref 3000000, .ref 0, .ref 148, .ref 163, .int a4, a5, a6], [.int (a4 + 1), .ref 3000000, .ref 148, .int x1], sM Ln I1 L1 c s)) rfl ?_ (by omega)
  refine dd_Rn.ci (fun j0 => (2938, [.ref 3000000, .ref 0, .ref 148, .ref 163, .int a4, a5, a6], [.int j0, .ref 3000000, .ref 148, .int x1], sM Ln I1 L1 c s)) (fun j0 => (2939, [.ref 3000000, .ref 0, .ref 148, .ref 163, .int a4, a5, a6], [.int (I1 3000000 (tn j0)), .ref 148, .int x1], sM Ln I1 L1 c s)) (fun j0 => 0 ≤ j0 ∧ tn j0 < Ln) (a4 + 1) (fun j0 hc h => dd_Rn.chk 0 (c := 0 ≤ j0 ∧ tn j0 < Ln) (A := (2939, [.ref 3000000, .ref 0, .ref 148, .ref 163, .int a4, a5, a6], [.int (I1 3000000 (tn j0)), .ref 148, .int x1], sM Ln I1 L1 c s)) rfl hc h (by omega)) hc ?_
  refine dd_Rn.se (cf := (2939, [.ref 3000000, .ref 0, .ref 148, .ref 163, .int a4, a5, a6], [.int (I1 3000000 (tn (a4 + 1))), .ref 148, .int x1], sM Ln I1 L1 c s)) ?_
  refine dd_Rn.cI 0 (pc := 2939) (ls := [.ref 3000000, .ref 0, .ref 148, .ref 163, .int a4, a5, a6]) (st := [.int (I1 3000000 (tn (a4 + 1))), .ref 148, .int x1]) (x := m_X11_seed) (as := [.ref 148, .int (I1 3000000 (tn (a4 + 1)))]) (rest := [.int x1]) rfl rfl rfl rfl h ?_
  intro x2 I2 L2 h
  show dd_Rn (e + 16) m_L_law_ (2942, [.ref 3000000, .ref 0, .ref 148, .ref 163, .int a4, a5, a6], [.int x2, .int x1], sM Ln I2 L2 c s) _
  refine dd_Rn.ite 0 (c := x1 = x2) (A := (3009, [.ref 3000000, .ref 0, .ref 148, .ref 163, .int a4, a5, a6], [], sM Ln I2 L2 c s)) (B := (2945, [.ref 3000000, .ref 0, .ref 148, .ref 163, .int a4, a5, a6], [], sM Ln I2 L2 c s)) rfl (fun hc => ?_) (fun hc => ?_) (by omega)
  · have h := h.1 hc
    exact dd_Rn.go 0 (cf' := (3009, [.ref 3000000, .ref 0, .ref 148, .ref 163, .int a4, a5, a6], [], sM Ln I2 L2 c s)) rfl h (by omega)
  · have h := h.2 hc
    exact dd_Rn.retK 1 (pc := 2946) (ls := [.ref 3000000, .ref 0, .ref 148, .ref 163, .int a4, a5, a6]) (st := [.int 0]) (M := sM Ln I2 L2 c s) (o := (none, .int 0, sM Ln I2 L2 c s)) rfl rfl h (by omega)

theorem w_L_law__2947 {Ln d c s : Nat} {I : Nat → Nat → Int32} {L : Nat → Nat → Int64} {Q : dd_O → Prop} {a4 : Int32} {a5 a6 : Value} (hd : 28 ≤ d) (h : dd_Ev (d - 1) m_X10_undo [.ref 0] (sM Ln I L c s) (dd_RI Ln c s (fun x1 I1 L1 => dd_Ev (d - 1) m_X11_undo [.ref 148] (sM Ln I1 L1 c s) (dd_RI Ln c s (fun x2 I2 L2 => ((x1 = x2 → dd_Rn d m_L_law_ (3009, [.ref 3000000, .ref 0, .ref 148, .ref 163, .int a4, a5, a6], [], sM Ln I2 L2 c s) Q) ∧ (¬ (x1 = x2) → Q (none, .int 0, sM Ln I2 L2 c s)))))))) : dd_Rn d m_L_law_ (2947, [.ref 3000000, .ref 0, .ref 148, .ref 163, .int a4, a5, a6], [], sM Ln I L c s) Q := by
  obtain ⟨e, rfl⟩ : ∃ e, d = e + 16 := ⟨d - 16, by omega⟩
  refine dd_Rn.cI 1 (pc := 2948) (ls := [.ref 3000000, .ref 0, .ref 148, .ref 163, .int a4, a5, a6]) (st := [.ref 0]) (x := m_X10_undo) (as := [.ref 0]) (rest := []) rfl rfl rfl rfl h ?_
  intro x1 I1 L1 h
  show dd_Rn (e + 16) m_L_law_ (2951, [.ref 3000000, .ref 0, .ref 148, .ref 163, .int a4, a5, a6], [.int x1], sM Ln I1 L1 c s) _
  refine dd_Rn.cI 1 (pc := 2952) (ls := [.ref 3000000, .ref 0, .ref 148, .ref 163, .int a4, a5, a6]) (st := [.ref 148, .int x1]) (x := m_X11_undo) (as := [.ref 148]) (rest := [.int x1]) rfl rfl rfl rfl h ?_
  intro x2 I2 L2 h
  show dd_Rn (e + 16) m_L_law_ (2955, [.ref 3000000, .ref 0, .ref 148, .ref 163, .int a4, a5, a6], [.int x2, .int x1], sM Ln I2 L2 c s) _
  refine dd_Rn.ite 0 (c := x1 = x2) (A := (3009, [.ref 3000000, .ref 0, .ref 148, .ref 163, .int a4, a5, a6], [], sM Ln I2 L2 c s)) (B := (2958, [.ref 3000000, .ref 0, .ref 148, .ref 163, .int a4, a5, a6], [], sM Ln I2 L2 c s)) rfl (fun hc => ?_) (fun hc => ?_) (by omega)
  · have h := h.1 hc
    exact dd_Rn.go 0 (cf' := (3009, [.ref 3000000, .ref 0, .ref 148, .ref 163, .int a4, a5, a6], [], sM Ln I2 L2 c s)) rfl h (by omega)
  · have h := h.2 hc
    exact dd_Rn.retK 1 (pc := 2959) (ls := [.ref 3000000, .ref 0, .ref 148, .ref 163, .int a4, a5, a6]) (st := [.int 0]) (M := sM Ln I2 L2 c s) (o := (none, .int 0, sM Ln I2 L2 c s)) rfl rfl h (by omega)

theorem w_L_law__2960 {Ln d c s : Nat} {I : Nat → Nat → Int32} {L : Nat → Nat → Int64} {Q : dd_O → Prop} {a4 : Int32} {a5 a6 : Value} (hd : 28 ≤ d) (h : dd_Ev (d - 1) m_X10_image [.ref 0] (sM Ln I L c s) (dd_RV Ln c s (fun I1 L1 => dd_Ev (d - 1) m_X11_image [.ref 148] (sM Ln I1 L1 c s) (dd_RV Ln c s (fun I2 L2 => dd_Rn d m_L_law_ (3009, [.ref 3000000, .ref 0, .ref 148, .ref 163, .int a4, a5, a6], [], sM Ln I2 L2 c s) Q))))) : dd_Rn d m_L_law_ (2960, [.ref 3000000, .ref 0, .ref 148, .ref 163, .int a4, a5, a6], [], sM Ln I L c s) Q := by
  obtain ⟨e, rfl⟩ : ∃ e, d = e + 16 := ⟨d - 16, by omega⟩
  refine dd_Rn.cV 1 (pc := 2961) (ls := [.ref 3000000, .ref 0, .ref 148, .ref 163, .int a4, a5, a6]) (st := [.ref 0]) (x := m_X10_image) (as := [.ref 0]) (rest := []) rfl rfl rfl rfl h ?_
  intro I1 L1 h
  show dd_Rn (e + 16) m_L_law_ (2964, [.ref 3000000, .ref 0, .ref 148, .ref 163, .int a4, a5, a6], [], sM Ln I1 L1 c s) _
  refine dd_Rn.cV 1 (pc := 2965) (ls := [.ref 3000000, .ref 0, .ref 148, .ref 163, .int a4, a5, a6]) (st := [.ref 148]) (x := m_X11_image) (as := [.ref 148]) (rest := []) rfl rfl rfl rfl h ?_
  intro I2 L2 h
  show dd_Rn (e + 16) m_L_law_ (2968, [.ref 3000000, .ref 0, .ref 148, .ref 163, .int a4, a5, a6], [], sM Ln I2 L2 c s) _
  exact dd_Rn.go 1 (cf' := (3009, [.ref 3000000, .ref 0, .ref 148, .ref 163, .int a4, a5, a6], [], sM Ln I2 L2 c s)) rfl h (by omega)

theorem w_L_law__2971 {Ln d c s : Nat} {I : Nat → Nat → Int32} {L : Nat → Nat → Int64} {Q : dd_O → Prop} {a4 : Int32} {a5 a6 : Value} (hd : 28 ≤ d) (h : dd_Ev (d - 1) m_X10_back [.ref 0] (sM Ln I L c s) (dd_RI Ln c s (fun x1 I1 L1 => dd_Ev (d - 1) m_X11_back [.ref 148] (sM Ln I1 L1 c s) (dd_RI Ln c s (fun x2 I2 L2 => ((x1 = x2 → dd_Rn d m_L_law_ (3009, [.ref 3000000, .ref 0, .ref 148, .ref 163, .int a4, a5, a6], [], sM Ln I2 L2 c s) Q) ∧ (¬ (x1 = x2) → Q (none, .int 0, sM Ln I2 L2 c s)))))))) : dd_Rn d m_L_law_ (2971, [.ref 3000000, .ref 0, .ref 148, .ref 163, .int a4, a5, a6], [], sM Ln I L c s) Q := by
  obtain ⟨e, rfl⟩ : ∃ e, d = e + 16 := ⟨d - 16, by omega⟩
  refine dd_Rn.cI 1 (pc := 2972) (ls := [.ref 3000000, .ref 0, .ref 148, .ref 163, .int a4, a5, a6]) (st := [.ref 0]) (x := m_X10_back) (as := [.ref 0]) (rest := []) rfl rfl rfl rfl h ?_
  intro x1 I1 L1 h
  show dd_Rn (e + 16) m_L_law_ (2975, [.ref 3000000, .ref 0, .ref 148, .ref 163, .int a4, a5, a6], [.int x1], sM Ln I1 L1 c s) _
  refine dd_Rn.cI 1 (pc := 2976) (ls := [.ref 3000000, .ref 0, .ref 148, .ref 163, .int a4, a5, a6]) (st := [.ref 148, .int x1]) (x := m_X11_back) (as := [.ref 148]) (rest := [.int x1]) rfl rfl rfl rfl h ?_
  intro x2 I2 L2 h
  show dd_Rn (e + 16) m_L_law_ (2979, [.ref 3000000, .ref 0, .ref 148, .ref 163, .int a4, a5, a6], [.int x2, .int x1], sM Ln I2 L2 c s) _
  refine dd_Rn.ite 0 (c := x1 = x2) (A := (3009, [.ref 3000000, .ref 0, .ref 148, .ref 163, .int a4, a5, a6], [], sM Ln I2 L2 c s)) (B := (2982, [.ref 3000000, .ref 0, .ref 148, .ref 163, .int a4, a5, a6], [], sM Ln I2 L2 c s)) rfl (fun hc => ?_) (fun hc => ?_) (by omega)
  · have h := h.1 hc
    exact dd_Rn.go 0 (cf' := (3009, [.ref 3000000, .ref 0, .ref 148, .ref 163, .int a4, a5, a6], [], sM Ln I2 L2 c s)) rfl h (by omega)
  · have h := h.2 hc
    exact dd_Rn.retK 1 (pc := 2983) (ls := [.ref 3000000, .ref 0, .ref 148, .ref 163, .int a4, a5, a6]) (st := [.int 0]) (M := sM Ln I2 L2 c s) (o := (none, .int 0, sM Ln I2 L2 c s)) rfl rfl h (by omega)

theorem w_L_law__2984 {Ln d c s : Nat} {I : Nat → Nat → Int32} {L : Nat → Nat → Int64} {Q : dd_O → Prop} {a4 : Int32} {a5 a6 : Value} (hd : 28 ≤ d) (h : ((0 ≤ a4 + 1 ∧ tn (a4 + 1) < Ln) ∧ dd_Ev (d - 1) m_X10_count [.ref 0, .int (I 3000000 (tn (a4 + 1)))] (sM Ln I L c s) (dd_RI Ln c s (fun x1 I1 L1 => ((0 ≤ a4 + 1 ∧ tn (a4 + 1) < Ln) ∧ dd_Ev (d - 1) m_X11_count [.ref 148, .int (I1 3000000 (tn (a4 + 1)))] (sM Ln I1 L1 c s) (dd_RI Ln c s (fun x2 I2 L2 => ((x1 = x2 → dd_Rn d m_L_law_ (3009, [.ref 3000000, .ref 0, .ref 148, .ref 163, .int a4, a5, a6], [], sM Ln I2 L2 c s) Q) ∧ (¬ (x1 = x2) → Q (none, .int 0, sM Ln I2 L2 c s)))))))))) : dd_Rn d m_L_law_ (2984, [.ref 3000000, .ref 0, .ref 148, .ref 163, .int a4, a5, a6], [], sM Ln I L c s) Q := by
  obtain ⟨e, rfl⟩ : ∃ e, d = e + 16 := ⟨d - 16, by omega⟩
  obtain ⟨hc, h⟩ := h
  refine dd_Rn.go 5 (cf' := (2990, [.ref 3000000, .ref 0, .ref 148, .ref 163, .int a4, a5, a6], [.int (a4 + 1), .ref 3000000, .ref 0], sM Ln I L c s)) rfl ?_ (by omega)
  refine dd_Rn.ci (fun j0 => (2990, [.ref 3000000, .ref 0, .ref 148, .ref 163, .int a4, a5, a6], [.int j0, .ref 3000000, .ref 0], sM Ln I L c s)) (fun j0 => (2991, [.ref 3000000, .ref 0, .ref 148, .ref 163, .int a4, a5, a6], [.int (I 3000000 (tn j0)), .ref 0], sM Ln I L c s)) (fun j0 => 0 ≤ j0 ∧ tn j0 < Ln) (a4 + 1) (fun j0 hc h => dd_Rn.chk 0 (c := 0 ≤ j0 ∧ tn j0 < Ln) (A := (2991, [.ref 3000000, .ref 0, .ref 148, .ref 163, .int a4, a5, a6], [.int (I 3000000 (tn j0)), .ref 0], sM Ln I L c s)) rfl hc h (by omega)) hc ?_
  refine dd_Rn.se (cf := (2991, [.ref 3000000, .ref 0, .ref 148, .ref 163, .int a4, a5, a6], [.int (I 3000000 (tn (a4 + 1))), .ref 0], sM Ln I L c s)) ?_
  refine dd_Rn.cI 0 (pc := 2991) (ls := [.ref 3000000, .ref 0, .ref 148, .ref 163, .int a4, a5, a6]) (st := [.int (I 3000000 (tn (a4 + 1))), .ref 0]) (x := m_X10_count) (as := [.ref 0, .int (I 3000000 (tn (a4 + 1)))]) (rest := []) rfl rfl rfl rfl h ?_
  intro x1 I1 L1 h
  show dd_Rn (e + 16) m_L_law_ (2994, [.ref 3000000, .ref 0, .ref 148, .ref 163, .int a4, a5, a6], [.int x1], sM Ln I1 L1 c s) _
  obtain ⟨hc, h⟩ := h
  refine dd_Rn.go 5 (cf' := (3000, [.ref 3000000, .ref 0, .ref 148, .ref 163, .int a4, a5, a6], [.int (a4 + 1), .ref 3000000, .ref 148, .int x1], sM Ln I1 L1 c s)) rfl ?_ (by omega)
  refine dd_Rn.ci (fun j0 => (3000, [.ref 3000000, .ref 0, .ref 148, .ref 163, .int a4, a5, a6], [.int j0, .ref 3000000, .ref 148, .int x1], sM Ln I1 L1 c s)) (fun j0 => (3001, [.ref 3000000, .ref 0, .ref 148, .ref 163, .int a4, a5, a6], [.int (I1 3000000 (tn j0)), .ref 148, .int x1], sM Ln I1 L1 c s)) (fun j0 => 0 ≤ j0 ∧ tn j0 < Ln) (a4 + 1) (fun j0 hc h => dd_Rn.chk 0 (c := 0 ≤ j0 ∧ tn j0 < Ln) (A := (3001, [.ref 3000000, .ref 0, .ref 148, .ref 163, .int a4, a5, a6], [.int (I1 3000000 (tn j0)), .ref 148, .int x1], sM Ln I1 L1 c s)) rfl hc h (by omega)) hc ?_
  refine dd_Rn.se (cf := (3001, [.ref 3000000, .ref 0, .ref 148, .ref 163, .int a4, a5, a6], [.int (I1 3000000 (tn (a4 + 1))), .ref 148, .int x1], sM Ln I1 L1 c s)) ?_
  refine dd_Rn.cI 0 (pc := 3001) (ls := [.ref 3000000, .ref 0, .ref 148, .ref 163, .int a4, a5, a6]) (st := [.int (I1 3000000 (tn (a4 + 1))), .ref 148, .int x1]) (x := m_X11_count) (as := [.ref 148, .int (I1 3000000 (tn (a4 + 1)))]) (rest := [.int x1]) rfl rfl rfl rfl h ?_
  intro x2 I2 L2 h
  show dd_Rn (e + 16) m_L_law_ (3004, [.ref 3000000, .ref 0, .ref 148, .ref 163, .int a4, a5, a6], [.int x2, .int x1], sM Ln I2 L2 c s) _
  refine dd_Rn.ite 0 (c := x1 = x2) (A := (3009, [.ref 3000000, .ref 0, .ref 148, .ref 163, .int a4, a5, a6], [], sM Ln I2 L2 c s)) (B := (3007, [.ref 3000000, .ref 0, .ref 148, .ref 163, .int a4, a5, a6], [], sM Ln I2 L2 c s)) rfl (fun hc => ?_) (fun hc => ?_) (by omega)
  · have h := h.1 hc
    exact dd_Rn.go 0 (cf' := (3009, [.ref 3000000, .ref 0, .ref 148, .ref 163, .int a4, a5, a6], [], sM Ln I2 L2 c s)) rfl h (by omega)
  · have h := h.2 hc
    exact dd_Rn.retK 1 (pc := 3008) (ls := [.ref 3000000, .ref 0, .ref 148, .ref 163, .int a4, a5, a6]) (st := [.int 0]) (M := sM Ln I2 L2 c s) (o := (none, .int 0, sM Ln I2 L2 c s)) rfl rfl h (by omega)

theorem w_L_law__3009 {Ln d c s : Nat} {I : Nat → Nat → Int32} {L : Nat → Nat → Int64} {Q : dd_O → Prop} {a4 : Int32} {a5 a6 : Value} (hd : 28 ≤ d) (h : dd_Rn d m_L_law_ (23, [.ref 3000000, .ref 0, .ref 148, .ref 163, .int (a4 + 6), a5, a6], [], sM Ln I L c s) Q) : dd_Rn d m_L_law_ (3009, [.ref 3000000, .ref 0, .ref 148, .ref 163, .int a4, a5, a6], [], sM Ln I L c s) Q := by
  obtain ⟨e, rfl⟩ : ∃ e, d = e + 16 := ⟨d - 16, by omega⟩
  exact dd_Rn.go 2 (cf' := (23, [.ref 3000000, .ref 0, .ref 148, .ref 163, .int (a4 + 6), a5, a6], [], sM Ln I L c s)) rfl h (by omega)
