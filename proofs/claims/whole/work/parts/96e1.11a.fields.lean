/-- of each class: its words, its fields' types, their names -/
def dd_okc (x : Nat) (q : vw_C) : Prop := (∀ w ∈ u_ws q.1 q.2.1 q.2.2, w ∈ dd_gw) ∧ (∀ k, k < q.2.2 → parseFieldDescriptor (q.2.1 k).2.2.1 = some (dd_fty x k)) ∧ (∀ a, a < q.2.2 → ∀ b, b < q.2.2 → a ≠ b → (q.2.1 a).2.1 ≠ (q.2.1 b).2.1) ∧ ∀ k, k < q.2.2 → (dd_fz x k = 0 → dd_fty x k = .int) ∧ (dd_fz x k = 1 → dd_fty x k = .long) ∧ (dd_fz x k = 2 → refKind (dd_fty x k) = true) ∧ (dd_fz x k = 3 → dd_fty x k = .boolean) ∧ dd_fz x k < 4
theorem dd_okc0 : dd_okc 0 (RX0, TX0, 3) := ⟨by decide +kernel, by decide +kernel, by decide +kernel, by decide +kernel⟩
theorem dd_okc1 : dd_okc 1 (RX1, TX1, 4) := ⟨by decide +kernel, by decide +kernel, by decide +kernel, by decide +kernel⟩
theorem dd_okc2 : dd_okc 2 (RX2, TX2, 5) := ⟨by decide +kernel, by decide +kernel, by decide +kernel, by decide +kernel⟩
theorem dd_okc3 : dd_okc 3 (RX3, TX3, 11) := ⟨by decide +kernel, by decide +kernel, by decide +kernel, by decide +kernel⟩
theorem dd_okc4 : dd_okc 4 (RX5, TX5, 5) := ⟨by decide +kernel, by decide +kernel, by decide +kernel, by decide +kernel⟩
theorem dd_okc5 : dd_okc 5 (RX6, TX6, 6) := ⟨by decide +kernel, by decide +kernel, by decide +kernel, by decide +kernel⟩
theorem dd_okc6 : dd_okc 6 (RX7, TX7, 2) := ⟨by decide +kernel, by decide +kernel, by decide +kernel, by decide +kernel⟩
theorem dd_okc7 : dd_okc 7 (RX8, TX8, 19) := ⟨by decide +kernel, by decide +kernel, by decide +kernel, by decide +kernel⟩
theorem dd_okc8 : dd_okc 8 (RX9, TX9, 7) := ⟨by decide +kernel, by decide +kernel, by decide +kernel, by decide +kernel⟩
theorem dd_okc9 : dd_okc 9 (RX10, TX10, 18) := ⟨by decide +kernel, by decide +kernel, by decide +kernel, by decide +kernel⟩
theorem dd_okc10 : dd_okc 10 (RX11, TX11, 26) := ⟨by decide +kernel, by decide +kernel, by decide +kernel, by decide +kernel⟩
theorem dd_cls {x : Nat} {q : vw_C} (h : vwCl[x]? = some q) : dd_okc x q := by
  match x, h with
  | 0, h => cases h; exact dd_okc0
  | 1, h => cases h; exact dd_okc1
  | 2, h => cases h; exact dd_okc2
  | 3, h => cases h; exact dd_okc3
  | 4, h => cases h; exact dd_okc4
  | 5, h => cases h; exact dd_okc5
  | 6, h => cases h; exact dd_okc6
  | 7, h => cases h; exact dd_okc7
  | 8, h => cases h; exact dd_okc8
  | 9, h => cases h; exact dd_okc9
  | 10, h => cases h; exact dd_okc10
  | k + 11, h => simp [vwCl] at h
theorem dd_T_at {x : Nat} (h : x < 11) : vwCl[x]? = some (dd_T x) := by
  unfold dd_T
  rw [List.getD_eq_getElem?_getD]
  have h2 : x < vwCl.length := h
  rw [List.getElem?_eq_getElem h2]
  rfl
theorem dd_cf_ok {own : String} {idx x y z : Nat} {p : List Nat} {args : Array Value} {s : State} (h : dd_cf own idx x y z p = true) (hts : ∀ w ∈ dd_gw, w.before args s = true) : ∃ (C : String) (T : u_T) (N : Nat) (ref : String), vwCl[x]? = some (C, T, N) ∧ (dd_T x) = (C, T, N) ∧ y < N ∧ dd_fz x y = z ∧ (Cond.fieldLink own idx ref (T y).2.1 (T y).2.2.1).before args s = true ∧ ∀ q, s.fieldFound? (T y).1 (T y).2.1 (T y).2.2.1 = some q → s.fieldFound? ref (T y).2.1 (T y).2.2.1 = some q := by
  unfold dd_cf at h
  have h11 : x < 11 := by
    revert h
    generalize dd_T x = t
    obtain ⟨C, T, N⟩ := t
    intro h
    simp only [Bool.and_eq_true, decide_eq_true_eq] at h
    exact h.1.1.1
  have hT := dd_T_at h11
  revert h hT
  generalize dd_T x = t
  obtain ⟨C, T, N⟩ := t
  intro h hT
  simp only [Bool.and_eq_true, Bool.or_eq_true, decide_eq_true_eq] at h
  obtain ⟨⟨⟨-, h2⟩, h3⟩, h4⟩ := h
  rcases h4 with h4 | ⟨h4, h5⟩
  · exact ⟨C, T, N, (T y).1, hT, rfl, h2, h3, hts _ (dd_w_mem h4), fun q hq => hq⟩
  · exact ⟨C, T, N, C, hT, rfl, h2, h3, hts _ (dd_w_mem h4), fun q hq => u_same (hts _ (dd_w_mem h5)) q hq⟩
theorem dd_ey_obj {ad : Nat → Nat} {cA : ClassId} {kz : Nat × Nat} {rf : Nat → Nat} {I : Nat → Int32} {L : Nat → Int64} (h : kz.1 < 11) : dd_ey ad cA kz rf I L = .inr (kz.1, (List.range kz.2).map (fun j => dd_fv ad kz.1 rf I L j)) := by
  unfold dd_ey
  rw [if_neg (by omega), if_neg (by omega), if_neg (by omega)]
/-- the object in cell a -/
theorem dd_obj {D : va_G} {A : Nat → Prop} {s : State} {Ln : Nat} {fI : Nat → Nat → Int32} {ad0 ad : Nat → Nat} {tA : Nat → ClassId} {M : dd_M} {H : Heap} {locs : List Loc} {a x : Nat} {C : String} {T : u_T} {N : Nat} (hS : dd_St D A s Ln fI ad0 ad tA M H locs) (hkd : dd_kd M a = x) (hx : x < 11) (hT : dd_T x = (C, T, N)) : a < M.1 ∧ (dd_ws ad tA M)[a]? = some (ad a, .inr (x, (List.range N).map (fun j => dd_fv ad x (M.2.2.1 a) (M.2.2.2.1 a) (M.2.2.2.2.1 a) j))) := by
  have hlt : a < M.1 := dd_in_world hS.1 hS.2.1 (by omega)
  refine ⟨hlt, ?_⟩
  have h1 : (M.2.1 a).1 = x := hkd
  rcases hS.1.2.1 a hlt with h | h
  · have : dd_kd M a = x := hkd
    omega
  · have h2 : (M.2.1 a).2 = N := by
      have := h.2
      rw [hkd, hT] at this
      exact this
    rw [dd_ws_at hlt, dd_ey_obj (by omega), h1, h2]
theorem dd_ck_kd {x kd : Nat} (h : dd_ck x kd = true) : (x = 20 ∧ (kd = 3 ∨ kd = 8)) ∨ (x ≠ 20 ∧ kd = x) := by
  unfold dd_ck at h
  split at h
  · rename_i h1
    left
    refine ⟨by simpa using h1, ?_⟩
    simpa using h
  · rename_i h1
    right
    exact ⟨fun z => by rw [z] at h1; exact absurd h1 (by decide), by simpa using h⟩
theorem dd_ldcwS {p : Program} {l : Launch} {e : Env} {R : Room} {s : State} {m : MethodId} {args : Array Value} {below : List Frame} {meth : Method} {c : Code} {H : Heap} {locs : List Loc} {cells slots : Nat} {Q : State → Prop} {cc : ByteArray} {pc : Nat} {ls : Array Slot} {rest : List Value} (hexec : p.tables.exec = Jvm.exec) (hb : c.code = cc) {own tx : String} {index q : Nat} (hown : s.vm.findClass own = some m.cls) (hZ : vk_R own index tx q s) (hdg : decode cc pc = .ok (.ldc_w index, 3))
    (k : W p l e R s m args below meth c H locs cells slots Q (F0 m (pc + 3) ls (.ref q :: rest))) : W p l e R s m args below meth c H locs cells slots Q (F0 m pc ls rest) := by
  intro T hT X
  obtain ⟨t, a1, b1⟩ := k T hT X
  refine ⟨t, ?_, b1⟩
  subst hb
  obtain ⟨k, cf, i, a', hk, hcf, hcp, -, hr, hev'⟩ := Cond.stringRef_spec hown hZ.1
  cases hZ.2.symm.trans hev'
  obtain ⟨k', hk', he⟩ := X.warmed.alike.2.2 _ _ hk
  have hr' : k'.resolved[index]? = some (some (.string q)) := by
    rcases X.warmed.entry hk hk' index with h | ⟨h, -⟩
    · rw [h]; exact hr
    · rw [hr] at h; cases h
  jvm_step X.here [hexec, hdg, ldc_w.wp_string (e := e) (s := T) (f := F0 m pc ls rest) X.here.top hk' (by rw [he]; exact hcf) hcp hr']
  exact a1
