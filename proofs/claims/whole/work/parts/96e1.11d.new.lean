def dd_ad1 {α : Type} (f : Nat → α) (n : Nat) (q : α) : Nat → α := fun k => if k = n then q else f k
theorem dd_okv_map {n : Nat} {ad : Nat → Nat} {q : Nat} (hn : n < 1000000) : ∀ (st : List Value), dd_okv n st = true → st.map (dd_cv (dd_ad1 ad n q)) = st.map (dd_cv ad) := by
  intro st
  induction st with
  | nil => intro _; rfl
  | cons v r ih =>
    intro h
    cases v with
    | ref k =>
      simp only [dd_okv, Bool.and_eq_true, Bool.or_eq_true] at h
      have hk : k ≠ n := by
        intro z
        subst z
        rcases h.1 with q | q
        · have := Nat.le_of_ble_eq_true q; omega
        · have := Nat.le_of_ble_eq_true q; omega
      simp only [List.map_cons, dd_cv]
      rw [ih h.2]
      simp [dd_ad1, hk]
    | _ =>
      simp only [dd_okv] at h
      simp only [List.map_cons, dd_cv]
      rw [ih h]
theorem dd_okv_lv {n : Nat} {ad : Nat → Nat} {q : Nat} (hn : n < 1000000) : ∀ (ls : List Value) (i : Nat), dd_okv n ls = true → dd_lv (dd_ad1 ad n q) i ls = dd_lv ad i ls := by
  intro ls
  induction ls with
  | nil => intro i _; rfl
  | cons v r ih =>
    intro i h
    cases v with
    | ref k =>
      simp only [dd_okv, Bool.and_eq_true, Bool.or_eq_true] at h
      have hk : k ≠ n := by
        intro z
        subst z
        rcases h.1 with q | q
        · have := Nat.le_of_ble_eq_true q; omega
        · have := Nat.le_of_ble_eq_true q; omega
      simp only [dd_lv, dd_cv]
      rw [ih (i + 1) h.2]
      simp [dd_ad1, hk]
    | _ =>
      simp only [dd_okv] at h
      simp only [dd_lv, dd_cv]
      rw [ih (i + 1) h]
theorem dd_ws_push {ad : Nat → Nat} {tA : Nat → ClassId} {n : Nat} {sh : Nat → Nat × Nat} {rf : Nat → Nat → Nat} {I : Nat → Nat → Int32} {L : Nat → Nat → Int64} {c s kd sz q : Nat} {cA : ClassId} (hr : ∀ k j, k < n → rf k j < n) : dd_ws (dd_ad1 ad n q) (dd_ad1 tA n cA) (dd_nw (n, sh, rf, I, L, c, s) kd sz) = dd_ws ad tA (n, sh, rf, I, L, c, s) ++ [(q, dd_ey ad cA (kd, sz) (fun _ => 0) (fun _ => 0) (fun _ => 0))] := by
  rw [← dd_ws_ad (ad' := dd_ad1 ad n q) (tA' := dd_ad1 tA n cA) (M := (n, sh, rf, I, L, c, s)) (fun k hk => by have hk : k < n := hk; simp [dd_ad1, Nat.ne_of_lt hk]) hr]
  unfold dd_ws
  show (List.range (n + 1)).map _ = (List.range n).map _ ++ _
  rw [List.range_succ, List.map_append]
  congr 1
  · apply List.map_congr_left
    intro k hk
    have hk : k < n := List.mem_range.mp hk
    have hk2 : k ≠ n := Nat.ne_of_lt hk
    simp [dd_nw, dd_u, hk2]
  · simp [dd_nw, dd_u, dd_ad1]
    unfold dd_ey dd_fv
    rfl
theorem dd_push {D : va_G} {A : Nat → Prop} {s : State} {Ln : Nat} {fI : Nat → Nat → Int32} {ad0 ad : Nat → Nat} {tA : Nat → ClassId} {M : dd_M} {H H1 : Heap} {locs locs1 : List Loc} {kd sz q : Nat} {cA : ClassId} (hS : dd_St D A s Ln fI ad0 ad tA M H locs) (hn : M.1 < 100000) (hkd : (100 ≤ kd ∧ kd ≤ 103) ∨ (kd < 11 ∧ sz = (dd_T kd).2.2)) (hP : va_P D vwCl (dd_ws ad tA M ++ [(q, dd_ey ad cA (kd, sz) (fun _ => 0) (fun _ => 0) (fun _ => 0))]) H1) (hD : va_D A (dd_ws ad tA M ++ [(q, dd_ey ad cA (kd, sz) (fun _ => 0) (fun _ => 0) (fun _ => 0))])) (hS1 : va_S A s.heap H1 locs1) (hKA : 100 ≤ kd → ArrOfT s cA (dd_tyk kd) ∧ va_RA s cA (dd_tyk kd)) :
    dd_St D A s Ln fI ad0 (dd_ad1 ad M.1 q) (dd_ad1 tA M.1 cA) (dd_nw M kd sz) H1 locs1 ∧ dd_Ext ad (dd_ad1 ad M.1 q) tA (dd_ad1 tA M.1 cA) M (dd_nw M kd sz) := by
  obtain ⟨n, sh, rf, I, L, cM, sM'⟩ := M
  have hn : n < 100000 := hn
  obtain ⟨w1, w2, w3, w4⟩ := hS.1
  have e := dd_ws_push (ad := ad) (tA := tA) (n := n) (sh := sh) (rf := rf) (I := I) (L := L) (c := cM) (s := sM') (kd := kd) (sz := sz) (q := q) (cA := cA) w4
  refine ⟨⟨⟨?_, ?_, ?_, ?_⟩, ?_, by rw [e]; exact hP, by rw [e]; exact hD, hS1, ?_, ?_⟩, ?_, ?_⟩
  · show n + 1 ≤ 100000; omega
  · intro k hk
    have hk : k < n + 1 := hk
    by_cases hkn : k = n
    · subst hkn
      simp only [dd_nw, dd_kd, dd_sz, if_true]
      exact hkd
    · have h9 := w2 k (show k < n by omega)
      simp only [dd_nw, dd_kd, dd_sz, hkn, if_false]
      exact h9
  · intro k hk hk2
    have hk : n + 1 ≤ k := hk
    have hkn : k ≠ n := by omega
    simp only [dd_nw, dd_kd, hkn, if_false]
    exact w3 k (show n ≤ k by omega) hk2
  · intro k j hk
    have hk : k < n + 1 := hk
    show dd_u rf n (fun _ => 0) k j < n + 1
    by_cases hkn : k = n
    · subst hkn
      simp [dd_u]
    · rw [dd_u_ne _ _ hkn]
      have h9 : rf k j < n := w4 k j (show k < n by omega)
      omega
  · intro k hk
    have hkn : k ≠ n := by omega
    obtain ⟨h1, h2⟩ := hS.2.1 k hk
    refine ⟨?_, fun j => ⟨?_, ?_⟩⟩
    · simp only [dd_nw, hkn, if_false]; exact h1
    · show dd_u rf n (fun _ => 0) k j = _
      rw [dd_u_ne _ _ hkn]; exact (h2 j).1
    · show dd_u I n (fun _ => 0) k j = _
      rw [dd_u_ne _ _ hkn]; exact (h2 j).2
  · intro k hk h100
    have hk : k < n + 1 := hk
    by_cases hkn : k = n
    · subst hkn
      simp only [dd_nw, dd_kd, if_true, dd_ad1] at h100 ⊢
      exact hKA h100
    · simp only [dd_nw, dd_kd, hkn, if_false, dd_ad1] at h100 ⊢
      exact hS.2.2.2.2.2.1 k (show k < n by omega) h100
  · intro k hk
    have hkn : k ≠ n := by omega
    simp only [dd_ad1, hkn, if_false]
    exact hS.2.2.2.2.2.2 k hk
  · intro k hk
    have hk : k < n ∨ 1000000 ≤ k := hk
    have hkn : k ≠ n := by omega
    simp only [dd_ad1, hkn, if_false]
  · intro h9
    have h9 : n + 1 = n := h9
    omega

section DSJ
variable {p : Program} {l : Launch} {e : Env} {R : Room} {s : State} {m : MethodId} {args : Array Value} {below : List Frame} {meth : Method} {c : Code} {cc : ByteArray} {own : String} {nL : Nat} {D : va_G} {A : Nat → Prop} {Ln : Nat} {fI : Nat → Nat → Int32} {ad0 : Nat → Nat} {Q : State → Prop} {c0 s0 : Nat}
variable {ls st : List Value} {M : dd_M} {cf' : dd_C} {ad : Nat → Nat} {tA : Nat → ClassId} {H : Heap} {locs : List Loc} {lsC : Array Slot} {pc len x y z : Nat} {k : Int32} {pl : List Nat}

theorem dd_i_new (n : Nat) (hC : dd_Cx p s m args c cc own nL D A Ln fI ad0) (hk : dd_chk1 own nL (pc, (.new n), len, x, y, z, k) pl = true) (hd : decode cc pc = .ok ((.new n), len)) (hs : dd_stp (pc, (.new n), len, x, y, z, k) ls st M = some cf') (hR : dd_nc cf'.2.2.2 - c0 ≤ R.cells ∧ dd_ns cf'.2.2.2 - s0 ≤ R.slots) (hc0 : c0 ≤ dd_nc M ∧ s0 ≤ dd_ns M) (hS : dd_St D A s Ln fI ad0 ad tA M H locs) (hL : dd_LV ad ls nL lsC) (kk : dd_K1 p l e R s m args below meth c D A Ln fI ad0 nL c0 s0 Q ad tA M cf') : W p l e R s m args below meth c H locs (dd_nc M - c0) (dd_ns M - s0) Q (F0 m pc lsC (st.map (dd_cv ad))) := by
  obtain ⟨hx, hb, hml, hown, hts, hK, hA, hF⟩ := hC
  simp only [dd_chk1, decide_eq_true_eq, Bool.and_eq_true] at hk
  simp only [dd_stp] at hs
  obtain ⟨⟨rfl, h11⟩, h3⟩ := hk
  have hT := dd_T_at h11
  revert h3
  generalize hTT : dd_T x = t at hT
  obtain ⟨C, T, N⟩ := t
  intro h3
  simp only [Bool.and_eq_true, decide_eq_true_eq] at h3
  obtain ⟨⟨⟨rfl, h5⟩, h6⟩, h7⟩ := h3
  split at hs
  · rename_i hh
    obtain ⟨hn, hok⟩ := hh
    simp only [Bool.and_eq_true] at hok
    cases hs
    · skip
      have e1 : dd_nc (dd_nw M x y) - c0 = dd_nc M - c0 + 1 := by
        show dd_nc M + 1 - c0 = _
        omega
      have e2 : dd_ns (dd_nw M x y) - s0 = dd_ns M - s0 + y := by
        show dd_ns M + y - s0 = _
        omega
      have hR1 : dd_nc M - c0 + 1 ≤ R.cells := by rw [← e1]; exact hR.1
      have hR2 : dd_ns M - s0 + y ≤ R.slots := by rw [← e2]; exact hR.2
      obtain ⟨hin, hty, hnmm, hz⟩ := dd_cls hT
      have hey : ∀ cA, dd_ey ad cA (x, y) (fun _ => 0) (fun _ => 0) (fun _ => 0) = .inr (x, (List.range y).map (fun j => dd_fv ad x (fun _ => 0) (fun _ => 0) (fun _ => 0) j)) := fun cA => dd_ey_obj h11
      refine va_new (fs := (List.range y).map (fun j => dd_fv ad x (fun _ => 0) (fun _ => 0) (fun _ => 0) j)) hx hb hts hin (dd_fty x) hty hown (hts _ (dd_w_mem h5)) (hts _ (dd_w_mem h6)) (hts _ (dd_w_mem h7)) hK hS.2.2.1 hS.2.2.2.1 hS.2.2.2.2.1 hA hT (fun j hj => ?_) hR1 hR2 hd (fun q H1 hP hD hS1 => ?_)
      · obtain ⟨z0, z1, z2, z3, z4⟩ := hz j hj
        have e9 : vp_V ((List.range y).map (fun j => dd_fv ad x (fun _ => 0) (fun _ => 0) (fun _ => 0) j)) j = dd_fv ad x (fun _ => 0) (fun _ => 0) (fun _ => 0) j := by
          simp [vp_V, List.getD_eq_getElem?_getD, List.getElem?_range hj]
        rw [e9]
        unfold dd_fv
        split
        · rename_i q; rw [z0 q]; rfl
        · rename_i q; rw [z1 q]; rfl
        · rename_i q
          have h9 := z2 q
          revert h9
          cases dd_fty x j <;> intro h9 <;> first | rfl | exact absurd h9 (by decide)
        · rename_i q0 q1 q2
          have h9 : dd_fz x j = 3 := by
            have q0 : dd_fz x j ≠ 0 := q0
            have q1 : dd_fz x j ≠ 1 := q1
            have q2 : dd_fz x j ≠ 2 := q2
            omega
          rw [z3 h9]; rfl
      rw [← hey 0] at hP hD
      have hS2 := dd_push (cA := 0) hS hn (Or.inr ⟨h11, by rw [hTT]⟩) hP hD hS1 (fun h => by omega)
      have K := kk _ _ H1 locs lsC hS2.1 (show dd_LV _ ls nL lsC by unfold dd_LV; rw [dd_okv_lv (by omega) ls 0 hok.1]; exact hL) hS2.2
      rw [show dd_nc (dd_nw M x y) - c0 = dd_nc M - c0 + 1 from e1, show dd_ns (dd_nw M x y) - s0 = dd_ns M - s0 + y from e2] at K
      have e3 : (Value.ref M.1 :: st).map (dd_cv (dd_ad1 ad M.1 q)) = Value.ref q :: st.map (dd_cv ad) := by
        simp only [List.map_cons, dd_cv]
        rw [dd_okv_map (by omega) st hok.2]
        simp [dd_ad1]
      have K2 : W p l e R s m args below meth c H1 locs (dd_nc M - c0 + 1) (dd_ns M - s0 + y) Q (F0 m _ lsC ((Value.ref M.1 :: st).map (dd_cv (dd_ad1 ad M.1 q)))) := K
      rw [e3] at K2
      exact K2
  · cases hs

theorem dd_i_newarray (nt : ArrayType) (hC : dd_Cx p s m args c cc own nL D A Ln fI ad0) (hk : dd_chk1 own nL (pc, (.newarray nt), len, x, y, z, k) pl = true) (hd : decode cc pc = .ok ((.newarray nt), len)) (hs : dd_stp (pc, (.newarray nt), len, x, y, z, k) ls st M = some cf') (hR : dd_nc cf'.2.2.2 - c0 ≤ R.cells ∧ dd_ns cf'.2.2.2 - s0 ≤ R.slots) (hc0 : c0 ≤ dd_nc M ∧ s0 ≤ dd_ns M) (hS : dd_St D A s Ln fI ad0 ad tA M H locs) (hL : dd_LV ad ls nL lsC) (kk : dd_K1 p l e R s m args below meth c D A Ln fI ad0 nL c0 s0 Q ad tA M cf') : W p l e R s m args below meth c H locs (dd_nc M - c0) (dd_ns M - s0) Q (F0 m pc lsC (st.map (dd_cv ad))) := by
  obtain ⟨hx, hb, hml, hown, hts, hK, hA, hF⟩ := hC
  simp only [dd_chk1, decide_eq_true_eq, Bool.and_eq_true] at hk
  simp only [dd_stp] at hs
  obtain ⟨rfl, h2⟩ := hk
  split at hs
  · rename_i n st
    split at hs
    · rename_i hh
      obtain ⟨hn0, hnl, hn, hok⟩ := hh
      simp only [Bool.and_eq_true] at hok
      cases hs
      simp only [Bool.or_eq_true, Bool.and_eq_true, decide_eq_true_eq] at h2
      rcases h2 with (⟨⟨rfl, rfl⟩, h4⟩ | ⟨⟨rfl, rfl⟩, h4⟩) | ⟨⟨rfl, rfl⟩, h4⟩
      · skip
        have e1 : dd_nc (dd_nw M 100 n.toNatClampNeg) - c0 = dd_nc M - c0 + 1 := by
          show dd_nc M + 1 - c0 = _
          omega
        have e2 : dd_ns (dd_nw M 100 n.toNatClampNeg) - s0 = dd_ns M - s0 + n.toNatClampNeg := by
          show dd_ns M + n.toNatClampNeg - s0 = _
          omega
        have hR1 : dd_nc M - c0 + 1 ≤ R.cells := by rw [← e1]; exact hR.1
        have hR2 : dd_ns M - s0 + n.toNatClampNeg ≤ R.slots := by rw [← e2]; exact hR.2
        have hcb : componentBytes (FieldType.int) ≤ 8 := by decide
        have hbytes : n.toNatClampNeg * componentBytes (FieldType.int) ≤ 536870912 := Nat.le_trans (Nat.mul_le_mul hnl hcb) (by decide)
        refine va_newa (atype := .int) hx hb (hts _ (dd_w_mem h4)) rfl hK hS.2.2.1 hS.2.2.2.1 hS.2.2.2.2.1 hA (N' := n.toNatClampNeg) (a0 := (n.toNatClampNeg, .inl (fun _ => 0))) (fun cA => rfl) (Int32.not_lt.mpr hn0) rfl hbytes hR1 hR2 hd (fun q cA H1 hK1 hP hD hS1 => ?_)
        have hey : dd_ey ad cA (100, n.toNatClampNeg) (fun _ => 0) (fun _ => 0) (fun _ => 0) = .inl (cA, n.toNatClampNeg, .inl (fun _ => 0)) := rfl
        rw [← hey] at hP hD
        have hS2 := dd_push (cA := cA) hS hn (Or.inl ⟨by decide, by decide⟩) hP hD hS1 (fun _ => hK1.2 0 _ rfl)
        have K := kk _ _ H1 locs lsC hS2.1 (show dd_LV _ ls nL lsC by unfold dd_LV; rw [dd_okv_lv (by omega) ls 0 hok.1]; exact hL) hS2.2
        rw [show dd_nc (dd_nw M 100 n.toNatClampNeg) - c0 = dd_nc M - c0 + 1 from e1, show dd_ns (dd_nw M 100 n.toNatClampNeg) - s0 = dd_ns M - s0 + n.toNatClampNeg from e2] at K
        have e3 : (Value.ref M.1 :: st).map (dd_cv (dd_ad1 ad M.1 q)) = Value.ref q :: st.map (dd_cv ad) := by
          simp only [List.map_cons, dd_cv]
          rw [dd_okv_map (by omega) st hok.2]
          simp [dd_ad1]
        have K2 : W p l e R s m args below meth c H1 locs (dd_nc M - c0 + 1) (dd_ns M - s0 + n.toNatClampNeg) Q (F0 m _ lsC ((Value.ref M.1 :: st).map (dd_cv (dd_ad1 ad M.1 q)))) := K
        rw [e3] at K2
        exact K2
      · skip
        have e1 : dd_nc (dd_nw M 101 n.toNatClampNeg) - c0 = dd_nc M - c0 + 1 := by
          show dd_nc M + 1 - c0 = _
          omega
        have e2 : dd_ns (dd_nw M 101 n.toNatClampNeg) - s0 = dd_ns M - s0 + n.toNatClampNeg := by
          show dd_ns M + n.toNatClampNeg - s0 = _
          omega
        have hR1 : dd_nc M - c0 + 1 ≤ R.cells := by rw [← e1]; exact hR.1
        have hR2 : dd_ns M - s0 + n.toNatClampNeg ≤ R.slots := by rw [← e2]; exact hR.2
        have hcb : componentBytes (FieldType.byte) ≤ 8 := by decide
        have hbytes : n.toNatClampNeg * componentBytes (FieldType.byte) ≤ 536870912 := Nat.le_trans (Nat.mul_le_mul hnl hcb) (by decide)
        refine va_newa (atype := .byte) hx hb (hts _ (dd_w_mem h4)) rfl hK hS.2.2.1 hS.2.2.2.1 hS.2.2.2.2.1 hA (N' := n.toNatClampNeg) (a0 := (n.toNatClampNeg, .inl (fun _ => 0))) (fun cA => rfl) (Int32.not_lt.mpr hn0) rfl hbytes hR1 hR2 hd (fun q cA H1 hK1 hP hD hS1 => ?_)
        have hey : dd_ey ad cA (101, n.toNatClampNeg) (fun _ => 0) (fun _ => 0) (fun _ => 0) = .inl (cA, n.toNatClampNeg, .inl (fun _ => 0)) := rfl
        rw [← hey] at hP hD
        have hS2 := dd_push (cA := cA) hS hn (Or.inl ⟨by decide, by decide⟩) hP hD hS1 (fun _ => hK1.2 0 _ rfl)
        have K := kk _ _ H1 locs lsC hS2.1 (show dd_LV _ ls nL lsC by unfold dd_LV; rw [dd_okv_lv (by omega) ls 0 hok.1]; exact hL) hS2.2
        rw [show dd_nc (dd_nw M 101 n.toNatClampNeg) - c0 = dd_nc M - c0 + 1 from e1, show dd_ns (dd_nw M 101 n.toNatClampNeg) - s0 = dd_ns M - s0 + n.toNatClampNeg from e2] at K
        have e3 : (Value.ref M.1 :: st).map (dd_cv (dd_ad1 ad M.1 q)) = Value.ref q :: st.map (dd_cv ad) := by
          simp only [List.map_cons, dd_cv]
          rw [dd_okv_map (by omega) st hok.2]
          simp [dd_ad1]
        have K2 : W p l e R s m args below meth c H1 locs (dd_nc M - c0 + 1) (dd_ns M - s0 + n.toNatClampNeg) Q (F0 m _ lsC ((Value.ref M.1 :: st).map (dd_cv (dd_ad1 ad M.1 q)))) := K
        rw [e3] at K2
        exact K2
      · skip
        have e1 : dd_nc (dd_nw M 102 n.toNatClampNeg) - c0 = dd_nc M - c0 + 1 := by
          show dd_nc M + 1 - c0 = _
          omega
        have e2 : dd_ns (dd_nw M 102 n.toNatClampNeg) - s0 = dd_ns M - s0 + n.toNatClampNeg := by
          show dd_ns M + n.toNatClampNeg - s0 = _
          omega
        have hR1 : dd_nc M - c0 + 1 ≤ R.cells := by rw [← e1]; exact hR.1
        have hR2 : dd_ns M - s0 + n.toNatClampNeg ≤ R.slots := by rw [← e2]; exact hR.2
        have hcb : componentBytes (FieldType.long) ≤ 8 := by decide
        have hbytes : n.toNatClampNeg * componentBytes (FieldType.long) ≤ 536870912 := Nat.le_trans (Nat.mul_le_mul hnl hcb) (by decide)
        refine va_newa (atype := .long) hx hb (hts _ (dd_w_mem h4)) rfl hK hS.2.2.1 hS.2.2.2.1 hS.2.2.2.2.1 hA (N' := n.toNatClampNeg) (a0 := (n.toNatClampNeg, .inr (.inl (fun _ => 0)))) (fun cA => rfl) (Int32.not_lt.mpr hn0) rfl hbytes hR1 hR2 hd (fun q cA H1 hK1 hP hD hS1 => ?_)
        have hey : dd_ey ad cA (102, n.toNatClampNeg) (fun _ => 0) (fun _ => 0) (fun _ => 0) = .inl (cA, n.toNatClampNeg, .inr (.inl (fun _ => 0))) := rfl
        rw [← hey] at hP hD
        have hS2 := dd_push (cA := cA) hS hn (Or.inl ⟨by decide, by decide⟩) hP hD hS1 (fun _ => hK1.2 0 _ rfl)
        have K := kk _ _ H1 locs lsC hS2.1 (show dd_LV _ ls nL lsC by unfold dd_LV; rw [dd_okv_lv (by omega) ls 0 hok.1]; exact hL) hS2.2
        rw [show dd_nc (dd_nw M 102 n.toNatClampNeg) - c0 = dd_nc M - c0 + 1 from e1, show dd_ns (dd_nw M 102 n.toNatClampNeg) - s0 = dd_ns M - s0 + n.toNatClampNeg from e2] at K
        have e3 : (Value.ref M.1 :: st).map (dd_cv (dd_ad1 ad M.1 q)) = Value.ref q :: st.map (dd_cv ad) := by
          simp only [List.map_cons, dd_cv]
          rw [dd_okv_map (by omega) st hok.2]
          simp [dd_ad1]
        have K2 : W p l e R s m args below meth c H1 locs (dd_nc M - c0 + 1) (dd_ns M - s0 + n.toNatClampNeg) Q (F0 m _ lsC ((Value.ref M.1 :: st).map (dd_cv (dd_ad1 ad M.1 q)))) := K
        rw [e3] at K2
        exact K2
    · cases hs
  · cases hs

theorem dd_i_anewarray (nn : Nat) (hC : dd_Cx p s m args c cc own nL D A Ln fI ad0) (hk : dd_chk1 own nL (pc, (.anewarray nn), len, x, y, z, k) pl = true) (hd : decode cc pc = .ok ((.anewarray nn), len)) (hs : dd_stp (pc, (.anewarray nn), len, x, y, z, k) ls st M = some cf') (hR : dd_nc cf'.2.2.2 - c0 ≤ R.cells ∧ dd_ns cf'.2.2.2 - s0 ≤ R.slots) (hc0 : c0 ≤ dd_nc M ∧ s0 ≤ dd_ns M) (hS : dd_St D A s Ln fI ad0 ad tA M H locs) (hL : dd_LV ad ls nL lsC) (kk : dd_K1 p l e R s m args below meth c D A Ln fI ad0 nL c0 s0 Q ad tA M cf') : W p l e R s m args below meth c H locs (dd_nc M - c0) (dd_ns M - s0) Q (F0 m pc lsC (st.map (dd_cv ad))) := by
  obtain ⟨hx, hb, hml, hown, hts, hK, hA, hF⟩ := hC
  simp only [dd_chk1, decide_eq_true_eq, Bool.and_eq_true] at hk
  simp only [dd_stp] at hs
  obtain ⟨rfl, h2⟩ := hk
  split at hs
  · rename_i n st
    split at hs
    · rename_i hh
      obtain ⟨hn0, hnl, hn, hok⟩ := hh
      simp only [Bool.and_eq_true] at hok
      cases hs
      · skip
        have e1 : dd_nc (dd_nw M 103 n.toNatClampNeg) - c0 = dd_nc M - c0 + 1 := by
          show dd_nc M + 1 - c0 = _
          omega
        have e2 : dd_ns (dd_nw M 103 n.toNatClampNeg) - s0 = dd_ns M - s0 + n.toNatClampNeg := by
          show dd_ns M + n.toNatClampNeg - s0 = _
          omega
        have hR1 : dd_nc M - c0 + 1 ≤ R.cells := by rw [← e1]; exact hR.1
        have hR2 : dd_ns M - s0 + n.toNatClampNeg ≤ R.slots := by rw [← e2]; exact hR.2
        refine va_newq hx hb hown (hts _ (dd_w_mem h2)) hF.2.2.2.2.2.2.2.2.1 hK hS.2.2.1 hS.2.2.2.1 hS.2.2.2.2.1 hA (N' := n.toNatClampNeg) (Int32.not_lt.mpr hn0) rfl (by omega) hR1 hR2 hd (fun q cA H1 hK1 hP hD hS1 => ?_)
        have hey : dd_ey ad cA (103, n.toNatClampNeg) (fun _ => 0) (fun _ => 0) (fun _ => 0) = .inl (cA, n.toNatClampNeg, .inr (.inr (.inr (.inr (fun _ => none))))) := rfl
        rw [← hey] at hP hD
        have hS2 := dd_push (cA := cA) hS hn (Or.inl ⟨by decide, by decide⟩) hP hD hS1 (fun _ => hK1.2 0 _ rfl)
        have K := kk _ _ H1 locs lsC hS2.1 (show dd_LV _ ls nL lsC by unfold dd_LV; rw [dd_okv_lv (by omega) ls 0 hok.1]; exact hL) hS2.2
        rw [show dd_nc (dd_nw M 103 n.toNatClampNeg) - c0 = dd_nc M - c0 + 1 from e1, show dd_ns (dd_nw M 103 n.toNatClampNeg) - s0 = dd_ns M - s0 + n.toNatClampNeg from e2] at K
        have e3 : (Value.ref M.1 :: st).map (dd_cv (dd_ad1 ad M.1 q)) = Value.ref q :: st.map (dd_cv ad) := by
          simp only [List.map_cons, dd_cv]
          rw [dd_okv_map (by omega) st hok.2]
          simp [dd_ad1]
        have K2 : W p l e R s m args below meth c H1 locs (dd_nc M - c0 + 1) (dd_ns M - s0 + n.toNatClampNeg) Q (F0 m _ lsC ((Value.ref M.1 :: st).map (dd_cv (dd_ad1 ad M.1 q)))) := K
        rw [e3] at K2
        exact K2
    · cases hs
  · cases hs

end DSJ
