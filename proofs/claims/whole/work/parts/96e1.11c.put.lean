theorem dd_refn {ty : FieldType} (h : refKind ty = true) (q : Nat) : narrow ty (.ref q) = .ref q ∧ fits ty (.ref q) = true := by
  cases ty <;> first | exact ⟨rfl, rfl⟩ | exact absurd h (by decide)
theorem dd_obj_set {D : va_G} {A : Nat → Prop} {s : State} {Ln : Nat} {fI : Nat → Nat → Int32} {ad0 ad : Nat → Nat} {tA : Nat → ClassId} {H : Heap} {locs : List Loc} {n : Nat} {sh : Nat → Nat × Nat} {rf : Nat → Nat → Nat} {I : Nat → Nat → Int32} {L : Nat → Nat → Int64} {cM sM' a x y : Nat} {C : String} {T : u_T} {N : Nat} (hS : dd_St D A s Ln fI ad0 ad tA (n, sh, rf, I, L, cM, sM') H locs) (hkd : (sh a).1 = x) (hx : x < 11) (hT : dd_T x = (C, T, N)) (hy : y < N) {r1 : Nat → Nat} {I1 : Nat → Int32} {L1 : Nat → Int64} {v : Value} (hv : dd_fv ad x r1 I1 L1 y = v) (ho : ∀ j, j ≠ y → r1 j = rf a j ∧ I1 j = I a j ∧ L1 j = L a j) :
    (dd_ws ad tA (n, sh, rf, I, L, cM, sM')).set a (ad a, .inr (x, ((List.range N).map (fun j => dd_fv ad x (rf a) (I a) (L a) j)).set y v)) = dd_ws ad tA (n, sh, dd_u rf a r1, dd_u I a I1, dd_u L a L1, cM, sM') := by
  have hlt : a < n := dd_in_world hS.1 hS.2.1 (k := a) (by left; show (sh a).1 < 50; omega)
  have h2 : (sh a).2 = N := by
    rcases hS.1.2.1 a hlt with h | h
    · have h9 : dd_kd (n, sh, rf, I, L, cM, sM') a = (sh a).1 := rfl
      omega
    · have h9 := h.2
      have h8 : dd_kd (n, sh, rf, I, L, cM, sM') a = x := hkd
      rw [h8, hT] at h9
      exact h9
  apply dd_ws_set
  rw [dd_ey_obj (by omega), hkd, h2, dd_fs_set hy hv ho]
theorem dd_int_arr {D : va_G} {A : Nat → Prop} {s : State} {Ln : Nat} {fI : Nat → Nat → Int32} {ad0 ad : Nat → Nat} {tA : Nat → ClassId} {M : dd_M} {H : Heap} {locs : List Loc} {a : Nat} (hS : dd_St D A s Ln fI ad0 ad tA M H locs) (hkd : dd_kd M a = 100 ∨ dd_kd M a = 101) : a < M.1 ∧ (dd_ws ad tA M)[a]? = some (ad a, .inl (tA a, dd_sz M a, .inl (M.2.2.2.1 a))) ∧ ArrOfT s (tA a) (dd_tyk (dd_kd M a)) ∧ va_RA s (tA a) (dd_tyk (dd_kd M a)) := by
  have hlt : a < M.1 := dd_in_world hS.1 hS.2.1 (by omega)
  refine ⟨hlt, ?_, hS.2.2.2.2.2.1 a hlt (by omega)⟩
  rw [dd_ws_at hlt]
  unfold dd_ey
  rw [if_pos hkd]
theorem dd_long_arr {D : va_G} {A : Nat → Prop} {s : State} {Ln : Nat} {fI : Nat → Nat → Int32} {ad0 ad : Nat → Nat} {tA : Nat → ClassId} {M : dd_M} {H : Heap} {locs : List Loc} {a : Nat} (hS : dd_St D A s Ln fI ad0 ad tA M H locs) (hkd : dd_kd M a = 102) : a < M.1 ∧ (dd_ws ad tA M)[a]? = some (ad a, .inl (tA a, dd_sz M a, .inr (.inl (M.2.2.2.2.1 a)))) ∧ ArrOfT s (tA a) .long ∧ va_RA s (tA a) .long := by
  have hlt : a < M.1 := dd_in_world hS.1 hS.2.1 (by omega)
  have h3 := hS.2.2.2.2.2.1 a hlt (by omega)
  rw [hkd] at h3
  refine ⟨hlt, ?_, h3⟩
  have h1 : (M.2.1 a).1 = 102 := hkd
  rw [dd_ws_at hlt]
  unfold dd_ey
  rw [if_neg (by omega), if_pos h1]
theorem dd_ref_arr {D : va_G} {A : Nat → Prop} {s : State} {Ln : Nat} {fI : Nat → Nat → Int32} {ad0 ad : Nat → Nat} {tA : Nat → ClassId} {M : dd_M} {H : Heap} {locs : List Loc} {a : Nat} (hS : dd_St D A s Ln fI ad0 ad tA M H locs) (hkd : dd_kd M a = 103) : a < M.1 ∧ (dd_ws ad tA M)[a]? = some (ad a, .inl (tA a, dd_sz M a, .inr (.inr (.inr (.inr (fun j => dd_ro ad (M.2.2.1 a j))))))) ∧ ArrOfT s (tA a) (.object "LostRound$Wood") ∧ va_RA s (tA a) (.object "LostRound$Wood") := by
  have hlt : a < M.1 := dd_in_world hS.1 hS.2.1 (by omega)
  have h3 := hS.2.2.2.2.2.1 a hlt (by omega)
  rw [hkd] at h3
  refine ⟨hlt, ?_, h3⟩
  have h1 : (M.2.1 a).1 = 103 := hkd
  rw [dd_ws_at hlt]
  unfold dd_ey
  rw [if_neg (by omega), if_neg (by omega), if_pos h1]
theorem dd_vin {j : Int32} {n : Nat} (h : 0 ≤ j ∧ j.toNatClampNeg < n) : vp_in j n := by
  intro q
  rcases q with q | q
  · exact absurd h.1 (Int32.not_le.mpr q)
  · omega
/-- the bytes of a text, the script -/
theorem dd_for51 {D : va_G} {A : Nat → Prop} {s : State} {Ln : Nat} {fI : Nat → Nat → Int32} {ad0 ad : Nat → Nat} {tA : Nat → ClassId} {M : dd_M} {H : Heap} {locs : List Loc} {a : Nat} (hS : dd_St D A s Ln fI ad0 ad tA M H locs) (h : dd_kd M a = 51) : ∃ (i : Nat) (t : String × Nat × String), a = 2000000 + i ∧ dd_strs[i]? = some t ∧ dd_sz M (2000000 + i) = dd_slen i ∧ ∀ j, dd_i M (2000000 + i) j = fI (2000000 + i) j := by
  have hge : 1000000 ≤ a := by
    rcases Nat.lt_or_ge a 1000000 with q | q
    · rcases Nat.lt_or_ge a M.1 with q2 | q2
      · have := hS.1.2.1 a q2; omega
      · have := hS.1.2.2.1 a q2 q; omega
    · exact q
  obtain ⟨h1, h2⟩ := hS.2.1 a hge
  have h3 : (dd_sh0 Ln a).1 = 51 := by rw [← h1]; exact h
  have hlt : 2000000 ≤ a ∧ a < 2000071 := by
    unfold dd_sh0 at h3
    split at h3
    · rename_i q; simp [Nat.blt] at q; omega
    · split at h3
      · rename_i q; simp [Nat.blt] at q; omega
      · split at h3
        · split at h3 <;> exact absurd h3 (by simp)
        · rename_i q0
          have q0 : 2000000 ≤ a := by
            rcases Nat.lt_or_ge a 2000000 with z | z
            · exact absurd (dd_bltT z) (by rw [q0]; decide)
            · exact z
          split at h3
          · split at h3
            · rename_i q; simp [Nat.blt] at q; omega
            · exact absurd h3 (by simp)
          · split at h3 <;> exact absurd h3 (by simp)
  obtain ⟨i, rfl⟩ : ∃ i, a = 2000000 + i := ⟨a - 2000000, by omega⟩
  have hi : i < dd_strs.length := by show i < 71; omega
  refine ⟨i, dd_strs[i], rfl, List.getElem?_eq_getElem hi, ?_, fun j => (h2 j).2⟩
  show (M.2.1 (2000000 + i)).2 = _
  rw [h1]
  unfold dd_sh0
  rw [dd_bltF (by omega : 164 ≤ 2000000 + i), dd_bltF (by omega : 1000000 ≤ 2000000 + i), dd_bltF (by omega : 2000000 ≤ 2000000 + i), dd_bltT (by omega : 2000000 + i < 3000000), dd_bltT (by omega : 2000000 + i < 2000071)]
  simp only [Nat.add_sub_cancel_left]
theorem dd_for52 {D : va_G} {A : Nat → Prop} {s : State} {Ln : Nat} {fI : Nat → Nat → Int32} {ad0 ad : Nat → Nat} {tA : Nat → ClassId} {M : dd_M} {H : Heap} {locs : List Loc} {a : Nat} (hS : dd_St D A s Ln fI ad0 ad tA M H locs) (h : dd_kd M a = 52) : a = 3000000 ∧ dd_sz M 3000000 = Ln ∧ ∀ j, dd_i M 3000000 j = fI 3000000 j := by
  have hge : 1000000 ≤ a := by
    rcases Nat.lt_or_ge a 1000000 with q | q
    · rcases Nat.lt_or_ge a M.1 with q2 | q2
      · have := hS.1.2.1 a q2; omega
      · have := hS.1.2.2.1 a q2 q; omega
    · exact q
  obtain ⟨h1, h2⟩ := hS.2.1 a hge
  have h3 : (dd_sh0 Ln a).1 = 52 := by rw [← h1]; exact h
  have hlt : a = 3000000 := by
    unfold dd_sh0 at h3
    split at h3
    · rename_i q; simp [Nat.blt] at q; omega
    · split at h3
      · rename_i q; simp [Nat.blt] at q; omega
      · split at h3
        · split at h3 <;> exact absurd h3 (by simp)
        · split at h3
          · split at h3 <;> exact absurd h3 (by simp)
          · split at h3
            · rename_i q; simpa using q
            · exact absurd h3 (by simp)
  subst hlt
  refine ⟨rfl, ?_, fun j => (h2 j).2⟩
  show (M.2.1 3000000).2 = _
  rw [h1]
  rfl

section DSJ
variable {p : Program} {l : Launch} {e : Env} {R : Room} {s : State} {m : MethodId} {args : Array Value} {below : List Frame} {meth : Method} {c : Code} {cc : ByteArray} {own : String} {nL : Nat} {D : va_G} {A : Nat → Prop} {Ln : Nat} {fI : Nat → Nat → Int32} {ad0 : Nat → Nat} {Q : State → Prop} {c0 s0 : Nat}
variable {ls st : List Value} {M : dd_M} {cf' : dd_C} {ad : Nat → Nat} {tA : Nat → ClassId} {H : Heap} {locs : List Loc} {lsC : Array Slot} {pc len x y z : Nat} {k : Int32} {pl : List Nat}

theorem dd_i_putfield (nn : Nat) {nm : String} (hC : dd_Cx p s m args c cc own nL D A Ln fI ad0) (hk : dd_chk1 own nL (pc, (.putfield nn), len, x, y, z, k) pl = true) (hkP : dd_chkP own nm (.putfield nn) x y z = true) (hnme : meth.name = nm) (hd : decode cc pc = .ok ((.putfield nn), len)) (hs : dd_stp (pc, (.putfield nn), len, x, y, z, k) ls st M = some cf') (hS : dd_St D A s Ln fI ad0 ad tA M H locs) (hL : dd_LV ad ls nL lsC) (kk : dd_K1 p l e R s m args below meth c D A Ln fI ad0 nL c0 s0 Q ad tA M cf') : W p l e R s m args below meth c H locs (dd_nc M - c0) (dd_ns M - s0) Q (F0 m pc lsC (st.map (dd_cv ad))) := by
  obtain ⟨hx, hb, hml, hown, hts, hK, hA, hF⟩ := hC
  simp only [dd_chk1, decide_eq_true_eq, Bool.and_eq_true] at hk
  simp only [dd_stp] at hs
  obtain ⟨rfl, h2⟩ := hk
  obtain ⟨n, sh, rf, I, L, cM, sM'⟩ := M
  -- what each of the four kinds needs
  have base : ∀ (a : Nat), dd_ck x (sh a).1 = true → ∃ (C : String) (T : u_T) (N : Nat) (ref : String), vwCl[(sh a).1]? = some (C, T, N) ∧ dd_T (sh a).1 = (C, T, N) ∧ y < N ∧ dd_fz (sh a).1 y = z ∧ (Cond.fieldLink own nn ref (T y).2.1 (T y).2.2.1).before args s = true ∧ (∀ q, s.fieldFound? (T y).1 (T y).2.1 (T y).2.2.1 = some q → s.fieldFound? ref (T y).2.1 (T y).2.2.1 = some q) ∧ (sh a).1 < 11 ∧ ((z = 2 → nm = "<init>" ∧ (T y).1 = own ∧ (T y).2.2.2 = true) ∧ (z ≠ 2 → (T y).2.2.2 = false)) := by
    intro a hck
    have hcf : dd_cf own nn (sh a).1 y z pl = true := by
      rcases dd_ck_kd hck with ⟨rfl, q⟩ | ⟨q1, q2⟩
      · simp only [Bool.and_eq_true] at h2
        rcases q with q | q
        · rw [q]; exact h2.1
        · rw [q]; exact h2.2
      · rw [q2]
        revert h2
        split
        · intro _; exact absurd rfl q1
        · exact id
    obtain ⟨C, T, N, ref, c1, c2, c3, c4, c5, c6⟩ := dd_cf_ok (args := args) (s := s) hcf hts
    have h11 : (sh a).1 < 11 := by
      rcases Nat.lt_or_ge (sh a).1 11 with q | q
      · exact q
      · have hl : vwCl.length ≤ (sh a).1 := q
        rw [List.getElem?_eq_none hl] at c1
        cases c1
    refine ⟨C, T, N, ref, c1, c2, c3, c4, c5, c6, h11, ?_⟩
    have hT : T = (dd_T (sh a).1).2.1 := by rw [c2]
    unfold dd_chkP at hkP
    simp only at hkP
    constructor
    · rintro rfl
      rw [if_pos rfl] at hkP
      simp only [Bool.and_eq_true, decide_eq_true_eq] at hkP
      refine ⟨hkP.1, ?_⟩
      have h9 := hkP.2
      rcases dd_ck_kd hck with ⟨rfl, q⟩ | ⟨q1, q2⟩
      · rw [if_pos rfl] at h9
        simp only [Bool.and_eq_true, decide_eq_true_eq] at h9
        rcases q with q | q
        · rw [hT, q]; exact ⟨h9.1.1.1, h9.1.1.2⟩
        · rw [hT, q]; exact ⟨h9.1.2, h9.2⟩
      · rw [if_neg q1] at h9
        simp only [Bool.and_eq_true, decide_eq_true_eq] at h9
        rw [hT, q2]; exact h9
    · intro hz
      rw [if_neg hz] at hkP
      rcases dd_ck_kd hck with ⟨rfl, q⟩ | ⟨q1, q2⟩
      · rw [if_pos rfl] at hkP
        simp only [Bool.and_eq_true, decide_eq_true_eq] at hkP
        rcases q with q | q
        · rw [hT, q]; exact hkP.1
        · rw [hT, q]; exact hkP.2
      · rw [if_neg q1] at hkP
        simp only [decide_eq_true_eq] at hkP
        rw [hT, q2]; exact hkP
  split at hs
  · split at hs
    · rename_i v a st
      split at hs
      · rename_i hck
        obtain ⟨C, T, N, ref, c1, c2, c3, c4, c5, c6, h11, c8⟩ := base a hck
        obtain ⟨hin, hty, hnmm, hz⟩ := dd_cls c1
        obtain ⟨hlt, hw⟩ := dd_obj hS (show dd_kd _ a = (sh a).1 from rfl) h11 c2
        have hlt : a < n := hlt
        have hset := dd_obj_set hS (y := y) rfl h11 c2 c3 (r1 := (rf a)) (I1 := (upd (I a) y v)) (L1 := (L a)) (v := (dd_cv ad (.int v))) (by unfold dd_fv; rw [c4]; simp [upd, dd_cv]) (fun j hj => ⟨rfl, by simp [upd, hj], rfl⟩)
        rw [dd_u_self rf a, dd_u_self L a] at hset
        cases hs
        refine va_put hx hb hts hin (dd_fty (sh a).1) hty hnmm hown hK hS.2.2.1 hS.2.2.2.1 hS.2.2.2.2.1 a hw c1 y c3 c5 c6 (c8.2 (by decide)) (show parseFieldDescriptor _ = some .int by rw [hty y c3, ((hz y c3).1 c4)]) rfl rfl (by simpa using c3) hd (fun H1 locs1 hP hD hS1 => ?_)
        have e9 : (dd_ws ad tA (n, sh, rf, I, L, cM, sM')).set a (ad a, .inr ((sh a).1, ((List.range N).map (fun j => dd_fv ad (sh a).1 (rf a) (I a) (L a) j)).set y (dd_cv ad (.int v)))) = dd_ws ad tA (n, sh, rf, dd_u I a (upd (I a) y v), L, cM, sM') := hset
        rw [e9] at hP hD
        exact kk ad tA H1 locs1 lsC ⟨dd_wf_ui hS.1 a y v, dd_FM_ui hS.2.1 (by have := hS.1.1; omega) y v, hP, hD, hS1, hS.2.2.2.2.2.1, hS.2.2.2.2.2.2⟩ hL (dd_Ext.rf ad tA _ _)
      · cases hs
    · cases hs
  · split at hs
    · rename_i v a st
      split at hs
      · rename_i hck
        obtain ⟨C, T, N, ref, c1, c2, c3, c4, c5, c6, h11, c8⟩ := base a hck
        obtain ⟨hin, hty, hnmm, hz⟩ := dd_cls c1
        obtain ⟨hlt, hw⟩ := dd_obj hS (show dd_kd _ a = (sh a).1 from rfl) h11 c2
        have hlt : a < n := hlt
        have hset := dd_obj_set hS (y := y) rfl h11 c2 c3 (r1 := (rf a)) (I1 := (I a)) (L1 := (vp_updL (L a) y v)) (v := (dd_cv ad (.long v))) (by unfold dd_fv; rw [c4]; simp [vp_updL, dd_cv]) (fun j hj => ⟨rfl, rfl, by simp [vp_updL, hj]⟩)
        rw [dd_u_self rf a, dd_u_self I a] at hset
        cases hs
        refine va_put hx hb hts hin (dd_fty (sh a).1) hty hnmm hown hK hS.2.2.1 hS.2.2.2.1 hS.2.2.2.2.1 a hw c1 y c3 c5 c6 (c8.2 (by decide)) (show parseFieldDescriptor _ = some .long by rw [hty y c3, ((hz y c3).2.1 c4)]) rfl rfl (by simpa using c3) hd (fun H1 locs1 hP hD hS1 => ?_)
        have e9 : (dd_ws ad tA (n, sh, rf, I, L, cM, sM')).set a (ad a, .inr ((sh a).1, ((List.range N).map (fun j => dd_fv ad (sh a).1 (rf a) (I a) (L a) j)).set y (dd_cv ad (.long v)))) = dd_ws ad tA (n, sh, rf, I, dd_u L a (vp_updL (L a) y v), cM, sM') := hset
        rw [e9] at hP hD
        exact kk ad tA H1 locs1 lsC ⟨dd_wf_ul hS.1 a y v, dd_FM_ul hS.2.1 a y v, hP, hD, hS1, hS.2.2.2.2.2.1, hS.2.2.2.2.2.2⟩ hL (dd_Ext.rf ad tA _ _)
      · cases hs
    · cases hs
  · split at hs
    · rename_i v a st
      split at hs
      · rename_i hck hv1 hvn
        have hv1 : 1 ≤ v := Nat.le_of_ble_eq_true hv1
        have hvn : v < n := Nat.le_of_ble_eq_true hvn
        obtain ⟨v', rfl⟩ : ∃ v', v = v' + 1 := ⟨v - 1, (Nat.sub_add_cancel hv1).symm⟩
        obtain ⟨C, T, N, ref, c1, c2, c3, c4, c5, c6, h11, c8⟩ := base a hck
        obtain ⟨hin, hty, hnmm, hz⟩ := dd_cls c1
        obtain ⟨hlt, hw⟩ := dd_obj hS (show dd_kd _ a = (sh a).1 from rfl) h11 c2
        have hlt : a < n := hlt
        have hset := dd_obj_set hS (y := y) rfl h11 c2 c3 (r1 := (va_up (rf a) y (v' + 1))) (I1 := (I a)) (L1 := (L a)) (v := (dd_cv ad (.ref (v' + 1)))) (by unfold dd_fv; rw [c4]; simp [va_up]; rfl) (fun j hj => ⟨by simp [va_up, hj], rfl, rfl⟩)
        rw [dd_u_self I a, dd_u_self L a] at hset
        cases hs
        refine va_putF hx hb hts hin (dd_fty (sh a).1) hty hnmm hown hK hS.2.2.1 hS.2.2.2.1 hS.2.2.2.2.1 a hw c1 y c3 c5 c6 (c8.1 rfl).2.2 (hnme.trans (c8.1 rfl).1) (c8.1 rfl).2.1 (hty y c3) (dd_refn ((hz y c3).2.2.1 c4) _).1 (dd_refn ((hz y c3).2.2.1 c4) _).2 (by simpa using c3) hd (fun H1 locs1 hP hD hS1 => ?_)
        have e9 : (dd_ws ad tA (n, sh, rf, I, L, cM, sM')).set a (ad a, .inr ((sh a).1, ((List.range N).map (fun j => dd_fv ad (sh a).1 (rf a) (I a) (L a) j)).set y (dd_cv ad (.ref (v' + 1))))) = dd_ws ad tA (n, sh, dd_u rf a (va_up (rf a) y (v' + 1)), I, L, cM, sM') := hset
        rw [e9] at hP hD
        exact kk ad tA H1 locs1 lsC ⟨dd_wf_ur hS.1 a y hvn, dd_FM_ur hS.2.1 (by have := hS.1.1; omega) y (v' + 1), hP, hD, hS1, hS.2.2.2.2.2.1, hS.2.2.2.2.2.2⟩ hL (dd_Ext.rf ad tA _ _)
      · cases hs
    · cases hs
  · split at hs
    · rename_i v a st
      split at hs
      · rename_i hck
        split at hs
        · rename_i hv
          have hnar : narrow .boolean (.int v) = .int v := by rcases hv with rfl | rfl <;> rfl
          have hfit : fits .boolean (.int v) = true := by rcases hv with rfl | rfl <;> rfl
          obtain ⟨C, T, N, ref, c1, c2, c3, c4, c5, c6, h11, c8⟩ := base a hck
          obtain ⟨hin, hty, hnmm, hz⟩ := dd_cls c1
          obtain ⟨hlt, hw⟩ := dd_obj hS (show dd_kd _ a = (sh a).1 from rfl) h11 c2
          have hlt : a < n := hlt
          have hset := dd_obj_set hS (y := y) rfl h11 c2 c3 (r1 := (rf a)) (I1 := (upd (I a) y v)) (L1 := (L a)) (v := (dd_cv ad (.int v))) (by unfold dd_fv; rw [c4]; simp [upd, dd_cv]) (fun j hj => ⟨rfl, by simp [upd, hj], rfl⟩)
          rw [dd_u_self rf a, dd_u_self L a] at hset
          cases hs
          refine va_put hx hb hts hin (dd_fty (sh a).1) hty hnmm hown hK hS.2.2.1 hS.2.2.2.1 hS.2.2.2.2.1 a hw c1 y c3 c5 c6 (c8.2 (by decide)) (show parseFieldDescriptor _ = some .boolean by rw [hty y c3, ((hz y c3).2.2.2.1 c4)]) hnar hfit (by simpa using c3) hd (fun H1 locs1 hP hD hS1 => ?_)
          have e9 : (dd_ws ad tA (n, sh, rf, I, L, cM, sM')).set a (ad a, .inr ((sh a).1, ((List.range N).map (fun j => dd_fv ad (sh a).1 (rf a) (I a) (L a) j)).set y (dd_cv ad (.int v)))) = dd_ws ad tA (n, sh, rf, dd_u I a (upd (I a) y v), L, cM, sM') := hset
          rw [e9] at hP hD
          exact kk ad tA H1 locs1 lsC ⟨dd_wf_ui hS.1 a y v, dd_FM_ui hS.2.1 (by have := hS.1.1; omega) y v, hP, hD, hS1, hS.2.2.2.2.2.1, hS.2.2.2.2.2.2⟩ hL (dd_Ext.rf ad tA _ _)
        · cases hs
      · cases hs
    · cases hs
  · cases hs

theorem dd_i_arraylength  (hC : dd_Cx p s m args c cc own nL D A Ln fI ad0) (hk : dd_chk1 own nL (pc, .arraylength, len, x, y, z, k) pl = true) (hd : decode cc pc = .ok (.arraylength, len)) (hs : dd_stp (pc, .arraylength, len, x, y, z, k) ls st M = some cf') (hS : dd_St D A s Ln fI ad0 ad tA M H locs) (hL : dd_LV ad ls nL lsC) (kk : dd_K1 p l e R s m args below meth c D A Ln fI ad0 nL c0 s0 Q ad tA M cf') : W p l e R s m args below meth c H locs (dd_nc M - c0) (dd_ns M - s0) Q (F0 m pc lsC (st.map (dd_cv ad))) := by
  obtain ⟨hx, hb, hml, hown, hts, hK, hA, hF⟩ := hC
  simp only [dd_chk1, decide_eq_true_eq, Bool.and_eq_true] at hk
  simp only [dd_stp] at hs
  subst hk
  split at hs
  · rename_i a st
    split at hs
    · rename_i h51
      cases hs
      have h51 : (dd_kd M a = 51 ∨ dd_kd M a = 52) ∨ 100 ≤ dd_kd M a := by simpa using h51
      by_cases q51 : dd_kd M a = 51
      · obtain ⟨i, t, rfl, ht, e1, e2⟩ := dd_for51 hS q51
        have hT := (hF.1 i t ht).2.2.2.1
        rw [← hS.2.2.2.2.2.2 (2000000 + i) (by omega)] at hT
        exact va_tlen hx hb hT hS.2.2.2.2.1 (by rw [e1]) hd (kk ad tA H locs lsC hS hL (dd_Ext.rf ad tA M M))
      · by_cases q52 : dd_kd M a = 52
        · obtain ⟨rfl, e1, e2⟩ := dd_for52 hS q52
          have hX := hF.2.2.2.2.2.1
          have e9 := hS.2.2.2.2.2.2 3000000 (by omega)
          have K := (kk ad tA H locs lsC hS hL (dd_Ext.rf ad tA M M))
          refine va_slen hx hb (b := ad 3000000) (L := Ln) (xs := fI 3000000) (by rw [e9]; exact hX) (by rw [e9]; exact hF.2.2.2.2.2.2.1) (by rw [e9]; exact hF.2.2.2.2.2.2.2.1) hS.2.2.2.2.1 hd ?_
          rw [← e1]
          exact K
        · have hw : a < M.1 := dd_in_world hS.1 hS.2.1 (by omega)
          · have K := (kk ad tA H locs lsC hS hL (dd_Ext.rf ad tA M M))
            rcases hS.1.2.1 a hw with h | h
            · by_cases hi : dd_kd M a = 100 ∨ dd_kd M a = 101
              · obtain ⟨-, h2, h3⟩ := dd_int_arr hS hi
                exact va_alen hx hb (dd_K1k hK h3) hS.2.2.1 a 0 h2 rfl rfl hd K
              · by_cases hl : dd_kd M a = 102
                · obtain ⟨-, h2, h3⟩ := dd_long_arr hS hl
                  exact va_alen hx hb (dd_K1k hK h3) hS.2.2.1 a 0 h2 rfl rfl hd K
                · obtain ⟨-, h2, h3⟩ := dd_ref_arr (a := a) hS (by omega)
                  exact va_alen hx hb (dd_K1k hK h3) hS.2.2.1 a 0 h2 rfl rfl hd K
            · omega
    · cases hs
  · cases hs

theorem dd_i_iaload  (hC : dd_Cx p s m args c cc own nL D A Ln fI ad0) (hk : dd_chk1 own nL (pc, .iaload, len, x, y, z, k) pl = true) (hd : decode cc pc = .ok (.iaload, len)) (hs : dd_stp (pc, .iaload, len, x, y, z, k) ls st M = some cf') (hS : dd_St D A s Ln fI ad0 ad tA M H locs) (hL : dd_LV ad ls nL lsC) (kk : dd_K1 p l e R s m args below meth c D A Ln fI ad0 nL c0 s0 Q ad tA M cf') : W p l e R s m args below meth c H locs (dd_nc M - c0) (dd_ns M - s0) Q (F0 m pc lsC (st.map (dd_cv ad))) := by
  obtain ⟨hx, hb, hml, hown, hts, hK, hA, hF⟩ := hC
  simp only [dd_chk1, decide_eq_true_eq, Bool.and_eq_true] at hk
  simp only [dd_stp] at hs
  subst hk
  split at hs
  · rename_i j a st
    split at hs
    · rename_i hkd
      split at hs
      · rename_i hin
        cases hs
        have hkd : dd_kd M a = 100 ∨ dd_kd M a = 52 := by simpa using hkd
        rcases hkd with hkd | hkd
        · obtain ⟨-, h2, h3⟩ := dd_int_arr (a := a) hS (by omega)
          rw [hkd] at h3
          exact va_iald hx hb (dd_K1k hK h3) hS.2.2.1 a 0 h2 rfl (dd_vin hin) hd (kk ad tA H locs lsC hS hL (dd_Ext.rf ad tA M M))
        · obtain ⟨rfl, e1, e2⟩ := dd_for52 hS hkd
          have e9 := hS.2.2.2.2.2.2 3000000 (by omega)
          have K := (kk ad tA H locs lsC hS hL (dd_Ext.rf ad tA M M))
          rw [show dd_i M 3000000 j.toNatClampNeg = fI 3000000 j.toNatClampNeg from e2 _] at K
          exact va_sld hx hb (b := ad 3000000) (L := Ln) (xs := fI 3000000) (by rw [e9]; exact hF.2.2.2.2.2.1) (by rw [e9]; exact hF.2.2.2.2.2.2.1) (by rw [e9]; exact hF.2.2.2.2.2.2.2.1) hS.2.2.2.2.1 (by rw [← e1]; exact dd_vin hin) hd K
      · cases hs
    · cases hs
  · cases hs

theorem dd_i_baload  (hC : dd_Cx p s m args c cc own nL D A Ln fI ad0) (hk : dd_chk1 own nL (pc, .baload, len, x, y, z, k) pl = true) (hd : decode cc pc = .ok (.baload, len)) (hs : dd_stp (pc, .baload, len, x, y, z, k) ls st M = some cf') (hS : dd_St D A s Ln fI ad0 ad tA M H locs) (hL : dd_LV ad ls nL lsC) (kk : dd_K1 p l e R s m args below meth c D A Ln fI ad0 nL c0 s0 Q ad tA M cf') : W p l e R s m args below meth c H locs (dd_nc M - c0) (dd_ns M - s0) Q (F0 m pc lsC (st.map (dd_cv ad))) := by
  obtain ⟨hx, hb, hml, hown, hts, hK, hA, hF⟩ := hC
  simp only [dd_chk1, decide_eq_true_eq, Bool.and_eq_true] at hk
  simp only [dd_stp] at hs
  subst hk
  split at hs
  · rename_i j a st
    split at hs
    · rename_i hkd
      split at hs
      · rename_i hin
        cases hs
        have hkd : dd_kd M a = 101 ∨ dd_kd M a = 51 := by simpa using hkd
        rcases hkd with hkd | hkd
        · obtain ⟨-, h2, h3⟩ := dd_int_arr (a := a) hS (by omega)
          rw [hkd] at h3
          exact va_bald hx hb (dd_K1k hK h3) hS.2.2.1 a 0 h2 rfl (dd_vin hin) hd (kk ad tA H locs lsC hS hL (dd_Ext.rf ad tA M M))
        · obtain ⟨i, t, rfl, ht, e1, e2⟩ := dd_for51 hS hkd
          have hT := (hF.1 i t ht).2.2.2.1
          rw [← hS.2.2.2.2.2.2 (2000000 + i) (by omega)] at hT
          have K := (kk ad tA H locs lsC hS hL (dd_Ext.rf ad tA M M))
          rw [show dd_i M (2000000 + i) j.toNatClampNeg = fI (2000000 + i) j.toNatClampNeg from e2 _] at K
          exact va_tb hx hb hT hS.2.2.2.2.1 (by rw [← e1]; exact dd_vin hin) rfl hd K
      · cases hs
    · cases hs
  · cases hs

theorem dd_i_laload  (hC : dd_Cx p s m args c cc own nL D A Ln fI ad0) (hk : dd_chk1 own nL (pc, .laload, len, x, y, z, k) pl = true) (hd : decode cc pc = .ok (.laload, len)) (hs : dd_stp (pc, .laload, len, x, y, z, k) ls st M = some cf') (hS : dd_St D A s Ln fI ad0 ad tA M H locs) (hL : dd_LV ad ls nL lsC) (kk : dd_K1 p l e R s m args below meth c D A Ln fI ad0 nL c0 s0 Q ad tA M cf') : W p l e R s m args below meth c H locs (dd_nc M - c0) (dd_ns M - s0) Q (F0 m pc lsC (st.map (dd_cv ad))) := by
  obtain ⟨hx, hb, hml, hown, hts, hK, hA, hF⟩ := hC
  simp only [dd_chk1, decide_eq_true_eq, Bool.and_eq_true] at hk
  simp only [dd_stp] at hs
  subst hk
  split at hs
  · rename_i j a st
    split at hs
    · rename_i hkd
      split at hs
      · rename_i hin
        cases hs
        have hkd : dd_kd M a = 102 := by simpa using hkd
        obtain ⟨-, h2, h3⟩ := dd_long_arr hS hkd
        exact va_lald hx hb (dd_K1k hK h3) hS.2.2.1 a 0 h2 rfl (dd_vin hin) hd (kk ad tA H locs lsC hS hL (dd_Ext.rf ad tA M M))
      · cases hs
    · cases hs
  · cases hs

theorem dd_i_aaload  (hC : dd_Cx p s m args c cc own nL D A Ln fI ad0) (hk : dd_chk1 own nL (pc, .aaload, len, x, y, z, k) pl = true) (hd : decode cc pc = .ok (.aaload, len)) (hs : dd_stp (pc, .aaload, len, x, y, z, k) ls st M = some cf') (hS : dd_St D A s Ln fI ad0 ad tA M H locs) (hL : dd_LV ad ls nL lsC) (kk : dd_K1 p l e R s m args below meth c D A Ln fI ad0 nL c0 s0 Q ad tA M cf') : W p l e R s m args below meth c H locs (dd_nc M - c0) (dd_ns M - s0) Q (F0 m pc lsC (st.map (dd_cv ad))) := by
  obtain ⟨hx, hb, hml, hown, hts, hK, hA, hF⟩ := hC
  simp only [dd_chk1, decide_eq_true_eq, Bool.and_eq_true] at hk
  simp only [dd_stp] at hs
  subst hk
  split at hs
  · rename_i j a st
    split at hs
    · rename_i hkd
      split at hs
      · rename_i hin
        have hkd : dd_kd M a = 103 := by simpa using hkd
        obtain ⟨-, h2, h3⟩ := dd_ref_arr hS hkd
        split at hs
        · cases hs
        · rename_i r hr
          cases hs
          refine va_aldq hx hb (dd_K1k hK h3) hS.2.2.1 a 0 h2 rfl (dd_vin hin) hd ?_
          have hr' : M.2.2.1 a j.toNatClampNeg = r + 1 := hr
          have K := (kk ad tA H locs lsC hS hL (dd_Ext.rf ad tA M M))
          simp only [hr', dd_ro, va_rf]
          exact K
      · cases hs
    · cases hs
  · cases hs

theorem dd_i_iastore  (hC : dd_Cx p s m args c cc own nL D A Ln fI ad0) (hk : dd_chk1 own nL (pc, .iastore, len, x, y, z, k) pl = true) (hd : decode cc pc = .ok (.iastore, len)) (hs : dd_stp (pc, .iastore, len, x, y, z, k) ls st M = some cf') (hS : dd_St D A s Ln fI ad0 ad tA M H locs) (hL : dd_LV ad ls nL lsC) (kk : dd_K1 p l e R s m args below meth c D A Ln fI ad0 nL c0 s0 Q ad tA M cf') : W p l e R s m args below meth c H locs (dd_nc M - c0) (dd_ns M - s0) Q (F0 m pc lsC (st.map (dd_cv ad))) := by
  obtain ⟨hx, hb, hml, hown, hts, hK, hA, hF⟩ := hC
  simp only [dd_chk1, decide_eq_true_eq, Bool.and_eq_true] at hk
  simp only [dd_stp] at hs
  subst hk
  split at hs
  · rename_i v j a st
    split at hs
    · rename_i hkd
      split at hs
      · rename_i hin
        cases hs
        have hkd : dd_kd M a = 100 := by simpa using hkd
        obtain ⟨hlt, h2, h3⟩ := dd_int_arr (a := a) hS (by omega)
        rw [hkd] at h3
        obtain ⟨n, sh, rf, I, L, cM, sM'⟩ := M
        have hset : (dd_ws ad tA (n, sh, rf, I, L, cM, sM')).set a (ad a, .inl (tA a, (sh a).2, .inl (upd (I a) j.toNatClampNeg v))) = dd_ws ad tA (n, sh, rf, dd_u I a (upd (I a) j.toNatClampNeg v), L, cM, sM') := by
          have h9 := dd_ws_set (ad := ad) (tA := tA) (n := n) (sh := sh) (rf := rf) (I := I) (L := L) (c := cM) (s := sM') (k := a) (r1 := rf a) (I1 := (upd (I a) j.toNatClampNeg v)) (L1 := (L a)) (e := .inl (tA a, (sh a).2, .inl (upd (I a) j.toNatClampNeg v))) (by unfold dd_ey; have h8 : (sh a).1 = 100 := hkd; rw [if_pos (by omega)])
          rw [dd_u_self rf a, dd_u_self L a] at h9
          exact h9
        refine va_iast hx hb (dd_K1k hK h3) hS.2.2.1 hS.2.2.2.1 hS.2.2.2.2.1 a 0 h2 rfl (dd_vin hin) hd (fun H1 locs1 hP hD hS1 => ?_)
        rw [show _ = _ from hset] at hP hD
        have hlt : a < n := hlt
        exact kk ad tA H1 locs1 lsC ⟨dd_wf_ui hS.1 a _ _, dd_FM_ui hS.2.1 (by have := hS.1.1; omega) _ _, hP, hD, hS1, hS.2.2.2.2.2.1, hS.2.2.2.2.2.2⟩ hL (dd_Ext.rf ad tA _ _)
      · cases hs
    · cases hs
  · cases hs

theorem dd_i_bastore  (hC : dd_Cx p s m args c cc own nL D A Ln fI ad0) (hk : dd_chk1 own nL (pc, .bastore, len, x, y, z, k) pl = true) (hd : decode cc pc = .ok (.bastore, len)) (hs : dd_stp (pc, .bastore, len, x, y, z, k) ls st M = some cf') (hS : dd_St D A s Ln fI ad0 ad tA M H locs) (hL : dd_LV ad ls nL lsC) (kk : dd_K1 p l e R s m args below meth c D A Ln fI ad0 nL c0 s0 Q ad tA M cf') : W p l e R s m args below meth c H locs (dd_nc M - c0) (dd_ns M - s0) Q (F0 m pc lsC (st.map (dd_cv ad))) := by
  obtain ⟨hx, hb, hml, hown, hts, hK, hA, hF⟩ := hC
  simp only [dd_chk1, decide_eq_true_eq, Bool.and_eq_true] at hk
  simp only [dd_stp] at hs
  subst hk
  split at hs
  · rename_i v j a st
    split at hs
    · rename_i hkd
      split at hs
      · rename_i hin
        cases hs
        have hkd : dd_kd M a = 101 := by simpa using hkd
        obtain ⟨hlt, h2, h3⟩ := dd_int_arr (a := a) hS (by omega)
        rw [hkd] at h3
        obtain ⟨n, sh, rf, I, L, cM, sM'⟩ := M
        have hset : (dd_ws ad tA (n, sh, rf, I, L, cM, sM')).set a (ad a, .inl (tA a, (sh a).2, .inl (upd (I a) j.toNatClampNeg (vp_nar .byte v)))) = dd_ws ad tA (n, sh, rf, dd_u I a (upd (I a) j.toNatClampNeg (v.toInt8.toInt32)), L, cM, sM') := by
          have h9 := dd_ws_set (ad := ad) (tA := tA) (n := n) (sh := sh) (rf := rf) (I := I) (L := L) (c := cM) (s := sM') (k := a) (r1 := rf a) (I1 := (upd (I a) j.toNatClampNeg (vp_nar .byte v))) (L1 := (L a)) (e := .inl (tA a, (sh a).2, .inl (upd (I a) j.toNatClampNeg (vp_nar .byte v)))) (by unfold dd_ey; have h8 : (sh a).1 = 101 := hkd; rw [if_pos (by omega)])
          rw [dd_u_self rf a, dd_u_self L a] at h9
          exact h9
        refine va_bast hx hb (dd_K1k hK h3) hS.2.2.1 hS.2.2.2.1 hS.2.2.2.2.1 a 0 h2 rfl (dd_vin hin) hd (fun H1 locs1 hP hD hS1 => ?_)
        rw [show _ = _ from hset] at hP hD
        have hlt : a < n := hlt
        exact kk ad tA H1 locs1 lsC ⟨dd_wf_ui hS.1 a _ _, dd_FM_ui hS.2.1 (by have := hS.1.1; omega) _ _, hP, hD, hS1, hS.2.2.2.2.2.1, hS.2.2.2.2.2.2⟩ hL (dd_Ext.rf ad tA _ _)
      · cases hs
    · cases hs
  · cases hs

theorem dd_i_lastore  (hC : dd_Cx p s m args c cc own nL D A Ln fI ad0) (hk : dd_chk1 own nL (pc, .lastore, len, x, y, z, k) pl = true) (hd : decode cc pc = .ok (.lastore, len)) (hs : dd_stp (pc, .lastore, len, x, y, z, k) ls st M = some cf') (hS : dd_St D A s Ln fI ad0 ad tA M H locs) (hL : dd_LV ad ls nL lsC) (kk : dd_K1 p l e R s m args below meth c D A Ln fI ad0 nL c0 s0 Q ad tA M cf') : W p l e R s m args below meth c H locs (dd_nc M - c0) (dd_ns M - s0) Q (F0 m pc lsC (st.map (dd_cv ad))) := by
  obtain ⟨hx, hb, hml, hown, hts, hK, hA, hF⟩ := hC
  simp only [dd_chk1, decide_eq_true_eq, Bool.and_eq_true] at hk
  simp only [dd_stp] at hs
  subst hk
  split at hs
  · rename_i v j a st
    split at hs
    · rename_i hkd
      split at hs
      · rename_i hin
        cases hs
        have hkd : dd_kd M a = 102 := by simpa using hkd
        obtain ⟨hlt, h2, h3⟩ := dd_long_arr hS hkd
        skip
        obtain ⟨n, sh, rf, I, L, cM, sM'⟩ := M
        have hset : (dd_ws ad tA (n, sh, rf, I, L, cM, sM')).set a (ad a, .inl (tA a, (sh a).2, .inr (.inl (vp_updL (L a) j.toNatClampNeg v)))) = dd_ws ad tA (n, sh, rf, I, dd_u L a (vp_updL (L a) j.toNatClampNeg v), cM, sM') := by
          have h9 := dd_ws_set (ad := ad) (tA := tA) (n := n) (sh := sh) (rf := rf) (I := I) (L := L) (c := cM) (s := sM') (k := a) (r1 := rf a) (I1 := (I a)) (L1 := (vp_updL (L a) j.toNatClampNeg v)) (e := .inl (tA a, (sh a).2, .inr (.inl (vp_updL (L a) j.toNatClampNeg v)))) (by unfold dd_ey; have h8 : (sh a).1 = 102 := hkd; rw [if_neg (by omega), if_pos (by omega)])
          rw [dd_u_self rf a, dd_u_self I a] at h9
          exact h9
        refine va_last hx hb (dd_K1k hK h3) hS.2.2.1 hS.2.2.2.1 hS.2.2.2.2.1 a 0 h2 rfl (dd_vin hin) hd (fun H1 locs1 hP hD hS1 => ?_)
        rw [show _ = _ from hset] at hP hD
        have hlt : a < n := hlt
        exact kk ad tA H1 locs1 lsC ⟨dd_wf_ul hS.1 a _ _, dd_FM_ul hS.2.1 a _ _, hP, hD, hS1, hS.2.2.2.2.2.1, hS.2.2.2.2.2.2⟩ hL (dd_Ext.rf ad tA _ _)
      · cases hs
    · cases hs
  · cases hs

theorem dd_i_aastore  (hC : dd_Cx p s m args c cc own nL D A Ln fI ad0) (hk : dd_chk1 own nL (pc, .aastore, len, x, y, z, k) pl = true) (hd : decode cc pc = .ok (.aastore, len)) (hs : dd_stp (pc, .aastore, len, x, y, z, k) ls st M = some cf') (hS : dd_St D A s Ln fI ad0 ad tA M H locs) (hL : dd_LV ad ls nL lsC) (kk : dd_K1 p l e R s m args below meth c D A Ln fI ad0 nL c0 s0 Q ad tA M cf') : W p l e R s m args below meth c H locs (dd_nc M - c0) (dd_ns M - s0) Q (F0 m pc lsC (st.map (dd_cv ad))) := by
  obtain ⟨hx, hb, hml, hown, hts, hK, hA, hF⟩ := hC
  simp only [dd_chk1, decide_eq_true_eq, Bool.and_eq_true] at hk
  simp only [dd_stp] at hs
  subst hk
  split at hs
  · rename_i v j a st
    split at hs
    · rename_i hkd hkv hv1
      split at hs
      · rename_i hin
        cases hs
        have hkd : dd_kd M a = 103 := by simpa using hkd
        have hkv : dd_kd M v = 7 := by simpa using hkv
        have hv1 : 1 ≤ v := Nat.le_of_ble_eq_true hv1
        obtain ⟨v', rfl⟩ : ∃ v', v = v' + 1 := ⟨v - 1, (Nat.sub_add_cancel hv1).symm⟩
        obtain ⟨hlt, h2, h3⟩ := dd_ref_arr hS hkd
        obtain ⟨hvl, hv2⟩ := dd_obj hS hkv (by decide) (show dd_T 7 = (RX8, TX8, 19) from rfl)
        obtain ⟨n, sh, rf, I, L, cM, sM'⟩ := M
        have hvl : v' + 1 < n := hvl
        have hlt : a < n := hlt
        have hset : (dd_ws ad tA (n, sh, rf, I, L, cM, sM')).set a (ad a, .inl (tA a, (sh a).2, .inr (.inr (.inr (.inr (va_up (fun j => dd_ro ad (rf a j)) j.toNatClampNeg (some (ad (v' + 1))))))))) = dd_ws ad tA (n, sh, dd_u rf a (va_up (rf a) j.toNatClampNeg (v' + 1)), I, L, cM, sM') := by
          have h9 := dd_ws_set (ad := ad) (tA := tA) (n := n) (sh := sh) (rf := rf) (I := I) (L := L) (c := cM) (s := sM') (k := a) (r1 := va_up (rf a) j.toNatClampNeg (v' + 1)) (I1 := I a) (L1 := L a) (e := .inl (tA a, (sh a).2, .inr (.inr (.inr (.inr (va_up (fun j => dd_ro ad (rf a j)) j.toNatClampNeg (some (ad (v' + 1))))))))) (by
            unfold dd_ey
            have h8 : (sh a).1 = 103 := hkd
            rw [if_neg (by omega), if_neg (by omega), if_pos h8]
            congr 7
            funext q
            unfold va_up
            split
            · rfl
            · rfl)
          rw [dd_u_self I a, dd_u_self L a] at h9
          exact h9
        refine va_astq hx hb (dd_K1k hK h3) hS.2.2.1 hS.2.2.2.1 hS.2.2.2.2.1 a 0 (v' + 1) 7 (r := (RX8, TX8, 19)) h2 rfl hv2 rfl (dd_vin hin) hd (fun H1 locs1 hP hD hS1 => ?_)
        rw [show _ = _ from hset] at hP hD
        exact kk ad tA H1 locs1 lsC ⟨dd_wf_ur hS.1 a _ hvl, dd_FM_ur hS.2.1 (by have := hS.1.1; omega) _ _, hP, hD, hS1, hS.2.2.2.2.2.1, hS.2.2.2.2.2.2⟩ hL (dd_Ext.rf ad tA _ _)
      · cases hs
    · cases hs
  · cases hs

end DSJ
