theorem dd_FM_ui {Ln : Nat} {fI : Nat → Nat → Int32} {M : dd_M} (h : dd_FM Ln fI M) {a : Nat} (ha : a < 1000000) (j : Nat) (v : Int32) : dd_FM Ln fI (dd_ui M a j v) := by
  intro k hk
  obtain ⟨h1, h2⟩ := h k hk
  refine ⟨h1, fun j' => ⟨(h2 j').1, ?_⟩⟩
  show dd_u M.2.2.2.1 a (upd (M.2.2.2.1 a) j v) k j' = _
  rw [dd_u_ne _ _ (by omega)]
  exact (h2 j').2
theorem dd_FM_ul {Ln : Nat} {fI : Nat → Nat → Int32} {M : dd_M} (h : dd_FM Ln fI M) (a j : Nat) (v : Int64) : dd_FM Ln fI (dd_ul M a j v) := h
theorem dd_FM_ur {Ln : Nat} {fI : Nat → Nat → Int32} {M : dd_M} (h : dd_FM Ln fI M) {a : Nat} (ha : a < 1000000) (j : Nat) (v : Nat) : dd_FM Ln fI (dd_ur M a j v) := by
  intro k hk
  obtain ⟨h1, h2⟩ := h k hk
  refine ⟨h1, fun j' => ⟨?_, (h2 j').2⟩⟩
  show dd_u M.2.2.1 a (va_up (M.2.2.1 a) j v) k j' = _
  rw [dd_u_ne _ _ (by omega)]
  exact (h2 j').1
theorem dd_wf_ui {M : dd_M} (h : dd_wf M) (a j : Nat) (v : Int32) : dd_wf (dd_ui M a j v) := h
theorem dd_wf_ul {M : dd_M} (h : dd_wf M) (a j : Nat) (v : Int64) : dd_wf (dd_ul M a j v) := h
theorem dd_wf_ur {M : dd_M} (h : dd_wf M) (a j : Nat) {v : Nat} (hv : v < M.1) : dd_wf (dd_ur M a j v) := by
  refine ⟨h.1, h.2.1, h.2.2.1, fun k j' hk => ?_⟩
  show dd_u M.2.2.1 a (va_up (M.2.2.1 a) j v) k j' < M.1
  unfold dd_u
  split
  · unfold va_up
    split
    · exact hv
    · exact h.2.2.2 a j' (by rename_i h1 h2; rw [← h1]; exact hk)
  · exact h.2.2.2 k j' hk
theorem dd_K1k {D : va_G} {s : State} {cA : ClassId} {ty : FieldType} (hK : va_K D vwCl [] s) (h : ArrOfT s cA ty ∧ va_RA s cA ty) : va_K D vwCl [(cA, ty)] s := ⟨hK.1, fun k q hq => by
  cases k with
  | zero => simp at hq; subst hq; exact h
  | succ k => simp at hq⟩
/-- the fields with one changed -/
theorem dd_fs_set {ad : Nat → Nat} {x N y : Nat} {rf rf' : Nat → Nat} {I I' : Nat → Int32} {L L' : Nat → Int64} {v : Value} (hy : y < N) (hv : dd_fv ad x rf' I' L' y = v) (ho : ∀ j, j ≠ y → rf' j = rf j ∧ I' j = I j ∧ L' j = L j) : ((List.range N).map (fun j => dd_fv ad x rf I L j)).set y v = (List.range N).map (fun j => dd_fv ad x rf' I' L' j) := by
  apply List.ext_getElem?
  intro j
  rw [List.getElem?_set]
  by_cases hj : y = j
  · subst hj
    rw [if_pos rfl, if_pos (by simpa using hy)]
    simp [List.getElem?_map, List.getElem?_range hy, hv]
  · rw [if_neg hj]
    by_cases hn : j < N
    · obtain ⟨h1, h2, h3⟩ := ho j (fun z => hj z.symm)
      simp only [List.getElem?_map, List.getElem?_range hn, Option.map_some]
      unfold dd_fv
      rw [h1, h2, h3]
    · have h9 : (List.range N)[j]? = none := by simp; omega
      simp only [List.getElem?_map, h9, Option.map_none]

theorem dd_bltF {a b : Nat} (h : b ≤ a) : Nat.blt a b = false := by
  cases hq : Nat.blt a b with
  | false => rfl
  | true => simp [Nat.blt] at hq; omega
theorem dd_bltT {a b : Nat} (h : a < b) : Nat.blt a b = true := by
  simp [Nat.blt]; omega
/-- a text's cell -/
theorem dd_str50 {D : va_G} {A : Nat → Prop} {s : State} {Ln : Nat} {fI : Nat → Nat → Int32} {ad0 ad : Nat → Nat} {tA : Nat → ClassId} {M : dd_M} {H : Heap} {locs : List Loc} {a : Nat} {A' : Nat → Prop} {U : State} {H' : Heap} (hS : dd_St D A s Ln fI ad0 ad tA M H locs) (hF : dd_FG ad0 Ln fI A' U H') (h : dd_kd M a = 50) : ∃ (i : Nat) (t : String × Nat × String), a = 1000000 + i ∧ dd_strs[i]? = some t ∧ dd_r M (1000000 + i) 0 = 2000000 + i ∧ dd_i M (1000000 + i) 1 = 0 := by
  have hge : 1000000 ≤ a := by
    rcases Nat.lt_or_ge a 1000000 with q | q
    · rcases Nat.lt_or_ge a M.1 with q2 | q2
      · have := hS.1.2.1 a q2; omega
      · have := hS.1.2.2.1 a q2 q; omega
    · exact q
  obtain ⟨h1, h2⟩ := hS.2.1 a hge
  have h3 : (dd_sh0 Ln a).1 = 50 := by rw [← h1]; exact h
  have hlt : a < 1000071 := by
    unfold dd_sh0 at h3
    split at h3
    · rename_i q; simp [Nat.blt] at q; omega
    · split at h3
      · rename_i q; simp [Nat.blt] at q; omega
      · split at h3
        · split at h3
          · rename_i q; simp [Nat.blt] at q; omega
          · exact absurd h3 (by decide)
        · split at h3
          · split at h3 <;> exact absurd h3 (by simp)
          · split at h3 <;> exact absurd h3 (by simp)
  obtain ⟨i, rfl⟩ : ∃ i, a = 1000000 + i := ⟨a - 1000000, by omega⟩
  have hi : i < dd_strs.length := by show i < 71; omega
  have ht := List.getElem?_eq_getElem hi
  refine ⟨i, dd_strs[i], rfl, ht, ?_, ?_⟩
  · rw [(h2 0).1]
    unfold dd_rf0
    have e1 : Nat.blt (1000000 + i) 164 = false := dd_bltF (by omega)
    have e2 : Nat.blt (1000000 + i) 1000000 = false := dd_bltF (by omega)
    have e3 : Nat.blt (1000000 + i) 1000071 = true := dd_bltT (by omega)
    simp only [e1, e2, e3]
    show 1000000 + i + 1000000 = _
    omega
  · rw [(h2 1).2]
    exact (hF.1 i _ ht).2.2.2.2.2

section DSJ
variable {p : Program} {l : Launch} {e : Env} {R : Room} {s : State} {m : MethodId} {args : Array Value} {below : List Frame} {meth : Method} {c : Code} {cc : ByteArray} {own : String} {nL : Nat} {D : va_G} {A : Nat → Prop} {Ln : Nat} {fI : Nat → Nat → Int32} {ad0 : Nat → Nat} {Q : State → Prop} {c0 s0 : Nat}
variable {ls st : List Value} {M : dd_M} {cf' : dd_C} {ad : Nat → Nat} {tA : Nat → ClassId} {H : Heap} {locs : List Loc} {lsC : Array Slot} {pc len x y z : Nat} {k : Int32} {pl : List Nat}

theorem dd_i_ldc2_w (n : Nat) (hC : dd_Cx p s m args c cc own nL D A Ln fI ad0) (hk : dd_chk1 own nL (pc, (.ldc2_w n), len, x, y, z, k) pl = true) (hd : decode cc pc = .ok ((.ldc2_w n), len)) (hs : dd_stp (pc, (.ldc2_w n), len, x, y, z, k) ls st M = some cf') (hS : dd_St D A s Ln fI ad0 ad tA M H locs) (hL : dd_LV ad ls nL lsC) (kk : dd_K1 p l e R s m args below meth c D A Ln fI ad0 nL c0 s0 Q ad tA M cf') : W p l e R s m args below meth c H locs (dd_nc M - c0) (dd_ns M - s0) Q (F0 m pc lsC (st.map (dd_cv ad))) := by
  obtain ⟨hx, hb, hml, hown, hts, hK, hA, hF⟩ := hC
  simp only [dd_chk1, decide_eq_true_eq, Bool.and_eq_true] at hk
  simp only [dd_stp] at hs
  obtain ⟨rfl, h2⟩ := hk
  cases hs
  exact lv_ldc2 hx hb hown (hts _ (dd_w_mem h2)) hd (kk ad tA H locs lsC hS hL (dd_Ext.rf ad tA M M))

theorem dd_i_ldc (n : Nat) (hC : dd_Cx p s m args c cc own nL D A Ln fI ad0) (hk : dd_chk1 own nL (pc, (.ldc n), len, x, y, z, k) pl = true) (hd : decode cc pc = .ok ((.ldc n), len)) (hs : dd_stp (pc, (.ldc n), len, x, y, z, k) ls st M = some cf') (hS : dd_St D A s Ln fI ad0 ad tA M H locs) (hL : dd_LV ad ls nL lsC) (kk : dd_K1 p l e R s m args below meth c D A Ln fI ad0 nL c0 s0 Q ad tA M cf') : W p l e R s m args below meth c H locs (dd_nc M - c0) (dd_ns M - s0) Q (F0 m pc lsC (st.map (dd_cv ad))) := by
  obtain ⟨hx, hb, hml, hown, hts, hK, hA, hF⟩ := hC
  simp only [dd_chk1, decide_eq_true_eq, Bool.and_eq_true] at hk
  simp only [dd_stp] at hs
  obtain ⟨rfl, h2⟩ := hk
  cases z with
  | zero =>
    cases hs
    exact lv_ldc hx hb hown (hts _ (dd_w_mem h2)) hd (kk ad tA H locs lsC hS hL (dd_Ext.rf ad tA M M))
  | succ z =>
    cases hs
    simp only [decide_eq_true_eq] at h2
    obtain ⟨t, ht, ht2⟩ := Option.map_eq_some_iff.mp h2
    obtain ⟨h3, h4⟩ := Prod.mk.inj ht2
    have hR := (hF.1 x t ht).2.2.2.2.1
    rw [h3, h4] at hR
    rw [← hS.2.2.2.2.2.2 (1000000 + x) (by omega)] at hR
    exact va_ldcS hx hb hown hR hd (kk ad tA H locs lsC hS hL (dd_Ext.rf ad tA M M))

theorem dd_i_ldc_w (n : Nat) (hC : dd_Cx p s m args c cc own nL D A Ln fI ad0) (hk : dd_chk1 own nL (pc, (.ldc_w n), len, x, y, z, k) pl = true) (hd : decode cc pc = .ok ((.ldc_w n), len)) (hs : dd_stp (pc, (.ldc_w n), len, x, y, z, k) ls st M = some cf') (hS : dd_St D A s Ln fI ad0 ad tA M H locs) (hL : dd_LV ad ls nL lsC) (kk : dd_K1 p l e R s m args below meth c D A Ln fI ad0 nL c0 s0 Q ad tA M cf') : W p l e R s m args below meth c H locs (dd_nc M - c0) (dd_ns M - s0) Q (F0 m pc lsC (st.map (dd_cv ad))) := by
  obtain ⟨hx, hb, hml, hown, hts, hK, hA, hF⟩ := hC
  simp only [dd_chk1, decide_eq_true_eq, Bool.and_eq_true] at hk
  simp only [dd_stp] at hs
  obtain ⟨rfl, h2⟩ := hk
  cases z with
  | zero =>
    cases hs
    exact lv_ldcw hx hb hown (hts _ (dd_w_mem h2)) hd (kk ad tA H locs lsC hS hL (dd_Ext.rf ad tA M M))
  | succ z =>
    cases hs
    simp only [decide_eq_true_eq] at h2
    obtain ⟨t, ht, ht2⟩ := Option.map_eq_some_iff.mp h2
    obtain ⟨h3, h4⟩ := Prod.mk.inj ht2
    have hR := (hF.1 x t ht).2.2.2.2.1
    rw [h3, h4] at hR
    rw [← hS.2.2.2.2.2.2 (1000000 + x) (by omega)] at hR
    exact dd_ldcwS hx hb hown hR hd (kk ad tA H locs lsC hS hL (dd_Ext.rf ad tA M M))

theorem dd_i_getstatic (n : Nat) (hC : dd_Cx p s m args c cc own nL D A Ln fI ad0) (hk : dd_chk1 own nL (pc, (.getstatic n), len, x, y, z, k) pl = true) (hd : decode cc pc = .ok ((.getstatic n), len)) (hs : dd_stp (pc, (.getstatic n), len, x, y, z, k) ls st M = some cf') (hS : dd_St D A s Ln fI ad0 ad tA M H locs) (hL : dd_LV ad ls nL lsC) (kk : dd_K1 p l e R s m args below meth c D A Ln fI ad0 nL c0 s0 Q ad tA M cf') : W p l e R s m args below meth c H locs (dd_nc M - c0) (dd_ns M - s0) Q (F0 m pc lsC (st.map (dd_cv ad))) := by
  obtain ⟨hx, hb, hml, hown, hts, hK, hA, hF⟩ := hC
  simp only [dd_chk1, decide_eq_true_eq, Bool.and_eq_true] at hk
  simp only [dd_stp] at hs
  obtain ⟨⟨rfl, h2⟩, rfl⟩ := hk
  cases hs
  exact va_gets hx hb hF.2.1 hS.2.2.2.2.1 hown (hts _ (dd_w_mem h2)) (fun _ h => h) hd (kk ad tA H locs lsC hS hL (dd_Ext.rf ad tA M M))

theorem dd_i_getfield (n : Nat) (hC : dd_Cx p s m args c cc own nL D A Ln fI ad0) (hk : dd_chk1 own nL (pc, (.getfield n), len, x, y, z, k) pl = true) (hd : decode cc pc = .ok ((.getfield n), len)) (hs : dd_stp (pc, (.getfield n), len, x, y, z, k) ls st M = some cf') (hS : dd_St D A s Ln fI ad0 ad tA M H locs) (hL : dd_LV ad ls nL lsC) (kk : dd_K1 p l e R s m args below meth c D A Ln fI ad0 nL c0 s0 Q ad tA M cf') : W p l e R s m args below meth c H locs (dd_nc M - c0) (dd_ns M - s0) Q (F0 m pc lsC (st.map (dd_cv ad))) := by
  obtain ⟨hx, hb, hml, hown, hts, hK, hA, hF⟩ := hC
  simp only [dd_chk1, decide_eq_true_eq, Bool.and_eq_true] at hk
  simp only [dd_stp] at hs
  obtain ⟨rfl, h2⟩ := hk
  split at hs
  · rename_i a st
    split at hs
    · rename_i hck
      by_cases h50 : x = 50
      · subst h50
        have hkd : dd_kd M a = 50 := by
          rcases dd_ck_kd hck with q | q
          · exact absurd q.1 (by decide)
          · exact q.2
        obtain ⟨i, t, rfl, ht, hr0, hi1⟩ := dd_str50 hS hF hkd
        obtain ⟨g1, g2, g3, g4, g5, g6⟩ := hF.1 i t ht
        have e1 := hS.2.2.2.2.2.2 (1000000 + i) (by omega)
        have e2 := hS.2.2.2.2.2.2 (2000000 + i) (by omega)
        simp only [Bool.or_eq_true, Bool.and_eq_true, decide_eq_true_eq] at h2
        rcases h2 with ⟨⟨rfl, rfl⟩, h4⟩ | ⟨⟨rfl, rfl⟩, h4⟩
        · simp only [hr0] at hs
          rw [show 2000000 + i = (1999999 + i) + 1 by omega] at hs
          simp only at hs
          cases hs
          rw [← e1, ← e2] at g3
          refine vk_getf hx hb g3 hS.2.2.2.2.1 hown (hts _ (dd_w_mem h4)) (fun _ h => h) hd ?_
          have K := (kk ad tA H locs lsC hS hL (dd_Ext.rf ad tA M M))
          rw [show (1999999 + i) + 1 = 2000000 + i by omega] at K
          exact K
        · simp only at hs
          cases hs
          rw [← e1] at g2
          refine vk_getf hx hb g2 hS.2.2.2.2.1 hown (hts _ (dd_w_mem h4)) (fun _ h => h) hd ?_
          have K := (kk ad tA H locs lsC hS hL (dd_Ext.rf ad tA M M))
          rw [show dd_i M (1000000 + i) 1 = 0 from hi1] at K
          exact K
      · have hcf : dd_cf own n (dd_kd M a) y z pl = true := by
          rcases dd_ck_kd hck with ⟨rfl, q⟩ | ⟨q1, q2⟩
          · simp only [Bool.and_eq_true] at h2
            rcases q with q | q
            · rw [q]; exact h2.1
            · rw [q]; exact h2.2
          · rw [q2]
            revert h2
            split
            · intro _; exact absurd rfl h50
            · intro _; exact absurd rfl q1
            · exact id
        obtain ⟨C, T, N, ref, c1, c2, c3, c4, c5, c6⟩ := dd_cf_ok (args := args) (s := s) hcf hts
        have h11 : dd_kd M a < 11 := by
          rcases Nat.lt_or_ge (dd_kd M a) 11 with q | q
          · exact q
          · have hl : vwCl.length ≤ dd_kd M a := q
            rw [List.getElem?_eq_none hl] at c1
            cases c1
        obtain ⟨hlt, hw⟩ := dd_obj hS rfl h11 c2
        have hv : ((List.range N).map (fun j => dd_fv ad (dd_kd M a) (M.2.2.1 a) (M.2.2.2.1 a) (M.2.2.2.2.1 a) j))[y]? = some (dd_fv ad (dd_kd M a) (M.2.2.1 a) (M.2.2.2.1 a) (M.2.2.2.2.1 a) y) := by simp [List.getElem?_range c3]
        have hin := (dd_cls c1).1
        refine va_get hx hb hts hin hown hK hS.2.2.1 a hw c1 y c3 c5 c6 hv hd ?_
        unfold dd_fv
        rw [c4]
        split at hs
        · cases hs
          exact (kk ad tA H locs lsC hS hL (dd_Ext.rf ad tA M M))
        · cases hs
          exact (kk ad tA H locs lsC hS hL (dd_Ext.rf ad tA M M))
        · split at hs
          · cases hs
          · rename_i r hr
            cases hs
            have hr' : M.2.2.1 a y = r + 1 := hr
            have K := (kk ad tA H locs lsC hS hL (dd_Ext.rf ad tA M M))
            simp only [hr', dd_rv]
            exact K
        · cases hs
          exact (kk ad tA H locs lsC hS hL (dd_Ext.rf ad tA M M))
        · cases hs
    · cases hs
  · cases hs

end DSJ
