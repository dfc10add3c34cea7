/-- String.checkIndex, for an index inside -/
def dd_CI (l : Launch) : Prop := ∀ (i n : Int32) (A : Nat → Prop), 0 ≤ i → i < n → Met l yJ0_checkIndex_df160 (Cond.code yJ0_checkIndex_df160 cJ0_checkIndex_df160 2 none :: dd_gw) { frames := 2, cells := 0, slots := 0, locals := 60 } (va_Pc [.int i, .int n] (fun U => va_Zq "jdk/internal/util/Preconditions" "SIOOBE_FORMATTER" "Ljava/util/function/BiFunction;" A U U.heap)) (fun _ st oc t => oc = .returned none ∧ t.heap = st.heap) 0 0 (fun _ => False)
theorem dd_ciw : Cond.code yJ0_checkIndex_df160 cJ0_checkIndex_df160 2 none ∈ dd_gw ∧ Cond.initialized yJ0_checkIndex_df160.cls ∈ dd_gw := by decide +kernel
section DBI
variable {p : Program} {l : Launch} {e : Env} {R : Room} {s : State} {m : MethodId} {args : Array Value} {below : List Frame} {meth : Method} {c : Code} {cc : ByteArray} {own : String} {nL : Nat} {D : va_G} {A : Nat → Prop} {Ln : Nat} {fI : Nat → Nat → Int32} {ad0 : Nat → Nat} {Q : State → Prop} {c0 s0 : Nat}
variable {ls st : List Value} {M : dd_M} {cf' : dd_C} {ad : Nat → Nat} {tA : Nat → ClassId} {H : Heap} {locs : List Loc} {lsC : Array Slot}
theorem dd_goSame {cells slots pc : Nat} {ls0 : Array Slot} {st0 rest : List Value} (hr : va_Run p l e R s m args below meth c H locs cells slots 0 0 (F0 m pc ls0 st0) rest (fun st oc t => oc = .returned none ∧ t.heap = st.heap) (fun _ => False)) (kk : W p l e R s m args below meth c H locs cells slots Q (F0 m (pc + 3) ls0 rest)) : W p l e R s m args below meth c H locs cells slots Q (F0 m pc ls0 st0) := by
  intro T hT X
  obtain ⟨v, st₀, t, T', L, h0, X', hL, e1, e2, ⟨hv, hh⟩, st⟩ := hr T hT X
  cases hv
  have hL0 : L = [] := List.eq_nil_iff_forall_not_mem.mpr (fun q hq => hL q hq)
  subst hL0
  rw [List.append_nil] at X'
  obtain ⟨t2, a1, b1⟩ := kk T' (by rw [e1, hh, h0]) X'
  exact ⟨t2, st t2 a1, b1⟩
set_option maxHeartbeats 1000000 in
theorem dd_snd3 (hCI : dd_CI l) (hC : dd_Cx p s m args c cc own nL D A Ln fI ad0) {en : dd_E} (hok : dd_okB own en) (hd : decode cc en.1 = .ok (en.2.1, en.2.2.1)) (hs : dd_bi en.2.2.2.1 en.2.2.1 en.1 ls st M = some cf') (hfr : 12 ≤ R.frames) (hlo : 720 ≤ R.locals) (hRR : dd_nc M - c0 ≤ R.cells ∧ dd_ns M - s0 ≤ R.slots) (hS : dd_St D A s Ln fI ad0 ad tA M H locs) (hL : dd_LV ad ls nL lsC) (kk : dd_K1 p l e R s m args below meth c D A Ln fI ad0 nL c0 s0 Q ad tA M cf') : W p l e R s m args below meth c H locs (dd_nc M - c0) (dd_ns M - s0) Q (F0 m en.1 lsC (st.map (dd_cv ad))) := by
  obtain ⟨hx, hb, hml, hown, hts, hK, hA, hF⟩ := id hC
  obtain ⟨pc, i, len, x, y, z, k⟩ := en
  obtain ⟨rfl, h6⟩ := hok
  have hsz : lsC.size = nL := hL.1
  unfold dd_bi at hs
  split at hs
  · -- arraycopy
    rename_i hx9
    simp only at hx9
    subst hx9
    obtain ⟨idx, rfl, w1, w2, w3, w4⟩ := h6
    split at hs
    · rename_i n dp k1 sp k0 st
      split at hs
      · rename_i q0 q1 qc
        have q0 : dd_kd M k0 = 100 := Nat.eq_of_beq_eq_true q0
        have q1 : dd_kd M k1 = 100 := Nat.eq_of_beq_eq_true q1
        have qc : dd_cat st ≤ 8 := Nat.le_of_ble_eq_true qc
        split at hs
        · rename_i hin
          obtain ⟨i1, i2, i3, i4, i5⟩ := hin
          cases hs
          obtain ⟨hlt0, a0, b0⟩ := dd_int_arr (a := k0) hS (by omega)
          obtain ⟨hlt1, a1, b1⟩ := dd_int_arr (a := k1) hS (by omega)
          rw [q0] at b0
          rw [q1] at b1
          have hK2 : va_K D vwCl [(tA k0, .int), (tA k1, .int)] s := ⟨hK.1, fun k q hq => by
            match k, hq with
            | 0, hq => simp at hq; subst hq; exact b0
            | 1, hq => simp at hq; subst hq; exact b1
            | k + 2, hq => simp at hq⟩
          obtain ⟨n', sh, rf, I, L, cM, sM'⟩ := M
          have hlt1 : k1 < n' := hlt1
          have hset : (dd_ws ad tA (n', sh, rf, I, L, cM, sM')).set k1 (ad k1, .inl (tA k1, (sh k1).2, .inl (va_cpy (I k0) (I k1) sp.toNatClampNeg dp.toNatClampNeg n.toNatClampNeg))) = dd_ws ad tA (n', sh, rf, dd_u I k1 (va_cpy (I k0) (I k1) sp.toNatClampNeg dp.toNatClampNeg n.toNatClampNeg), L, cM, sM') := by
            have h9 := dd_ws_set (ad := ad) (tA := tA) (n := n') (sh := sh) (rf := rf) (I := I) (L := L) (c := cM) (s := sM') (k := k1) (r1 := rf k1) (I1 := va_cpy (I k0) (I k1) sp.toNatClampNeg dp.toNatClampNeg n.toNatClampNeg) (L1 := L k1) (e := .inl (tA k1, (sh k1).2, .inl (va_cpy (I k0) (I k1) sp.toNatClampNeg dp.toNatClampNeg n.toNatClampNeg))) (by unfold dd_ey; have h8 : (sh k1).1 = 100 := q1; rw [if_pos (by omega)])
            rw [dd_u_self rf k1, dd_u_self L k1] at h9
            exact h9
          have hnw : nativeFrameWords "java/lang/System" "arraycopy" 5 ≤ 600 := by decide +kernel
          refine va_copyi hx hb (hml.trans hsz.symm) hown (hts _ w1) (hts _ w2) (hts _ w3) (hts _ w4) hK2 hS.2.2.1 hS.2.2.2.1 hS.2.2.2.2.1 k0 k1 0 1 a0 a1 rfl rfl rfl (Int32.not_lt.mpr i1) (Int32.not_lt.mpr i2) (Int32.not_lt.mpr i3) i4 i5 (fun i hi => rfl) (by omega) (by
            have := dd_cat_map ad st
            omega) hd (fun H1 locs1 hP hD hS1 => ?_)
          rw [show _ = _ from hset] at hP hD
          refine kk ad tA H1 locs1 lsC ⟨hS.1, ?_, hP, hD, hS1, hS.2.2.2.2.2.1, hS.2.2.2.2.2.2⟩ hL (dd_Ext.rf ad tA _ _)
          intro k hk
          obtain ⟨h1, h2⟩ := hS.2.1 k hk
          refine ⟨h1, fun j' => ⟨(h2 j').1, ?_⟩⟩
          show dd_u I k1 _ k j' = _
          have hn1 := hS.1.1
          have hn1 : n' ≤ 100000 := hn1
          rw [dd_u_ne _ _ (by omega)]
          exact (h2 j').2
        · cases hs
      · cases hs
    · cases hs
  · -- checkIndex
    rename_i hx9
    simp only at hx9
    subst hx9
    obtain ⟨idx, rfl, w1, w2⟩ := h6
    split at hs
    · rename_i n i st
      split at hs
      · rename_i qc
        have qc : dd_cat st ≤ 8 := Nat.le_of_ble_eq_true qc
        split at hs
        · rename_i hin
          cases hs
          have hM := hCI i n A hin.1 hin.2
          have cb : CallB R s args own idx yJ0_checkIndex_df160 cJ0_checkIndex_df160 2 none (Cond.code yJ0_checkIndex_df160 cJ0_checkIndex_df160 2 none :: dd_gw) { frames := 2, cells := 0, slots := 0, locals := 60 } 0 0 2 :=
            callB_of (ws' := dd_gw) 2 hts (fun w hw => (List.mem_cons.mp hw).elim (fun e => e ▸ dd_gw_good _ dd_ciw.1) (fun q => dd_gw_good w q)) rfl rfl rfl (hts _ dd_ciw.2) (hts _ w1) ⟨by decide, by decide, by decide +kernel⟩ ⟨by show 2 + 1 ≤ R.frames; omega, by show 8 + (2 + 11) + 60 ≤ R.locals; omega⟩
          have hbl : FrameBlind (va_Pc [.int i, .int n] (fun U => va_Zq "jdk/internal/util/Preconditions" "SIOOBE_FORMATTER" "Ljava/util/function/BiFunction;" A U U.heap)) := by
            intro a U g mk h
            exact ⟨h.1, va_Zq.moved (Vm.Alike.refl U.vm) h.2⟩
          have hr := va_runS (R := R) (e := e) (below := below) (meth := meth) (H := H) (locs := locs) (cells := dd_nc M - c0) (slots := dd_ns M - s0) (As := [.int i, .int n]) (rest := st.map (dd_cv ad)) (g := F0 m pc lsC ((Value.int n :: Value.int i :: st).map (dd_cv ad))) (Ts := dd_gw) (nL := nL) ⟨hx, hb, hml, hown, hts⟩ hM ⟨cb, hts _ w2⟩ ⟨hbl, fun U hU hW => ⟨rfl, by show va_Zq _ _ _ A U U.heap; rw [hU]; exact (hF.2.2.1.kept hS.2.2.2.2.1.2.1).moved hW.alike⟩⟩ rfl rfl hsz rfl (lv_room (by rw [dd_cat_map]; exact qc)) hd ⟨hRR.1, hRR.2⟩
          exact dd_goSame hr (kk ad tA H locs lsC hS hL (dd_Ext.rf ad tA M M))
        · cases hs
      · cases hs
    · cases hs
  · -- Object.<init>
    rename_i hx9
    simp only at hx9
    subst hx9
    obtain ⟨idx, rfl, w1, w2, w3⟩ := h6
    split at hs
    · rename_i a st
      split at hs
      · rename_i qc
        have qc : dd_cat st ≤ 8 := Nat.le_of_ble_eq_true qc
        cases hs
        refine W.objInit hx hb hown (hts _ w1) (hts _ w2) (hts _ w3) rfl (hsz.trans hml.symm) rfl hd (by omega) ?_ (kk ad tA H locs lsC hS hL (dd_Ext.rf ad tA M M))
        have h9 := lv_room (m := m) (pc := pc) (ls := lsC) (rest := (Value.ref a :: st).map (dd_cv ad)) (st := st.map (dd_cv ad)) (by rw [dd_cat_map]; exact qc)
        exact Nat.le_trans (Nat.add_le_add_right h9 12) (by omega)
      · cases hs
    · cases hs
  · -- Math.abs
    rename_i hx9
    simp only at hx9
    subst hx9
    obtain ⟨idx, rfl, w1, w2, w3, w4⟩ := h6
    split at hs
    · split at hs
      · rename_i qc
        have qc := Nat.le_of_ble_eq_true qc
        cases hs
        exact va_mabs hx hb (hml.trans hsz.symm) hown (hts _ w1) (hts _ w2) (hts _ w3) (hts _ w4) (by omega) (by rw [dd_cat_map]; omega) hRR.1 hRR.2 hd (kk ad tA H locs lsC hS hL (dd_Ext.rf ad tA M M))
      · cases hs
    · cases hs
  · -- Math.max
    rename_i hx9
    simp only at hx9
    subst hx9
    obtain ⟨idx, rfl, w1, w2, w3, w4⟩ := h6
    split at hs
    · split at hs
      · rename_i qc
        have qc := Nat.le_of_ble_eq_true qc
        cases hs
        exact va_mmax hx hb (hml.trans hsz.symm) hown (hts _ w1) (hts _ w2) (hts _ w3) (hts _ w4) (by omega) (by rw [dd_cat_map]; omega) hRR.1 hRR.2 hd (kk ad tA H locs lsC hS hL (dd_Ext.rf ad tA M M))
      · cases hs
    · cases hs
  · -- Math.min
    rename_i hx9
    simp only at hx9
    subst hx9
    obtain ⟨idx, rfl, w1, w2, w3, w4⟩ := h6
    split at hs
    · split at hs
      · rename_i qc
        have qc := Nat.le_of_ble_eq_true qc
        cases hs
        exact va_mmin hx hb (hml.trans hsz.symm) hown (hts _ w1) (hts _ w2) (hts _ w3) (hts _ w4) (by omega) (by rw [dd_cat_map]; omega) hRR.1 hRR.2 hd (kk ad tA H locs lsC hS hL (dd_Ext.rf ad tA M M))
      · cases hs
    · cases hs
  · cases hs
end DBI

theorem dd_hd_split {own : String} {cc : ByteArray} {maxL pc E h k : Nat} {args : Array Value} {s : State} (hts : ∀ w ∈ dd_gw, w.before args s = true) (hNc : ∀ i j, i < 5 → j < 5 → i ≠ j → va_Nc (dd_exn i) (dd_exn j) s) (hE : E < 5) : ∀ (rs : List (Nat × Nat × Nat × Nat)) (as : List (Nat × Nat × Nat × Nat × Nat)), dd_okHs own cc maxL rs as → dd_hd as pc E = some (h, k) →
    ∃ (pre : List ExceptionTableEntry) (x : ExceptionTableEntry) (suf : List ExceptionTableEntry), tableOf rs = pre ++ x :: suf ∧ (∀ z ∈ pre, covers z pc = false ∨ (z.catchType ≠ 0 ∧ ∃ nm : String, (Cond.classLink own z.catchType nm).before args s = true ∧ va_Nc (dd_exn E) nm s)) ∧ covers x pc = true ∧ x.catchType ≠ 0 ∧ (Cond.classLink own x.catchType (dd_exn E)).before args s = true ∧ k < maxL ∧ ((∃ j : Fin 4, decode cc x.handlerPc = .ok (.astore_n j, 1) ∧ (j : Nat) = k ∧ h = x.handlerPc + 1) ∨ (decode cc x.handlerPc = .ok (.astore k, 2) ∧ h = x.handlerPc + 2)) := by
  intro rs
  induction rs with
  | nil =>
    intro as hok hd
    cases as with
    | nil => simp [dd_hd] at hd
    | cons a r => exact absurd hok (by simp [dd_okHs])
  | cons r rs ih =>
    intro as hok hd
    cases as with
    | nil => exact absurd hok (by simp [dd_okHs])
    | cons a as =>
      obtain ⟨a1, b1, h1, ct⟩ := r
      obtain ⟨a2, b2, h2, k2, E2⟩ := a
      obtain ⟨⟨rfl, rfl, o1, o2, o3, o4, o5⟩, hrest⟩ := hok
      rw [dd_hd] at hd
      split at hd
      · rename_i g1 g2 g3
        cases hd
        have g3 : E = E2 := Nat.eq_of_beq_eq_true g3
        subst g3
        have g1 : a2 ≤ pc := Nat.le_of_ble_eq_true g1
        have g2 : pc < b2 := Nat.le_of_ble_eq_true g2
        exact ⟨[], ⟨a2, b2, h1, ct⟩, tableOf rs, rfl, fun z hz => (nomatch hz), by simp [covers, g1, g2], o1, hts _ o4, o3, o5⟩
      · rename_i hno
        obtain ⟨pre, x, suf, e1, e2, e3⟩ := ih as hrest hd
        refine ⟨⟨a2, b2, h1, ct⟩ :: pre, x, suf, ?_, ?_, e3⟩
        · show _ :: tableOf rs = _
          rw [e1]
          rfl
        · intro z hz
          rcases List.mem_cons.mp hz with rfl | hz
          · by_cases hc : a2 ≤ pc ∧ pc < b2
            · right
              refine ⟨o1, dd_exn E2, hts _ o4, hNc E E2 hE o2 ?_⟩
              intro he
              refine hno (Nat.ble_eq_true_of_le hc.1) (Nat.ble_eq_true_of_le hc.2) ?_
              rw [he]
              exact Nat.beq_refl _
            · left
              simp only [covers]
              rcases Nat.lt_or_ge pc a2 with q | q
              · simp; omega
              · simp; omega
          · exact e2 z hz
theorem dd_run_E (hAll : ∀ x, x < dd_NM → dd_okY x) : ∀ (n d y : Nat) (cf : dd_C) (o : dd_O), dd_run dd_mt n d y cf = some o → y < dd_NM → ∀ k, o.1 = some k → k < 5 := by
  intro n
  induction n with
  | zero => intro d y cf o h; simp [dd_run] at h
  | succ n ih =>
    intro d y cf o h hy k hk
    obtain ⟨pc, ls, st, M⟩ := cf
    rw [dd_run] at h
    split at h
    · cases h
    · rename_i en hen
      obtain ⟨-, -, e3⟩ := (hAll y hy).2.2.2.2.2.2 pc en hen
      split at h
      · split at h
        · cases h
        · exact ih _ _ _ _ h hy k hk
      · rw [(dd_rt_M h).1] at hk; cases hk
      · rename_i h2
        rw [h2] at e3
        split at h
        · cases h
        · split at h
          · cases h
          · rename_i x as rest hcl
            split at h
            · cases h
            · split at h
              · exact ih _ _ _ _ h hy k hk
              · cases h
            · rename_i hcall
              have hxN : x < dd_NM := by
                rcases dd_clN e3 hcl with q | q
                · exact Nat.lt_trans q (by decide)
                · subst q; exact absurd (dd_no999 hcall) id
              split at h
              · cases h
              · split at h
                · split at h
                  · cases h
                    exact ih _ _ _ _ hcall hxN _ hk
                  · cases h
                · split at h
                  · exact ih _ _ _ _ h hy k hk
                  · cases h
      · split at h
        · split at h
          · cases h
          · exact ih _ _ _ _ h hy k hk
        · cases h
      · rename_i n0 n1 n2 n3
        split at h
        · cases h
          cases hk
          revert e3
          split
          · rename_i q; exact absurd q n0
          · rename_i q; exact absurd q n1
          · rename_i q; exact absurd q n2
          · rename_i q; exact absurd q n3
          · rintro ⟨h9, -⟩
            obtain ⟨pc', i, len, x, y', z, kq⟩ := en
            exact h9.2.2.1
        · cases h
