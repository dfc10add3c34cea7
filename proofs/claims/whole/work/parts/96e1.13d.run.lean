/-! A RUN OF THE SMALL MACHINE IS A RUN OF THE LARGE ONE -/
set_option maxHeartbeats 1000000 in
theorem dd_cl_spec {e : dd_E} {st as rest : List Value} {M : dd_M} {x : Nat} (h : dd_cl dd_mt e st M = some (x, as, rest)) : st = as.reverse ++ rest ∧ dd_cat rest ≤ 8 ∧ as.length = e.2.2.2.2.1 ∧ (dd_en as).length ≤ (dd_mt x).2.1 ∧ (match e.2.1 with
    | .invokevirtual _ => ∃ (a : Nat) (as' : List Value), as = .ref a :: as' ∧ ((e.2.2.2.2.2.1 = 0 ∧ x = e.2.2.2.1 ∧ dd_kd M a = (dd_mt x).2.2.2.1) ∨ ∃ z', e.2.2.2.2.2.1 = z' + 1 ∧ ((dd_kd M a = 3 ∧ x = e.2.2.2.1) ∨ (dd_kd M a = 8 ∧ x = z')))
    | .invokespecial _ => x = e.2.2.2.1 ∧ ∃ (a : Nat) (as' : List Value), as = .ref a :: as'
    | .invokestatic _ => x = e.2.2.2.1
    | _ => False) := by
  obtain ⟨pc, i, len, x0, y, z, k⟩ := e
  unfold dd_cl at h
  simp only at h
  split at h
  · rename_i h1 h2
    have h1 : y ≤ st.length := Nat.le_of_ble_eq_true h1
    have h2 : dd_cat (st.drop y) ≤ 8 := Nat.le_of_ble_eq_true h2
    have hst : ∀ l : List Value, (st.take y).reverse = l → st = l.reverse ++ st.drop y ∧ l.length = y := by
      intro l hl
      rw [← hl]
      refine ⟨by rw [List.reverse_reverse, List.take_append_drop], by simp; omega⟩
    split at h
    · split at h
      · rename_i a as' hr
        obtain ⟨q1, q2⟩ := hst _ hr
        split at h
        · split at h
          · rename_i g1 g2
            cases h
            exact ⟨q1, h2, q2, Nat.le_of_ble_eq_true g2, a, as', rfl, Or.inl ⟨rfl, rfl, Nat.eq_of_beq_eq_true g1⟩⟩
          · cases h
        · split at h
          · rename_i g1 g2
            cases h
            exact ⟨q1, h2, q2, Nat.le_of_ble_eq_true g2, a, as', rfl, Or.inr ⟨_, rfl, Or.inl ⟨Nat.eq_of_beq_eq_true g1, rfl⟩⟩⟩
          · split at h
            · rename_i g1 g2
              cases h
              exact ⟨q1, h2, q2, Nat.le_of_ble_eq_true g2, a, as', rfl, Or.inr ⟨_, rfl, Or.inr ⟨Nat.eq_of_beq_eq_true g1, rfl⟩⟩⟩
            · cases h
      · cases h
    · split at h
      · rename_i a as' hr
        obtain ⟨q1, q2⟩ := hst _ hr
        split at h
        · rename_i g2
          cases h
          exact ⟨q1, h2, q2, Nat.le_of_ble_eq_true g2, rfl, a, as', rfl⟩
        · cases h
      · cases h
    · obtain ⟨q1, q2⟩ := hst _ rfl
      split at h
      · rename_i g2
        cases h
        exact ⟨q1, h2, q2, Nat.le_of_ble_eq_true g2, rfl⟩
      · cases h
    · cases h
  · cases h
theorem dd_narb (v : Int32) : narrow .byte (.int v) = .int (vp_nar .byte v) := rfl
theorem dd_narc (v : Int32) : narrow .char (.int v) = .int (vp_nar .char v) := rfl
/-- the method's ends -/
def dd_HRet (p : Program) (l : Launch) (e : Env) (R : Room) (s : State) (m : MethodId) (args : Array Value) (below : List Frame) (meth : Method) (c : Code) (D : va_G) (A : Nat → Prop) (Ln : Nat) (fI : Nat → Nat → Int32) (ad0 : Nat → Nat) (c0 s0 : Nat) (Q : State → Prop) (y : Nat) (ad : Nat → Nat) (tA : Nat → ClassId) (M : dd_M) (o : dd_O) : Prop :=
  ∀ (pc : Nat) (i : Instr) (st : List Value) (ad' : Nat → Nat) (tA' : Nat → ClassId) (H' : Heap) (locs' : List Loc) (lsC' : Array Slot), decode (dd_cc y) pc = .ok (i, 1) → dd_okR i (dd_mt y).2.2.1 → dd_rt (dd_mt y).2.2.1 st o.2.2 = some o → dd_St D A s Ln fI ad0 ad' tA' o.2.2 H' locs' → dd_Ext ad ad' tA tA' M o.2.2 → W p l e R s m args below meth c H' locs' (dd_nc o.2.2 - c0) (dd_ns o.2.2 - s0) Q (F0 m pc lsC' (st.map (dd_cv ad')))
def dd_HThM (p : Program) (l : Launch) (e : Env) (R : Room) (s : State) (m : MethodId) (args : Array Value) (below : List Frame) (meth : Method) (c : Code) (D : va_G) (A : Nat → Prop) (Ln : Nat) (fI : Nat → Nat → Int32) (ad0 : Nat → Nat) (c0 s0 : Nat) (Q : State → Prop) (y : Nat) (ad : Nat → Nat) (tA : Nat → ClassId) (M : dd_M) (o : dd_O) : Prop :=
  ∀ (en : dd_E) (st : List Value) (ad' : Nat → Nat) (tA' : Nat → ClassId) (H' : Heap) (locs' : List Loc) (lsC' : Array Slot) (M1 : dd_M), decode (dd_cc y) en.1 = .ok (en.2.1, en.2.2.1) → dd_okT (dd_nm y).cls (dd_cc y) en → dd_hr y = [] → o = (some (en.2.2.2.2.2.1 - 1), .null, dd_tw M1) → dd_cat st ≤ 8 → 12 ≤ R.frames → 720 ≤ R.locals → dd_le M M1 → lsC'.size = (dd_mt y).2.1 → dd_St D A s Ln fI ad0 ad' tA' M1 H' locs' → dd_Ext ad ad' tA tA' M M1 → W p l e R s m args below meth c H' locs' (dd_nc M1 - c0) (dd_ns M1 - s0) Q (F0 m en.1 lsC' (st.map (dd_cv ad')))
def dd_HThX (p : Program) (l : Launch) (e : Env) (R : Room) (s : State) (m : MethodId) (args : Array Value) (below : List Frame) (meth : Method) (c : Code) (D : va_G) (A : Nat → Prop) (Ln : Nat) (fI : Nat → Nat → Int32) (ad0 : Nat → Nat) (c0 s0 : Nat) (Q : State → Prop) (y : Nat) (ad : Nat → Nat) (tA : Nat → ClassId) (M : dd_M) (o : dd_O) : Prop :=
  ∀ (k : Nat) (ce : Cell) (q9 : Addr) (pc : Nat) (rest : List Value) (ad' : Nat → Nat) (tA' : Nat → ClassId) (H1 : Heap) (locs1 : List Loc) (lsC' : Array Slot), o.1 = some k → (dd_mt y).2.2.2.2 = [] → dd_St D A s Ln fI ad0 ad' tA' o.2.2 H1 locs1 → dd_Ext ad ad' tA tA' M o.2.2 → H1[q9]? = some ce → ce.vm = .none → s.vm.findClass (dd_exn k) = some ce.cls → vx_W p l e R s m args below meth c H1 locs1 (dd_nc o.2.2 - c0) (dd_ns o.2.2 - s0) Q (F0 m pc lsC' rest) q9
/-- what is to be shown of runs of n steps -/
def dd_Snd (l : Launch) (n : Nat) : Prop := ∀ (d y pc : Nat) (ls st : List Value) (M : dd_M) (o : dd_O), dd_run dd_mt n d y (pc, ls, st, M) = some o → y < dd_NM →
  ∀ (p : Program) (e : Env) (R : Room) (s : State) (m : MethodId) (args : Array Value) (below : List Frame) (meth : Method) (c : Code) (D : va_G) (A : Nat → Prop) (Ln : Nat) (fI : Nat → Nat → Int32) (ad0 : Nat → Nat) (Q : State → Prop) (c0 s0 : Nat) (ad : Nat → Nat) (tA : Nat → ClassId) (H : Heap) (locs : List Loc) (lsC : Array Slot),
  dd_Cx p s m args c (dd_cc y) (dd_nm y).cls (dd_mt y).2.1 D A Ln fI ad0 → meth.name = (dd_nm y).name → c.exceptionTable.toList = tableOf (dd_hr y) → d ≤ R.frames → 60 * d ≤ R.locals → (dd_nc o.2.2 - c0 ≤ R.cells ∧ dd_ns o.2.2 - s0 ≤ R.slots) → (c0 ≤ dd_nc M ∧ s0 ≤ dd_ns M) → dd_St D A s Ln fI ad0 ad tA M H locs → dd_LV ad ls (dd_mt y).2.1 lsC →
  dd_HRet p l e R s m args below meth c D A Ln fI ad0 c0 s0 Q y ad tA M o → dd_HThM p l e R s m args below meth c D A Ln fI ad0 c0 s0 Q y ad tA M o → dd_HThX p l e R s m args below meth c D A Ln fI ad0 c0 s0 Q y ad tA M o →
  W p l e R s m args below meth c H locs (dd_nc M - c0) (dd_ns M - s0) Q (F0 m pc lsC (st.map (dd_cv ad)))
theorem dd_Cx.size {ad : Nat → Nat} {ls : List Value} {nL : Nat} {lsC : Array Slot} (h : dd_LV ad ls nL lsC) : lsC.size = nL := h.1
theorem dd_cat_map (ad : Nat → Nat) (st : List Value) : ((st.map (dd_cv ad)).map fun v => v.category).sum = dd_cat st := by
  unfold dd_cat
  rw [List.map_map]
  congr 1
  apply List.map_congr_left
  intro v _
  exact dd_cv_cat ad v
/-- a method's contract out of its runs -/
theorem dd_ofR {l : Launch} (hl : l.stackTraces = false) (hAll : ∀ x, x < dd_NM → dd_okY x) (hT3 : dd_ThrOK 3) {n : Nat} (hR : dd_Snd l n) {d y : Nat} {as : List Value} {M : dd_M} {o : dd_O} (hrun : dd_run dd_mt n d y (0, dd_ent (dd_mt y).2.1 as, [], M) = some o) (hy : y < dd_NM) (hen : (dd_en as).length ≤ (dd_mt y).2.1) (D : va_G) (Ln : Nat) (fI : Nat → Nat → Int32) (ad0 ad : Nat → Nat) (tA : Nat → ClassId) (sz : Nat) :
    vx_Met l (dd_nm y) (dd_wsy y) (dd_rm d M o.2.2) (va_Pc (as.map (dd_cv ad)) (dd_Bw D Ln fI ad0 ad tA M sz)) (dd_Qo D Ln fI ad0 (va_A (dd_ws ad tA M) sz) ad tA M o) (dd_Xo D Ln fI ad0 (va_A (dd_ws ad tA M) sz) ad tA M o) (dd_nc o.2.2 - dd_nc M) (dd_ns o.2.2 - dd_ns M) (va_A (dd_ws ad tA M) sz) := by
  obtain ⟨hpl, hmh, hwd, hini, hmax, hHs, hEs⟩ := hAll y hy
  have hle := dd_run_le dd_mt _ _ _ _ _ hrun
  have body : ∀ p e s m args below meth c s₁, BodyLoose p l (dd_nm y) (headSpec (dd_wsy y) (dd_rm d M o.2.2)) (dd_cc y) (dd_mt y).2.1 (dd_re (dd_mt y).2.2.1) e s m args below meth c s₁ → c.maxLocals = (dd_mt y).2.1 → c.exceptionTable.toList = tableOf (dd_hr y) → va_Pc (as.map (dd_cv ad)) (dd_Bw D Ln fI ad0 ad tA M sz) args s →
      W p l e (headSpec (dd_wsy y) (dd_rm d M o.2.2)).room s m args below meth c s.heap [] 0 0 (vx_MQ below (dd_Qo D Ln fI ad0 (va_A (dd_ws ad tA M) sz) ad tA M o) (dd_Xo D Ln fI ad0 (va_A (dd_ws ad tA M) sz) ad tA M o) args s (dd_nc o.2.2 - dd_nc M) (dd_ns o.2.2 - dd_ns M) (va_A (dd_ws ad tA M) sz)) (entryFrame m args (dd_mt y).2.1) := by
    intro p e s m args below meth c s₁ B hml htab hP
    obtain ⟨rfl, hsz, hwf, hFM, hPP, hKK, hDD, hKA, hFG, had⟩ := hP
    subst hsz
    have hts := atoms_spec (ws := dd_wsy y) B.pre
    have hown : s.vm.findClass (dd_nm y).cls = some m.cls := findClass_of_methodNamed B.named
    have hlocks := B.notSynchronized
    have hD := hDD.self (sz := s.heap.size)
    have hA : ∀ q : Nat, s.heap.size ≤ q → va_A (dd_ws ad tA M) s.heap.size q := fun q h => Or.inr h
    have hS : dd_St D (va_A (dd_ws ad tA M) s.heap.size) s Ln fI ad0 ad tA M s.heap [] := ⟨hwf, hFM, hPP, hD, va_S.rf, hKA, had⟩
    have hC : dd_Cx p s m ((as.map (dd_cv ad)).toArray) c (dd_cc y) (dd_nm y).cls (dd_mt y).2.1 D (va_A (dd_ws ad tA M) s.heap.size) Ln fI ad0 := ⟨B.exec, B.bytes, hml, hown, fun w hw => hts w (List.mem_cons_of_mem _ hw), hKK, hA, hFG⟩
    have hLV := dd_LV.entry ad as hen
    rw [lg_entry_eq]
    generalize (lg_sl (as.map (dd_cv ad)) ++ List.replicate ((dd_mt y).2.1 - (lg_sl (as.map (dd_cv ad))).length) Slot.unset).toArray = lsC at hLV ⊢
    have K := hR d y 0 _ [] M o hrun hy p e (dd_rm d M o.2.2) s m _ below meth c D _ Ln fI ad0 (vx_MQ below (dd_Qo D Ln fI ad0 (va_A (dd_ws ad tA M) s.heap.size) ad tA M o) (dd_Xo D Ln fI ad0 (va_A (dd_ws ad tA M) s.heap.size) ad tA M o) ((as.map (dd_cv ad)).toArray) s (dd_nc o.2.2 - dd_nc M) (dd_ns o.2.2 - dd_ns M) (va_A (dd_ws ad tA M) s.heap.size)) (dd_nc M) (dd_ns M) ad tA s.heap [] lsC hC (name_of_methodNamed B.named B.method).1 htab (Nat.le_refl _) (Nat.le_refl _) ⟨Nat.le_refl _, Nat.le_refl _⟩ ⟨Nat.le_refl _, Nat.le_refl _⟩ hS hLV ?_ ?_ ?_
    · rw [Nat.sub_self, Nat.sub_self] at K
      exact K
    · -- a return
      intro pc i st ad' tA' H' locs' lsC' hdec hok hrt hS' hE
      obtain ⟨ho, -⟩ := dd_rt_M hrt
      have fin : ∀ (v : Option Value), dd_ov o.2.1 = v → ∀ t : State, t.heap = H' → s.WarmedH t.vm → dd_Qo D Ln fI ad0 (va_A (dd_ws ad tA M) s.heap.size) ad tA M o ((as.map (dd_cv ad)).toArray) s (.returned v) t := by
        intro v hv t ht hW
        refine ⟨ho, by rw [hv], ⟨ad', tA', hE, hS'.1, hS'.2.1, by rw [ht]; exact hS'.2.2.1, hS'.2.2.2.1, hS'.2.2.2.2.2.1.moved hW.alike, hS'.2.2.2.2.2.2⟩, hS'.2.2.2.2.1.F ht⟩
      refine vx_ret ?_
      have hx := B.exec
      have hb := B.bytes
      have hr := B.returns
      have hlo : ∀ q ∈ locs', va_A (dd_ws ad tA M) s.heap.size q.base := hS'.2.2.2.2.1.2.2
      unfold dd_rt at hrt
      split at hrt
      · split at hrt
        · rename_i hrt0
          have h3 := (Option.some.inj hrt).symm
          rw [hrt0] at hr hok
          have hi : i = .return_ := by
            cases i <;> simp only [dd_okR] at hok <;> first | rfl | exact absurd hok (by decide)
          subst hi
          exact W.vret hx hb hr (fin none (by rw [h3]; rfl)) hlo hdec
        · cases hrt
      · rename_i v
        have core : ∀ (ty : FieldType), dd_re (dd_mt y).2.2.1 = some ty → narrow ty (.int v) = .int v → o = (none, .int v, o.2.2) → (dd_mt y).2.2.1 ≠ 0 → (dd_mt y).2.2.1 ≠ 3 → W p l e (dd_rm d M o.2.2) s m ((as.map (dd_cv ad)).toArray) below meth c H' locs' (dd_nc o.2.2 - dd_nc M) (dd_ns o.2.2 - dd_ns M) (MQ below (dd_Qo D Ln fI ad0 (va_A (dd_ws ad tA M) s.heap.size) ad tA M o) ((as.map (dd_cv ad)).toArray) s (dd_nc o.2.2 - dd_nc M) (dd_ns o.2.2 - dd_ns M) (va_A (dd_ws ad tA M) s.heap.size)) (F0 m pc lsC' ([Value.int v].map (dd_cv ad'))) := by
          intro ty h1 h2 h3 h4 h5
          rw [h1] at hr
          have hi : i = .ireturn := by
            cases i <;> simp only [dd_okR] at hok <;> first | rfl | exact absurd hok h4 | exact absurd hok h5 | exact absurd hok id
          subst hi
          exact W.zret hx hb hr h2 (fin (some (.int v)) (by rw [h3]; rfl)) hlo hdec
        split at hrt
        · rename_i hq
          refine core .int (by rw [hq]; rfl) rfl ?_ (by omega) (by omega)
          exact (Option.some.inj hrt).symm
        · rename_i hq
          split at hrt
          · rename_i h01
            refine core .boolean (by rw [hq]; rfl) (by rcases h01 with rfl | rfl <;> rfl) ?_ (by omega) (by omega)
            exact (Option.some.inj hrt).symm
          · cases hrt
        · rename_i hq
          split at hrt
          · rename_i h01
            refine core .byte (by rw [hq]; rfl) (by rw [dd_narb, h01]) ?_ (by omega) (by omega)
            exact (Option.some.inj hrt).symm
          · cases hrt
        · rename_i hq
          split at hrt
          · rename_i h01
            refine core .char (by rw [hq]; rfl) (by rw [dd_narc, h01]) ?_ (by omega) (by omega)
            exact (Option.some.inj hrt).symm
          · cases hrt
        · cases hrt
      · rename_i v
        split at hrt
        · rename_i hq
          have h3 := (Option.some.inj hrt).symm
          rw [hq] at hr hok
          have hi : i = .lreturn := by
            cases i <;> simp only [dd_okR] at hok <;> first | rfl | exact absurd hok (by decide)
          subst hi
          exact W.lret hx hb hr (fin (some (.long v)) (by rw [h3]; rfl)) hlo hdec
        · cases hrt
      · cases hrt
    · -- a throw of its own
      intro en st ad' tA' H' locs' lsC' M1 hdec hok hr0 ho hcat hfr hlc hle1 hsz' hS' hE
      obtain ⟨pc, i, len, x, ny, z, kq⟩ := en
      obtain ⟨rfl, hownR, hz5, ik, is, wide, j, t, rfl, w1, w2, ht, t1, t2, d3, dd⟩ := hok
      have hthr : dd_ThrOK (z - 1) := by
        by_cases h3 : z - 1 = 3
        · rw [h3]; exact hT3
        · exact dd_thr_ok hz5 h3
      have hRs := (hFG.1 j t ht).2.2.2.2.1
      rw [t1, t2, hownR] at hRs
      rw [hownR] at hown w1
      have hlocs : ∀ z ∈ locs', va_A (dd_ws ad tA M) s.heap.size z.base := hS'.2.2.2.2.1.2.2
      have eo : o.2.2 = dd_tw M1 := by rw [ho]
      have e1 : dd_nc o.2.2 = dd_nc M1 + 1 := by rw [eo]; rfl
      have e2 : dd_ns o.2.2 = dd_ns M1 + 6 := by rw [eo]; rfl
      have l1 := hle1.2.1
      have l2 := hle1.2.2
      refine hthr p l e (dd_rm d M o.2.2) s m _ below meth c (dd_cc y) H' locs' _ _ (va_A (dd_ws ad tA M) s.heap.size) _ _ _ _ _ lsC' _ pc ik is wide t.2.2 (ad0 (1000000 + j)) B.exec B.bytes hl hown hC.2.2.2.2.1 hFG.2.2.2.2.2.2.2.2.2.2.1 hFG.2.2.2.2.2.2.2.2.2.2.2 w1 w2 hRs hFG.2.2.2.1 hFG.2.2.2.2.1 hS'.2.2.2.2.1 (hsz'.trans hml.symm) hdec d3 dd (by rw [htab, hr0]; rfl) hfr hlc (by rw [dd_cat_map]; exact hcat) (by show dd_nc M1 - dd_nc M + 1 ≤ dd_nc o.2.2 - dd_nc M; omega) (by show dd_ns M1 - dd_ns M + 6 ≤ dd_ns o.2.2 - dd_ns M; omega) hlocks (fun t hal hsz1 hkeep => ?_) hlocs (by omega) (by omega)
      refine ⟨⟨z - 1, by rw [ho], rfl⟩, ⟨ad', tA', ?_, ?_, ?_, ?_, ?_, ?_, hS'.2.2.2.2.2.2⟩, Nat.le_trans hS'.2.2.2.2.1.1 hsz1, fun q h1 h2 => ?_⟩
      · rw [eo]; exact hE
      · rw [eo]; exact hS'.1
      · rw [eo]; exact hS'.2.1
      · rw [eo]
        intro k q hq
        exact (hS'.2.2.1 k q hq).kept (hkeep _ (hS'.2.2.1 k q hq).lt)
      · rw [eo]; exact hS'.2.2.2.1
      · rw [eo]; exact hS'.2.2.2.2.2.1.moved hal
      · rw [hkeep q (Nat.lt_of_lt_of_le h1 hS'.2.2.2.2.1.1)]
        exact hS'.2.2.2.2.1.2.1 q h1 h2
    · -- a throw that goes through
      intro k ce q9 pc rest ad' tA' H1 locs1 lsC' ho hh hS' hE hce hcv hcl
      have ht0 : c.exceptionTable.toList = [] := by
        rw [htab]
        revert hHs
        rw [hh]
        cases dd_hr y with
        | nil => intro _; rfl
        | cons a r => intro h; exact absurd h (by simp [dd_okHs])
      refine vx_out (by rw [ht0]; intro x hx; cases hx) hlocks hce hcv hcl (fun t ht hW => ?_) hS'.2.2.2.2.1.2.2 (Nat.le_refl _) (Nat.le_refl _)
      exact ⟨⟨k, ho, rfl⟩, ⟨ad', tA', hE, hS'.1, hS'.2.1, by rw [ht]; exact hS'.2.2.1, hS'.2.2.2.1, hS'.2.2.2.2.2.1.moved hW, hS'.2.2.2.2.2.2⟩, hS'.2.2.2.2.1.F ht⟩
  cases hh : dd_hr y with
  | nil =>
    refine vx_ofW (cc := dd_cc y) (maxL := (dd_mt y).2.1) (ret := dd_re (dd_mt y).2.2.1) (ws' := dd_gw) hpl (by unfold dd_wsy dd_wd; rw [hh]) ?_
    intro p e s m args below meth c s₁ B hml hno hP
    exact body p e s m args below meth c s₁ B hml (by rw [hh]; exact List.eq_nil_iff_forall_not_mem.mpr (fun x hx => hno x hx)) hP
  | cons a r =>
    refine vx_ofWH (cc := dd_cc y) (maxL := (dd_mt y).2.1) (ret := dd_re (dd_mt y).2.2.1) (ws' := dd_gw) (hh := a :: r) hpl (by unfold dd_wsy dd_wd; rw [hh]) ?_
    intro p e s m args below meth c s₁ B hml hP
    have hw : (dd_wd y).before args s = true := atoms_spec (ws := dd_wsy y) B.pre _ List.mem_cons_self
    unfold dd_wd at hw
    rw [hh] at hw
    exact body p e s m args below meth c s₁ B hml (by rw [hh]; exact vx_table (x := dd_nm y) B hw) hP
