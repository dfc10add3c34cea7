theorem dd_no999 {n d pc : Nat} {ls st : List Value} {M : dd_M} {o : dd_O} (h : dd_run dd_mt n d 999 (pc, ls, st, M) = some o) : False := by
  cases n with
  | zero => simp [dd_run] at h
  | succ n =>
    rw [dd_run] at h
    have e : (dd_mt 999).1 pc = none := rfl
    rw [e] at h
    cases h
/-- who is called is a method of the table -/
theorem dd_clN {own : String} {en : dd_E} {st as rest : List Value} {M : dd_M} {x : Nat} (hok : dd_okC own en) (h : dd_cl dd_mt en st M = some (x, as, rest)) : x < dd_NC ∨ x = 999 := by
  obtain ⟨-, -, -, -, h5⟩ := dd_cl_spec h
  obtain ⟨pc, i, len, x0, ny, z, k⟩ := en
  obtain ⟨-, h6⟩ := hok
  cases i <;> simp only at h5 h6 <;> try exact absurd h5 id
  · obtain ⟨rfl, -⟩ := h5
    exact Or.inl h6.1
  · rw [h5]
    exact Or.inl h6.1
  · obtain ⟨a, as', rfl, h7⟩ := h5
    rcases h7 with ⟨rfl, rfl, -⟩ | ⟨z', rfl, h8⟩
    · exact Or.inl h6.1
    · simp only at h6
      rcases h8 with ⟨-, rfl⟩ | ⟨-, rfl⟩
      · rcases h6.1 with q | q
        · exact Or.inr q
        · exact Or.inl q.1
      · rcases h6.2 with q | q
        · exact Or.inr q
        · exact Or.inl q.1
section DCR
variable {p : Program} {l : Launch} {e : Env} {R : Room} {s : State} {m : MethodId} {args : Array Value} {below : List Frame} {meth : Method} {c : Code} {cc : ByteArray} {own : String} {nL : Nat} {D : va_G} {A : Nat → Prop} {Ln : Nat} {fI : Nat → Nat → Int32} {ad0 ad : Nat → Nat} {tA : Nat → ClassId} {M M1 : dd_M} {H : Heap} {locs : List Loc} {lsC : Array Slot} {cells slots : Nat}
/-- the words of a callee -/
theorem dd_callB (hAll : ∀ x, x < dd_NM → dd_okY x) (hC : dd_Cx p s m args c cc own nL D A Ln fI ad0) {x d' idx n : Nat} (hx : x < dd_NC) (hh : dd_hr x = []) (hfr : d' + 1 ≤ R.frames) (hlo : 60 * (d' + 1) ≤ R.locals) (hlink : Cond.methodLink own idx (dd_nm x) ∈ dd_gw) (hpar : dd_par (dd_nm x) = some n) : CallB R s args own idx (dd_nm x) (dd_cc x) (dd_mt x).2.1 (dd_re (dd_mt x).2.2.1) (dd_wsy x) (dd_rm d' M M1) (dd_nc M1 - dd_nc M) (dd_ns M1 - dd_ns M) n := by
  obtain ⟨hpl, hmh, hwd, hini, hmax, -, -⟩ := hAll x (Nat.lt_trans hx (by decide))
  have hwd := hwd.resolve_left (Nat.ne_of_lt hx)
  refine callB_of (ws' := dd_gw) n hC.2.2.2.2.1 (dd_gw_y hwd) (by unfold dd_wsy dd_wd; rw [hh]) rfl rfl (hC.2.2.2.2.1 _ hini) (hC.2.2.2.2.1 _ hlink) ⟨hmh.1, hmh.2, hpar⟩ ⟨hfr, ?_⟩
  show 8 + ((dd_mt x).2.1 + 11) + 60 * d' ≤ R.locals
  omega
theorem dd_stk {st as' rest : List Value} {a : Nat} (h : st = (Value.ref a :: as').reverse ++ rest) : st.map (dd_cv ad) = (as'.map (dd_cv ad)).reverse ++ .ref (ad a) :: rest.map (dd_cv ad) := by
  rw [h]
  simp [dd_cv]
theorem dd_stkS {st as rest : List Value} (h : st = as.reverse ++ rest) : st.map (dd_cv ad) = (as.map (dd_cv ad)).reverse ++ rest.map (dd_cv ad) := by
  rw [h]
  simp
set_option maxHeartbeats 2000000 in
/-- a call that returns -/
theorem dd_crun (hAll : ∀ x, x < dd_NM → dd_okY x) (hC : dd_Cx p s m args c cc own nL D A Ln fI ad0) (hS : dd_St D A s Ln fI ad0 ad tA M H locs) {en : dd_E} (hok : dd_okC own en) (hdec : decode cc en.1 = .ok (en.2.1, en.2.2.1)) {st as rest : List Value} {x : Nat} (hcl : dd_cl dd_mt en st M = some (x, as, rest)) (hxN : x < dd_NC) {d' : Nat} (hfr : d' + 1 ≤ R.frames) (hlo : 60 * (d' + 1) ≤ R.locals) (hsz : lsC.size = nL) {Qc : Array Value → State → Outcome → State → Prop} {free : Addr → Prop}
    (hM : Met l (dd_nm x) (dd_wsy x) (dd_rm d' M M1) (va_Pc (as.map (dd_cv ad)) (dd_Bw D Ln fI ad0 ad tA M H.size)) Qc (dd_nc M1 - dd_nc M) (dd_ns M1 - dd_ns M) free) (hf : cells + (dd_nc M1 - dd_nc M) ≤ R.cells ∧ slots + (dd_ns M1 - dd_ns M) ≤ R.slots) :
    va_Run p l e R s m args below meth c H locs cells slots (dd_nc M1 - dd_nc M) (dd_ns M1 - dd_ns M) (F0 m en.1 lsC (st.map (dd_cv ad))) (rest.map (dd_cv ad)) (Qc (as.map (dd_cv ad)).toArray) free := by
  obtain ⟨g1, g2, g3, g4, g5⟩ := dd_cl_spec hcl
  obtain ⟨hA1, hBw⟩ := dd_Bw.of hC hS
  have hfix : CallFix p m c cc nL s args dd_gw own := ⟨hC.1, hC.2.1, hC.2.2.1, hC.2.2.2.1, hC.2.2.2.2.1⟩
  have hts := hC.2.2.2.2.1
  have hcat : ∀ ls0 st0, 2 * (F0 m en.1 ls0 st0).monitorRoom + ((rest.map (dd_cv ad)).map fun v => v.category).sum ≤ 8 := fun ls0 st0 => lv_room (by rw [dd_cat_map]; exact g2)
  obtain ⟨pc, i, len, x0, ny, z, k⟩ := en
  obtain ⟨rfl, h6⟩ := hok
  obtain ⟨hpl, hmh, hwd, hini, hmax, -, -⟩ := hAll x (Nat.lt_trans hxN (by decide))
  have hwd := hwd.resolve_left (Nat.ne_of_lt hxN)
  cases i <;> simp only at g5 h6 <;> try exact absurd g5 id
  · -- special
    rename_i idx
    obtain ⟨rfl, a, as', rfl⟩ := g5
    obtain ⟨-, w1, w2, w3, w4, w5, w6, w7⟩ := h6
    have hn : (as'.map (dd_cv ad)).length = ny - 1 := by
      have g3 : as'.length + 1 = ny := g3
      simp; omega
    have cb := dd_callB (M := M) (M1 := M1) (R := R) hAll hC hxN w7 hfr hlo w1 w4
    rw [w6] at cb
    exact va_runI (b := ad a) (As := as'.map (dd_cv ad)) hfix hM ⟨cb, w3, hts _ w2⟩ ⟨dd_blind, fun U hU hW => ⟨rfl, hBw U hU hW⟩⟩ rfl hn hsz (dd_stk g1) (hcat _ _) hdec hf
  · -- static
    rename_i idx
    subst g5
    obtain ⟨-, w1, w2, w3⟩ := h6
    have hn : (as.map (dd_cv ad)).length = ny := by
      have g3 : as.length = ny := g3
      simp; omega
    cases hh : dd_hr x with
    | nil =>
      have cb := dd_callB (M := M) (M1 := M1) (R := R) hAll hC hxN hh hfr hlo w1 w3
      exact va_runS (As := as.map (dd_cv ad)) hfix hM ⟨cb, hts _ w2⟩ ⟨dd_blind, fun U hU hW => ⟨rfl, hBw U hU hW⟩⟩ rfl hn hsz (dd_stkS g1) (hcat _ _) hdec hf
    | cons q r =>
      have hw : dd_wd x = Cond.codeWith (dd_nm x) (dd_cc x) (dd_mt x).2.1 (dd_re (dd_mt x).2.2.1) (q :: r) := by unfold dd_wd; rw [hh]
      have hlc : 8 + ((dd_mt x).2.1 + 11) + 60 * d' ≤ R.locals := by omega
      have hin : Cond.codeWith (dd_nm x) (dd_cc x) (dd_mt x).2.1 (dd_re (dd_mt x).2.2.1) (q :: r) ∈ dd_wsy x := by unfold dd_wsy; rw [hw]; exact List.mem_cons_self
      have cw : vx_CSW R s args own idx (dd_nm x) (dd_cc x) (dd_mt x).2.1 (dd_re (dd_mt x).2.2.1) (q :: r) (dd_wsy x) (dd_rm d' M M1) (dd_nc M1 - dd_nc M) (dd_ns M1 - dd_ns M) ny :=
        ⟨⟨rfl, rfl, hfr, hlc, pay_in hts (dd_gw_y hwd), hin⟩, by rw [← hw]; exact hts _ hwd, hts _ hini, hmh, fun sig h => by
          have h9 : dd_par (dd_nm x) = some ny := w3
          unfold dd_par at h9
          rw [h] at h9
          exact (Option.some.inj h9).symm, hts _ w1, hts _ w2⟩
      exact vx_runSW (As := as.map (dd_cv ad)) hfix hM cw ⟨dd_blind, fun U hU hW => ⟨rfl, hBw U hU hW⟩⟩ rfl hn hsz (dd_stkS g1) (hcat _ _) hdec hf
  · -- virtual
    rename_i idx
    obtain ⟨a, as', rfl, h7⟩ := g5
    have hn : (as'.map (dd_cv ad)).length = ny - 1 := by
      have g3 : as'.length + 1 = ny := g3
      simp; omega
    rcases h7 with ⟨rfl, rfl, hkd⟩ | ⟨z', rfl, h8⟩
    · simp only at h6
      obtain ⟨-, w1, w2, w3, w4, w5, w6, w7, w8⟩ := h6
      have cb := dd_callB (M := M) (M1 := M1) (R := R) hAll hC hxN w8 hfr hlo w1 w6
      have hr := dd_rcv hC hS (a := a) (by rw [hkd]; exact w4)
      rw [hkd, w5] at hr
      exact va_runV (b := ad a) (As := as'.map (dd_cv ad)) hfix hM ⟨cb, hts _ w2, hts _ w3⟩ ⟨dd_blind, hr, fun U hU hW => ⟨rfl, hBw U hU hW⟩⟩ rfl hn hsz (dd_stk g1) (hcat _ _) hdec hf
    · simp only at h6
      have core : ∀ kd, (kd = 3 ∨ kd = 8) → dd_kd M a = kd → dd_okU own idx kd x ny → va_Run p l e R s m args below meth c H locs cells slots (dd_nc M1 - dd_nc M) (dd_ns M1 - dd_ns M) (F0 m pc lsC (st.map (dd_cv ad))) (rest.map (dd_cv ad)) (Qc (Value.ref (ad a) :: as'.map (dd_cv ad)).toArray) free := by
        intro kd hkd hka hU
        rcases hU with q | ⟨-, w1, w2, X, u1, u2, u3, u4, u5, u6⟩
        · subst q
          exact absurd hxN (by decide)
        · have hr := dd_rcv hC hS (a := a) (by rw [hka]; omega)
          rw [hka] at hr
          have hcn : dd_clsn kd = (dd_T kd).1 := by unfold dd_clsn; rw [if_neg (by omega)]
          rw [hcn] at hr
          have hw : dd_wd x = Cond.code (dd_nm x) (dd_cc x) (dd_mt x).2.1 (dd_re (dd_mt x).2.2.1) := by unfold dd_wd; rw [w2]
          have hin : Cond.code (dd_nm x) (dd_cc x) (dd_mt x).2.1 (dd_re (dd_mt x).2.2.1) ∈ dd_wsy x := by unfold dd_wsy; rw [hw]; exact List.mem_cons_self
          have hcode : (Cond.code (dd_nm x) (dd_cc x) (dd_mt x).2.1 (dd_re (dd_mt x).2.2.1)).before args s = true := by rw [← hw]; exact hts _ hwd
          have hdecl : va_Decl s ⟨"LostRound$Reader", X.name, X.desc⟩ := by
            rcases u3 with u3 | u3
            · rw [← u3]; exact va_Decl.of (hts _ u5) hcode
            · rw [u3]; exact va_Decl.abs (hC.2.2.2.2.2.2.2.2.2.2.2.2.2.2.2.2.2.2 _ List.mem_cons_self)
          have hlc : 8 + ((dd_mt x).2.1 + 11) + 60 * d' ≤ R.locals := by omega
          have cw : va_CU R s args own (dd_T kd).1 "LostRound$Reader" idx X (dd_nm x) (dd_cc x) (dd_mt x).2.1 (dd_re (dd_mt x).2.2.1) (dd_wsy x) (dd_rm d' M M1) (dd_nc M1 - dd_nc M) (dd_ns M1 - dd_ns M) (ny - 1) :=
            ⟨⟨rfl, rfl, hfr, hlc, pay_in hts (dd_gw_y hwd), hin⟩, hcode, hts _ hini, ⟨by decide, by decide⟩, fun sig h => by
              have h9 : dd_par X = some (ny - 1) := u6
              unfold dd_par at h9
              rw [h] at h9
              exact (Option.some.inj h9).symm, hts _ u1, hts _ u2, hdecl, hts _ u4, hts _ u5⟩
          exact va_runU (b := ad a) (As := as'.map (dd_cv ad)) hfix hM cw ⟨dd_blind, hr, fun U hU hW => ⟨rfl, hBw U hU hW⟩⟩ rfl hn hsz (dd_stk g1) (hcat _ _) hdec hf
      rcases h8 with ⟨hka, rfl⟩ | ⟨hka, rfl⟩
      · exact core 3 (Or.inl rfl) hka h6.1
      · exact core 8 (Or.inr rfl) hka h6.2
/-- a call that throws -/
theorem dd_crunX (hAll : ∀ x, x < dd_NM → dd_okY x) (hC : dd_Cx p s m args c cc own nL D A Ln fI ad0) (hS : dd_St D A s Ln fI ad0 ad tA M H locs) {en : dd_E} (hok : dd_okC own en) (hdec : decode cc en.1 = .ok (en.2.1, en.2.2.1)) (hV : dd_isV en = true) {st as rest : List Value} {x : Nat} (hcl : dd_cl dd_mt en st M = some (x, as, rest)) (hxN : x < dd_NC) {d' : Nat} (hfr : d' + 1 ≤ R.frames) (hlo : 60 * (d' + 1) ≤ R.locals) (hsz : lsC.size = nL) {Qc : Array Value → State → Outcome → State → Prop} {XC : String → State → State → Prop} {free : Addr → Prop}
    (hM : vx_Met l (dd_nm x) (dd_wsy x) (dd_rm d' M M1) (va_Pc (as.map (dd_cv ad)) (dd_Bw D Ln fI ad0 ad tA M H.size)) Qc XC (dd_nc M1 - dd_nc M) (dd_ns M1 - dd_ns M) free) (hf : cells + (dd_nc M1 - dd_nc M) ≤ R.cells ∧ slots + (dd_ns M1 - dd_ns M) ≤ R.slots) :
    vx_Run p l e R s m args below meth c H locs cells slots (dd_nc M1 - dd_nc M) (dd_ns M1 - dd_ns M) (F0 m en.1 lsC (st.map (dd_cv ad))) (rest.map (dd_cv ad)) (Qc (as.map (dd_cv ad)).toArray) XC free := by
  obtain ⟨g1, g2, g3, g4, g5⟩ := dd_cl_spec hcl
  obtain ⟨hA1, hBw⟩ := dd_Bw.of hC hS
  have hfix : CallFix p m c cc nL s args dd_gw own := ⟨hC.1, hC.2.1, hC.2.2.1, hC.2.2.2.1, hC.2.2.2.2.1⟩
  have hts := hC.2.2.2.2.1
  have hcat : ∀ ls0 st0, 2 * (F0 m en.1 ls0 st0).monitorRoom + ((rest.map (dd_cv ad)).map fun v => v.category).sum ≤ 8 := fun ls0 st0 => lv_room (by rw [dd_cat_map]; exact g2)
  obtain ⟨pc, i, len, x0, ny, z, k⟩ := en
  obtain ⟨rfl, h6⟩ := hok
  unfold dd_isV at hV
  split at hV
  · rename_i idx _ _ _ _ heq
    cases heq
    simp only at g5 h6
    obtain ⟨a, as', rfl, h7⟩ := g5
    have hn : (as'.map (dd_cv ad)).length = ny - 1 := by
      have g3 : as'.length + 1 = ny := g3
      simp; omega
    rcases h7 with ⟨-, rfl, hkd⟩ | ⟨z', hz, h8⟩
    · obtain ⟨-, w1, w2, w3, w4, w5, w6, w7, w8⟩ := h6
      have cb := dd_callB (M := M) (M1 := M1) (R := R) hAll hC hxN w8 hfr hlo w1 w6
      have hr := dd_rcv hC hS (a := a) (by rw [hkd]; exact w4)
      rw [hkd, w5] at hr
      exact vx_runV (b := ad a) (As := as'.map (dd_cv ad)) hfix hM ⟨cb, hts _ w2, hts _ w3⟩ ⟨dd_blind, hr, fun U hU hW => ⟨rfl, hBw U hU hW⟩⟩ rfl hn hsz (dd_stk g1) (hcat _ _) hdec hf
    · cases hz
  · cases hV
end DCR
