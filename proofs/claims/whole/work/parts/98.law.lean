/-! THE CLAIM OUT OF ONE WALK OF THE LAW'S BODY. Your part is whole_start (and what it stands on); all else here is the same for every law, but numbers. -/
def R_law : String := "LostRoundLaw"
def lw_P (b : Addr) (xs : List Int32) (args : Array Value) (s : State) : Prop := args = #[.ref b] ∧ s.IntsAt b xs ∧ xs.length ≤ 3072 ∧ (Jvm.Cond.and given_1 narrow_1).before args s = true
def lw_Q (_ : Array Value) (s : State) (o : Outcome) (t : State) : Prop := o = .returned (some (.int 1)) ∧ Framed s o t [] 601024 7293034
def lw_Z (below : List Frame) (a : Array Value) (s : State) : State → Prop := fun t => ∃ o, t.status = .running ∧ Ended t below o ∧ lw_Q a s o t
/-- the law's own end, with 1 on the stack, nothing written that was there before, its room as the claim has it -/
theorem lw_ret {p : Program} {l : Launch} {e : Env} {s : State} {m : MethodId} {below : List Frame} {meth : Method} {c : Code} {b : Nat} (hx : p.tables.exec = Jvm.exec) (hb : c.code = code) (hr : meth.sig.returnType = ret) (hlocks : meth.locks = false) {pc : Nat} {H : Heap} {ls : Array Slot} (hdg : decode code pc = .ok (.ireturn, 1)) : W p l e room_1 s m #[Value.ref b] below meth c H [] 601024 7293034 (lw_Z below #[Value.ref b] s) (F0 m pc ls [.int 1]) := by
  intro T hT X
  obtain ⟨fs, hret, hrun, hended, hW, hframe⟩ := X.leave (v := some (.int 1)) (hlocks := hlocks) (fun h => by rw [hr] at h; cases h)
  have hmeth' : T.vm.method? m = some meth := X.method'
  refine ⟨T.setFrames fs, ?_, .returned (some (.int 1)), hrun, hended, rfl, ⟨_, rfl⟩, hW, hframe⟩
  jvm_step X.here [X.here.top, hx, hb, hdg, hmeth', hr, ret, narrow_b1]
  (try refine ⟨rfl, ?_⟩); (try refine ⟨rfl, ?_⟩)
  first | (intro acts; rw [hret _ acts rfl rfl rfl]) | rw [hret _ _ rfl rfl rfl]
  exact Steps.refl _
/-- what holds at the law's entry: the machine, the code, the tables' words (any of lw_tbl by 'hts w (by decide +kernel)'), the script of L ints xs at the cell b, what the Statement gives of the start (any of its parts by flat_of_before) -/
def lw_At (p : Program) (s : State) (m : MethodId) (meth : Method) (c : Code) (b L : Nat) (xs : Nat → Int32) : Prop :=
  p.tables.exec = Jvm.exec ∧ c.code = code ∧ meth.sig.returnType = ret ∧ c.maxLocals = 7 ∧ s.vm.findClass R_law = some m.cls ∧ (∀ w ∈ lw_tbl, w.before #[Value.ref b] s = true) ∧ va_X b L xs s s.heap ∧ b < s.heap.size ∧ meth.locks = false ∧ (Jvm.Cond.and given_1 narrow_1).before #[Value.ref b] s = true ∧ meth.name = "law" ∧ c.exceptionTable.toList = []
theorem dd_knows {args : Array Value} {s : State} (hts : ∀ w ∈ lw_tbl, w.before args s = true) (hgw : ∀ w ∈ dd_gw, w.before args s = true) : ∃ D : va_G, va_K D vwCl [] s := by
  have h0 : ∀ k : Nat, ∃ z : ClassId × (Nat → Nat), ∀ q, vwCl[k]? = some q → u_Kn s q.1 q.2.1 q.2.2 z.1 z.2 := by
    intro k
    cases hk : vwCl[k]? with
    | none => exact ⟨(0, fun _ => 0), fun q h => by cases h⟩
    | some q =>
      have hi : ∃ n, (Cond.instantiable q.1 n).before args s = true := by
        match k, hk with
        | 0, hk => cases hk; exact ⟨3, hts _ (List.mem_of_getElem? (i := 318) (by decide +kernel))⟩
        | 1, hk => cases hk; exact ⟨4, hts _ (List.mem_of_getElem? (i := 445) (by decide +kernel))⟩
        | 2, hk => cases hk; exact ⟨5, hts _ (List.mem_of_getElem? (i := 293) (by decide +kernel))⟩
        | 3, hk => cases hk; exact ⟨11, hts _ (List.mem_of_getElem? (i := 373) (by decide +kernel))⟩
        | 4, hk => cases hk; exact ⟨5, hts _ (List.mem_of_getElem? (i := 465) (by decide +kernel))⟩
        | 5, hk => cases hk; exact ⟨6, hts _ (List.mem_of_getElem? (i := 401) (by decide +kernel))⟩
        | 6, hk => cases hk; exact ⟨2, hts _ (List.mem_of_getElem? (i := 432) (by decide +kernel))⟩
        | 7, hk => cases hk; exact ⟨19, hts _ (List.mem_of_getElem? (i := 180) (by decide +kernel))⟩
        | 8, hk => cases hk; exact ⟨7, hts _ (List.mem_of_getElem? (i := 338) (by decide +kernel))⟩
        | 9, hk => cases hk; exact ⟨18, hts _ (List.mem_of_getElem? (i := 172) (by decide +kernel))⟩
        | 10, hk => cases hk; exact ⟨26, hts _ (List.mem_of_getElem? (i := 1700) (by decide +kernel))⟩
        | k + 11, hk => simp [vwCl] at hk
      obtain ⟨n, hn⟩ := hi
      obtain ⟨cC, iS, h⟩ := u_known (C := q.1) (T := q.2.1) (N := q.2.2) (n := n) hgw (dd_cls hk).1 hn
      exact ⟨(cC, iS), fun q' h' => by cases h'; exact h⟩
  obtain ⟨f, hf⟩ := Classical.axiomOfChoice h0
  exact ⟨(fun k => (f k).1, fun k => (f k).2), fun c q hq => hf c q hq, fun k q hq => by simp at hq⟩
set_option maxHeartbeats 4000000 in
theorem whole_start (hLaw : dd_Law) {p : Program} {e : Env} {s : State} {m : MethodId} {below : List Frame} {meth : Method} {c : Code} (l : Launch) (hflags : l.flags = flags0) {b L : Nat} {xs : Nat → Int32} (hL : L ≤ 3072) (C0 : lw_At p s m meth c b L xs) : W p l e room_1 s m #[Value.ref b] below meth c s.heap [] 0 0 (lw_Z below #[Value.ref b] s) (entryFrame m ([Value.ref b] : List Value).toArray 7) := by
  obtain ⟨hx, hb, hr, hml, hown, hts, hX, hbl, hlocks, hgv, hnm, htab⟩ := C0
  have hl : l.stackTraces = false := by
    unfold Launch.stackTraces
    rw [hflags]
    decide +kernel
  obtain ⟨ad0, had, hFG⟩ := dd_entry hts hgv hX hbl
  have hgw : ∀ w ∈ dd_gw, w.before #[Value.ref b] s = true := fun w hw => dd_hts hts w (List.mem_filter.mp hw).1
  obtain ⟨D, hK⟩ := dd_knows hts hgw
  obtain ⟨n, M', hrun, hc1, hs1⟩ := hLaw L xs hL
  have hA : ∀ q : Nat, s.heap.size ≤ q → (fun q => s.heap.size ≤ q) q := fun _ h => h
  have hC : dd_Cx p s m #[Value.ref b] c (dd_cc dd_NC) (dd_nm dd_NC).cls (dd_mt dd_NC).2.1 D (fun q => s.heap.size ≤ q) L (dd_fI xs) ad0 := ⟨hx, hb, hml, hown, hgw, hK, hA, hFG⟩
  have hws : dd_ws ad0 (fun _ => 0) (dd_M0 L xs) = [] := rfl
  have hS : dd_St D (fun q => s.heap.size ≤ q) s L (dd_fI xs) ad0 ad0 (fun _ => 0) (dd_M0 L xs) s.heap [] := by
    refine ⟨⟨Nat.zero_le _, fun k hk => absurd hk (Nat.not_lt_zero k), fun k _ hk => ?_, fun k j hk => absurd hk (Nat.not_lt_zero k)⟩, fun k hk => ⟨?_, fun j => ⟨?_, rfl⟩⟩, ?_, ?_, va_S.rf, fun k hk => absurd hk (Nat.not_lt_zero k), fun _ _ => rfl⟩
    · show (if k < 1000000 then ((60 : Nat), (0 : Nat)) else dd_sh0 L k).1 = 60
      rw [if_pos hk]
    · show (if k < 1000000 then ((60 : Nat), (0 : Nat)) else dd_sh0 L k) = dd_sh0 L k
      rw [if_neg (by omega)]
    · show (if k < 1000000 then 0 else dd_rf0 k j) = dd_rf0 k j
      rw [if_neg (by omega)]
    · rw [hws]
      intro k q hq
      simp at hq
    · rw [hws]
      exact ⟨fun i j p q h => by simp at h, fun k q h => by simp at h⟩
  have hLV := dd_LV.entry ad0 [.ref 3000000] (n := 7) (by decide)
  have hmap : ([Value.ref 3000000] : List Value).map (dd_cv ad0) = [.ref b] := by simp [dd_cv, had]
  rw [hmap] at hLV
  rw [lg_entry_eq]
  generalize (lg_sl ([Value.ref b]) ++ List.replicate (7 - (lg_sl ([Value.ref b])).length) Slot.unset).toArray = lsC at hLV ⊢
  have K := dd_snd hl dd_all dd_thr3 (dd_ci l) n 1000 dd_NC 0 _ [] (dd_M0 L xs) _ hrun (by decide) p e room_1 s m #[Value.ref b] below meth c D _ L (dd_fI xs) ad0 (lw_Z below #[Value.ref b] s) 0 0 ad0 (fun _ => 0) s.heap [] lsC hC hnm (by rw [htab]; rfl) (by decide) (by decide) ⟨hc1, hs1⟩ ⟨Nat.zero_le _, Nat.zero_le _⟩ hS hLV ?_ ?_ ?_
  · exact K
  · intro pc i st ad' tA' H' locs' lsC' hdec hok hrt hS' hE
    have hst : st = [.int 1] := by
      unfold dd_rt at hrt
      (repeat' split at hrt) <;> first
        | (cases hrt; rfl)
        | (cases hrt; done)
    subst hst
    have hi : i = .ireturn := by
      have h7 : (dd_mt dd_NC).2.2.1 = 2 := rfl
      rw [h7] at hok
      cases i <;> simp only [dd_okR] at hok <;> first | rfl | exact absurd hok (by decide)
    subst hi
    refine va_forget (fun q hq => hS'.2.2.2.2.1.2.2 q hq) ?_
    refine W.widen (k := 601024) (n := 7293034) (by show dd_nc M' - 0 ≤ _; omega) (by show dd_ns M' - 0 ≤ _; omega) ?_
    exact lw_ret hx hb hr hlocks hdec
  · intro en st ad' tA' H' locs' lsC' M1 h1 h2 h3 h4
    cases h4
  · intro k ce q9 pc rest ad' tA' H1 locs1 lsC' h1
    cases h1
set_option maxHeartbeats 4000000 in
theorem lw_walk (hLaw : dd_Law) (l : Launch) (hflags : l.flags = flags0) (b : Addr) (xs : List Int32) : MetFree l x (headSpec (Jvm.Cond.code x code maxLocals ret :: tables_1) room_1) (lw_P b xs) (fun _ _ _ _ _ => True) lw_Q := by
  refine MetFree.of_bodyS (code := code) (maxLocals := maxLocals) (ret := ret) (by decide) ?_ ?_
  · intro args s m h hn
    obtain ⟨meth, c, h1, h2, h3, h4, h5, h6, -, -⟩ := Cond.code_spec hn (atoms_spec (ws := Jvm.Cond.code x code maxLocals ret :: tables_1) h _ List.mem_cons_self)
    exact ⟨meth, c, h1, h2, h3, h4, h5, h6⟩
  · intro p e s m args below meth c s₁ B hml0 hP _
    obtain ⟨rfl, hx, hbd, hgv⟩ := hP
    obtain ⟨scr, harrAt, hlist, hof, hsmall⟩ := hx
    obtain ⟨hcb, hkn, -, -⟩ := State.arrayAt?_spec harrAt
    have hown : s.vm.findClass R_law = some m.cls := findClass_of_methodNamed B.named
    have hts0 : ∀ c ∈ (Jvm.Cond.code x code maxLocals ret :: tables_1), c.before #[Value.ref b] s = true := atoms_spec (ws := Jvm.Cond.code x code maxLocals ret :: tables_1) B.pre
    have hts : ∀ w ∈ lw_tbl, w.before #[Value.ref b] s = true := k2_hts_sels lw_privs (fun w hw => hts0 w (List.mem_cons_of_mem _ hw)) lw_privs_ok
    have hml : c.maxLocals = 7 := B.maxLocals_eq (hts0 _ List.mem_cons_self)
    have X₀ : Stand p l e room_1 s m #[Value.ref b] below meth c s₁ [] 0 0 := Stand.of_body B
    have hh0 : s₁.heap = s.heap := by rw [B.state]; rfl
    have hsz : scr.slots.size = xs.length := by rw [← Array.length_toList, hlist, List.length_map]
    have hval : ∀ j : Nat, j < xs.length → scr.slots[j]? = some (.int (xs.getD j 0)) := fun j hj => by
      rw [← Array.getElem?_toList, hlist]
      simp [hj]
    have hbl : b < s.heap.size := (Array.getElem?_eq_some_iff.mp hcb).1
    have hX : va_X b xs.length (fun j => xs.getD j 0) s s.heap := ⟨scr, hcb, hof, hkn, hsz, hval⟩
    have K : W p l e room_1 s m #[Value.ref b] below meth c s₁.heap [] 0 0 (lw_Z below #[Value.ref b] s) (entryFrame m ([Value.ref b] : List Value).toArray 7) := by
      rw [hh0]
      have htab : c.exceptionTable.toList = [] := by
        obtain ⟨meth9, c9, h1, h2, -, -, -, -, h7, -⟩ := Cond.code_spec B.named (hts0 _ List.mem_cons_self)
        cases Option.some.inj (h1.symm.trans B.method)
        cases Option.some.inj (h2.symm.trans (Stand.of_body B).code)
        rw [Array.isEmpty_iff.mp h7]
      exact whole_start hLaw l hflags hbd ⟨B.exec, B.bytes, B.returns, hml, hown, hts, hX, hbl, B.notSynchronized, hgv, (name_of_methodNamed B.named B.method).1, htab⟩
    obtain ⟨t, a1, o, b1, b2, b3⟩ := K s₁ rfl X₀
    exact ⟨t, o, a1, b1, b2, b3⟩
theorem lw_pre_spec {args : Array Value} {s : State} (h : (Jvm.Cond.and given_1 narrow_1).before args s = true) (hr : rest_1_c.before args s = true) : ∃ (b : Addr) (xs : List Int32), lw_P b xs args s := by
  have hs := flat_of_before _ h
  have hq := flat_of_before _ hr
  have hc : (Cond.count 1).before args s = true := hs _ (by decide +kernel)
  have harr : (Cond.arrayOf (.arg 0) .int).before args s = true := hs _ (by decide +kernel)
  have hle : (Cond.le (.length (.arg 0)) (.int 3072)).before args s = true := hs _ (by decide +kernel)
  have hlen : (Cond.isInt (.length (.arg 0))).before args s = true := hq _ (by decide +kernel)
  have hall : (Cond.all (.arg 0) (.isInt (.elem (.arg 0) (.index 0)))).before args s = true := hq _ (by decide +kernel)
  obtain ⟨b, xs, hb, hx⟩ := State.ints_of_pre rfl harr hlen hall
  have hsm : xs.length < 2 ^ 31 := hx.choose_spec.2.2.2
  have hev : (Term.length (.arg 0)).eval args s none [] s = some (.int xs.length.toInt32) := hx.length_eval hb
  have hv := Cond.le_ints hev (show (Term.int 3072).eval args s none [] s = some (.int 3072) from rfl)
  have hd : xs.length.toInt32 ≤ 3072 := by
    simpa [Cond.before, Cond.holds, hv] using hle
  have hN : xs.length ≤ 3072 := (Int32.ofNat_le_ofNat hsm (by decide)).mp (show Int32.ofNat xs.length ≤ Int32.ofNat 3072 from hd)
  exact ⟨b, xs, Cond.one_arg hc (show args[0]? = some (.ref b) from hb), hx, hN, h⟩
theorem lw_comes (l : Launch) (hflags : l.flags = flags0) : Comes l x (Jvm.Cond.code x code maxLocals ret :: tables_1) room_1 (fun tb e args s => Calls_1 tb e args s ∧ rest_1 tb e args s ∧ Pre_1 tb e args s)
    (fun _ _ args s o t => lw_Q args s o t) := by
  intro p e ha hc hk s m args below hf hfit hheap happ hpre
  obtain ⟨b, xs, hP⟩ := lw_pre_spec hpre.2.2 hpre.2.1
  obtain ⟨k, o, h1, h2, h3, hQ⟩ := lw_walk dd_law l hflags b xs p e ha hc hk s m args below hf ((Spec.applies_iff_loose hf).mp happ).1 hP trivial
  exact ⟨k, o, h1, h2, h3, hQ⟩
theorem lw_frame {s t : State} {o : Outcome} {args : Array Value} (h : Framed s o t [] 601024 7293034) :
    Framed s o t (fieldLocs frame_1_writes args s ++ arrayLocs frame_1_arrays args s ++ staticLocs frame_1_statics s) 601024 7293034 := h
theorem lw_limb (L : Cond) (hL : ∀ (args : Array Value) (s t : State), L.after args s (.returned (some (.int 1))) t = true) :
    ArmFor flags0 classFile x code maxLocals ret World_1 tables_1 room_1 Calls_1 rest_1 Pre_1
      (fun tb e a s o t => postC L tb e a s o t ∧ Framed s o t (fieldLocs frame_1_writes a s ++ arrayLocs frame_1_arrays a s ++ staticLocs frame_1_statics s) 601024 7293034) := by
  intro l hflags _ _ p e ha hc hk s m args below hf hfit hheap happ hpre
  obtain ⟨k, o, h1, h2, h3, rfl, hF⟩ := lw_comes l hflags p e ha hc hk s m args below hf hfit hheap happ hpre
  exact ⟨k, _, h1, h2, h3, hL args s _, lw_frame hF⟩
theorem i_vc : Claimed_1_1 ∧ Claimed_1_2 := ⟨lw_limb limb_1_1 (fun args s t => by simp [limb_1_1, Cond.after, Cond.holds, Cond.value]), lw_limb limb_1_2 (fun args s t => Cond.after_iff.mpr (by
  first | (rw [show limb_1_2 = Cond.eq .result (.int 1) from rfl, Cond.eq_ints (x := 1) (y := 1) rfl rfl]; simp; done) | (simp [limb_1_2, Cond.value, Term.eval]; done)))⟩
