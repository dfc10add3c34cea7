/-! String.checkIndex for an index inside -/
theorem dd_pc_ci (l : Launch) (i n : Int32) (v : Value) (hv : v = .null ∨ ∃ q, v = .ref q) (h0 : 0 ≤ i) (h1 : i < n) : Met l yJ3_checkIndex_8e157 [Cond.code yJ3_checkIndex_8e157 cJ3_checkIndex_8e157 3 (some .int)] { frames := 0, cells := 0, slots := 0, locals := 0 } (va_Pc [.int i, .int n, v] (fun _ => True)) (fun _ st oc t => oc = .returned (some (.int i)) ∧ t.heap = st.heap) 0 0 (fun _ => False) := by
  refine Met.ofW (cc := cJ3_checkIndex_8e157) (maxL := 3) (ret := some .int) (by decide) rfl ?_
  intro p e s m args below meth c s₁ B hml hP
  obtain ⟨rfl, -⟩ := hP
  have hx := B.exec
  have hb := B.bytes
  have hr := B.returns
  have hlocks := B.notSynchronized
  have hlen : (lg_sl [.int i, .int n, v]).length ≤ 3 := by
    rcases hv with rfl | ⟨q, rfl⟩ <;> exact Nat.le_refl 3
  have hl := lv_entry ([.int i, .int n, v]) (n := 3) hlen
  rw [lg_entry_eq]
  generalize (lg_sl ([.int i, .int n, v]) ++ List.replicate (3 - (lg_sl ([.int i, .int n, v])).length) Slot.unset).toArray = ls at hl ⊢
  have g0 : ls[0]? = some (.val (.int i)) := hl.2.2 (0, .int i) (by simp [lv_args])
  have g1 : ls[1]? = some (.val (.int n)) := hl.2.2 (1, .int n) (by simp [lv_args, Value.category])
  refine lv_iload_n (k := 0) hx hb (show decode cJ3_checkIndex_8e157 0 = .ok (.iload_n 0, 1) by decide +kernel) rfl g0 ?_
  refine lv_if_lt (tgt := 9) hx hb (show decode cJ3_checkIndex_8e157 1 = .ok (.ifCond .lt 8, 3) by decide +kernel) (by decide) (fun h => absurd h (Int32.not_lt.mpr h0)) (fun _ => ?_)
  refine lv_iload_n (k := 0) hx hb (show decode cJ3_checkIndex_8e157 4 = .ok (.iload_n 0, 1) by decide +kernel) rfl g0 ?_
  refine lv_iload_n (k := 1) hx hb (show decode cJ3_checkIndex_8e157 5 = .ok (.iload_n 1, 1) by decide +kernel) rfl g1 ?_
  refine lv_icmp_lt (tgt := 16) hx hb (show decode cJ3_checkIndex_8e157 6 = .ok (.if_icmp .lt 10, 3) by decide +kernel) (by decide) (fun _ => ?_) (fun h => absurd h1 h)
  refine lv_iload_n (k := 0) hx hb (show decode cJ3_checkIndex_8e157 16 = .ok (.iload_n 0, 1) by decide +kernel) rfl g0 ?_
  exact W.iret hx hb hr (fun t ht hW => ⟨rfl, ht⟩) (fun q hq => nomatch hq) (show decode cJ3_checkIndex_8e157 17 = .ok (.ireturn, 1) by decide +kernel)
theorem dd_ciw2 : Cond.fieldLink RJ0 1053 "jdk/internal/util/Preconditions" "SIOOBE_FORMATTER" "Ljava/util/function/BiFunction;" ∈ dd_gw ∧ Cond.methodLink RJ0 1059 yJ3_checkIndex_8e157 ∈ dd_gw ∧ Cond.static yJ3_checkIndex_8e157 ∈ dd_gw ∧ Cond.initialized yJ3_checkIndex_8e157.cls ∈ dd_gw ∧ Cond.code yJ3_checkIndex_8e157 cJ3_checkIndex_8e157 3 (some .int) ∈ dd_gw := by decide +kernel
theorem dd_goInt {p : Program} {l : Launch} {e : Env} {R : Room} {s : State} {m : MethodId} {args : Array Value} {below : List Frame} {meth : Method} {c : Code} {H : Heap} {locs : List Loc} {Q : State → Prop} {cells slots pc : Nat} {ls0 : Array Slot} {st0 rest : List Value} {i : Int32} (hr : va_Run p l e R s m args below meth c H locs cells slots 0 0 (F0 m pc ls0 st0) rest (fun st oc t => oc = .returned (some (.int i)) ∧ t.heap = st.heap) (fun _ => False)) (kk : W p l e R s m args below meth c H locs cells slots Q (F0 m (pc + 3) ls0 (.int i :: rest))) : W p l e R s m args below meth c H locs cells slots Q (F0 m pc ls0 st0) := by
  intro T hT X
  obtain ⟨v, st₀, t, T', L, h0, X', hL, e1, e2, ⟨hv, hh⟩, st⟩ := hr T hT X
  cases hv
  have hL0 : L = [] := List.eq_nil_iff_forall_not_mem.mpr (fun q hq => hL q hq)
  subst hL0
  rw [List.append_nil] at X'
  obtain ⟨t2, a1, b1⟩ := kk T' (by rw [e1, hh, h0]) X'
  exact ⟨t2, st t2 a1, b1⟩
theorem dd_ci (l : Launch) : dd_CI l := by
  intro i n A h0 h1
  refine Met.ofW (cc := cJ0_checkIndex_df160) (maxL := 2) (ret := none) (by decide) rfl ?_
  intro p e s m args below meth c s₁ B hml hP
  obtain ⟨rfl, hZ⟩ := hP
  have hx := B.exec
  have hb := B.bytes
  have hr := B.returns
  have hlocks := B.notSynchronized
  have hts := atoms_spec (ws := Cond.code yJ0_checkIndex_df160 cJ0_checkIndex_df160 2 none :: dd_gw) B.pre
  have hts : ∀ w ∈ dd_gw, w.before #[Value.int i, Value.int n] s = true := fun w hw => hts w (List.mem_cons_of_mem _ hw)
  have hown : s.vm.findClass RJ0 = some m.cls := findClass_of_methodNamed B.named
  have hl := lv_entry ([.int i, .int n]) (n := 2) (Nat.le_refl 2)
  rw [lg_entry_eq]
  generalize (lg_sl ([.int i, .int n]) ++ List.replicate (2 - (lg_sl ([.int i, .int n])).length) Slot.unset).toArray = ls at hl ⊢
  have hl : lv_has ls 2 [(0, .int i), (1, .int n)] := hl
  obtain ⟨w1, w2, w3, w4, w5⟩ := dd_ciw2
  refine lv_iload_n (k := 0) hx hb (show decode cJ0_checkIndex_df160 0 = .ok (.iload_n 0, 1) by decide +kernel) rfl (lv_at hl 0 rfl) ?_
  refine lv_iload_n (k := 1) hx hb (show decode cJ0_checkIndex_df160 1 = .ok (.iload_n 1, 1) by decide +kernel) rfl (lv_at hl 1 rfl) ?_
  have hS : va_S A s.heap s.heap [] := va_S.rf
  have fin : ∀ v : Value, (v = .null ∨ ∃ q, v = .ref q) → va_Z "jdk/internal/util/Preconditions" "SIOOBE_FORMATTER" "Ljava/util/function/BiFunction;" v A s s.heap → W p l e { frames := 2, cells := 0, slots := 0, locals := 60 } s m #[Value.int i, Value.int n] below meth c s.heap [] 0 0 (MQ below (fun _ st oc t => oc = .returned none ∧ t.heap = st.heap) #[Value.int i, Value.int n] s 0 0 (fun _ => False)) (F0 m 2 ls [.int n, .int i]) := by
    intro v hv hZv
    refine va_gets hx hb hZv hS hown (hts _ w1) (fun _ h => h) (show decode cJ0_checkIndex_df160 2 = .ok (.getstatic 1053, 3) by decide +kernel) ?_
    have cb : CallB { frames := 2, cells := 0, slots := 0, locals := 60 } s #[Value.int i, Value.int n] RJ0 1059 yJ3_checkIndex_8e157 cJ3_checkIndex_8e157 3 (some .int) [Cond.code yJ3_checkIndex_8e157 cJ3_checkIndex_8e157 3 (some .int)] { frames := 0, cells := 0, slots := 0, locals := 0 } 0 0 3 :=
      callB_of (Ts := dd_gw) (ws' := []) 3 hts (fun w hw => by
        rcases List.mem_cons.mp hw with rfl | hw
        · exact dd_gw_good _ w5
        · cases hw) rfl rfl rfl (hts _ w4) (hts _ w2) ⟨by decide, by decide, by decide +kernel⟩ ⟨by decide, by decide⟩
    have hbl : FrameBlind (va_Pc [.int i, .int n, v] (fun _ => True)) := fun a U g mk h => ⟨h.1, trivial⟩
    have hr2 := va_runS (l := l) (e := e) (below := below) (meth := meth) (H := s.heap) (locs := []) (cells := 0) (slots := 0) (As := [.int i, .int n, v]) (rest := []) (g := F0 m 5 ls [v, .int n, .int i]) (Ts := dd_gw) (nL := 2) ⟨hx, hb, hml, hown, hts⟩ (dd_pc_ci l i n v hv h0 h1) ⟨cb, hts _ w3⟩ ⟨hbl, fun U hU hW => ⟨rfl, trivial⟩⟩ rfl rfl hl.1 rfl (lv_room (Nat.le_of_ble_eq_true rfl)) (show decode cJ0_checkIndex_df160 5 = .ok (.invokestatic 1059, 3) by decide +kernel) ⟨Nat.le_refl 0, Nat.le_refl 0⟩
    refine dd_goInt hr2 ?_
    refine lv_pop hx hb (show decode cJ0_checkIndex_df160 8 = .ok (.pop, 1) by decide +kernel) rfl ?_
    exact W.vret hx hb hr (fun t ht hW => ⟨rfl, ht⟩) (fun q hq => nomatch hq) (show decode cJ0_checkIndex_df160 9 = .ok (.return_, 1) by decide +kernel)
  rcases hZ with h | ⟨t, h⟩
  · exact fin .null (Or.inl rfl) h
  · exact fin (.ref t) (Or.inr ⟨t, rfl⟩) h
