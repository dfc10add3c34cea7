/-- the words of the five throws -/
theorem dd_atS : ∀ E, E < 5 → E ≠ 3 → ∀ w ∈ vx_atS RX10 (dd_icx E) (dd_exn E) dd_sup, w ∈ dd_gw ∨ w = .castable (dd_exn E) (dd_exn E) ∨ ∃ x ∈ dd_dcl, w = .declares x := by decide +kernel
theorem dd_atG : ∀ E, E < 5 → ∀ w ∈ vx_atS RX10 (dd_icx E) (dd_exn E) dd_sup, vx_ot w = true := by decide +kernel
theorem dd_fitE : ∀ E, E < 5 → Bundle.fit (dd_exn E) = true := by decide +kernel
theorem dd_fitS : ∀ n ∈ dd_sup, Bundle.fit n = true := by decide +kernel
/-- 'throw new E("text")' goes out of the method -/
def dd_ThrOK (E : Nat) : Prop := ∀ (p : Program) (l : Launch) (e : Env) (R : Room) (s : State) (m : MethodId) (args : Array Value) (below : List Frame) (meth : Method) (c : Code) (cc : ByteArray) (H : Heap) (locs : List Loc) (cells slots : Nat) (A : Nat → Prop) (Qc : Array Value → State → Outcome → State → Prop) (XC : String → State → State → Prop) (mc ms : Nat) (free : Addr → Prop) (ls : Array Slot) (rest : List Value) (pc ik is : Nat) (wide : Bool) (text : String) (sa : Nat),
  p.tables.exec = Jvm.exec → c.code = cc → l.stackTraces = false → s.vm.findClass RX10 = some m.cls → (∀ w ∈ dd_gw, w.before args s = true) → (∀ i, i < 5 → va_Nw (.castable (dd_exn i) (dd_exn i)) s) → (∀ x, x ∈ dd_dcl → va_Nw (.declares x) s) → Cond.classLink RX10 ik (dd_exn E) ∈ dd_gw → Cond.initialized (dd_exn E) ∈ dd_gw → vk_R RX10 is text sa s → vx_Zq Bundle.tN "UNASSIGNED_STACK" Bundle.steD A s s.heap → vx_Zq Bundle.tN "SUPPRESSED_SENTINEL" Bundle.listD A s s.heap → va_S A s.heap H locs → ls.size = c.maxLocals →
  decode cc pc = .ok (.new ik, 3) → decode cc (pc + 3) = .ok (.dup, 1) → (if wide = true then decode cc (pc + 4) = .ok (.ldc_w is, 3) ∧ decode cc (pc + 7) = .ok (.invokespecial (dd_icx E), 3) ∧ decode cc (pc + 10) = .ok (.athrow, 1) else decode cc (pc + 4) = .ok (.ldc is, 2) ∧ decode cc (pc + 6) = .ok (.invokespecial (dd_icx E), 3) ∧ decode cc (pc + 9) = .ok (.athrow, 1)) →
  c.exceptionTable.toList = [] → 12 ≤ R.frames → 720 ≤ R.locals → (rest.map fun v => v.category).sum ≤ 8 → cells + 1 ≤ R.cells → slots + 6 ≤ R.slots → meth.locks = false → (∀ t : State, s.vm.Alike t.vm → H.size ≤ t.heap.size → (∀ q : Nat, q < H.size → t.heap[q]? = H[q]?) → XC (dd_exn E) s t) → (∀ z ∈ locs, free z.base) → cells + 1 ≤ mc → slots + 6 ≤ ms → W p l e R s m args below meth c H locs cells slots (vx_MQ below Qc XC args s mc ms free) (F0 m pc ls rest)
theorem dd_thr_ok {E : Nat} (hE : E < 5) (h3 : E ≠ 3) : dd_ThrOK E := by
  intro p l e R s m args below meth c cc H locs cells slots A Qc XC mc ms free ls rest pc ik is wide text sa hx hb hl hown hts hcas hdcl hk hini hstr hU hN hS hsz d0 d3 dd ht hfr hlo hcat hc1 hs1 hlk hxx hf hc hs
  have hat : ∀ w ∈ vx_atS RX10 (dd_icx E) (dd_exn E) dd_sup, w.before args s = true := by
    intro w hw
    rcases dd_atS E hE h3 w hw with h | h | ⟨x, hx2, h⟩
    · exact hts w h
    · rw [h]; exact (hcas E hE).use rfl
    · rw [h]; exact (hdcl x hx2).use rfl
  have hgd : ∀ w ∈ Cond.classLink RX10 ik (dd_exn E) :: Cond.initialized (dd_exn E) :: vx_atS RX10 (dd_icx E) (dd_exn E) dd_sup, vx_ot w = true := by
    intro w hw
    rcases List.mem_cons.mp hw with h | hw
    · rw [h]; rfl
    · rcases List.mem_cons.mp hw with h | hw
      · rw [h]; rfl
      · exact dd_atG E hE w hw
  have hout : ∀ q, ∀ x ∈ c.exceptionTable.toList, covers x q = false := by rw [ht]; intro q x hx; cases hx
  have hn : dd_sup.length = 2 := rfl
  cases wide with
  | false =>
    simp only [Bool.false_eq_true, if_false] at dd
    exact vx_throwS hx hb hl hown (dd_fitE E hE) dd_fitS (hts _ hk) (hts _ hini) hstr hat hgd hU hN hS hsz d0 d3 dd.1 dd.2.1 dd.2.2 (hout _) (by omega) (by omega) hc1 hs1 hlk hxx hf hc hs
  | true =>
    simp only [if_true] at dd
    exact vx_throwSW hx hb hl hown (dd_fitE E hE) dd_fitS (hts _ hk) (hts _ hini) hstr hat hgd hU hN hS hsz d0 d3 dd.1 dd.2.1 dd.2.2 (hout _) (by omega) (by omega) hc1 hs1 hlk hxx hf hc hs
theorem dd_gw_good : GoodIn dd_gw dd_gw := fun w hw => ⟨hw, good_of_word (List.mem_filter.mp hw).2⟩
theorem dd_gw_y {y : Nat} (h : dd_wd y ∈ dd_gw) : GoodIn dd_gw (dd_wsy y) := fun w hw => (List.mem_cons.mp hw).elim (fun e => e ▸ dd_gw_good _ h) (fun q => dd_gw_good w q)
/-- references that stay -/
theorem dd_okv_mapE {n : Nat} {ad ad' : Nat → Nat} (ha : ∀ k, k < n ∨ 1000000 ≤ k → ad' k = ad k) : ∀ (st : List Value), dd_okv n st = true → st.map (dd_cv ad') = st.map (dd_cv ad) := by
  intro st
  induction st with
  | nil => intro _; rfl
  | cons v r ih =>
    intro h
    cases v with
    | ref k =>
      simp only [dd_okv, Bool.and_eq_true, Bool.or_eq_true] at h
      simp only [List.map_cons, dd_cv]
      rw [ih h.2, ha k (h.1.elim (fun q => Or.inl (Nat.le_of_ble_eq_true q)) (fun q => Or.inr (Nat.le_of_ble_eq_true q)))]
    | _ =>
      simp only [dd_okv] at h
      simp only [List.map_cons, dd_cv]
      rw [ih h]
theorem dd_okv_lvE {n : Nat} {ad ad' : Nat → Nat} (ha : ∀ k, k < n ∨ 1000000 ≤ k → ad' k = ad k) : ∀ (ls : List Value) (i : Nat), dd_okv n ls = true → dd_lv ad' i ls = dd_lv ad i ls := by
  intro ls
  induction ls with
  | nil => intro i _; rfl
  | cons v r ih =>
    intro i h
    cases v with
    | ref k =>
      simp only [dd_okv, Bool.and_eq_true, Bool.or_eq_true] at h
      simp only [dd_lv, dd_cv]
      rw [ih (i + 1) h.2, ha k (h.1.elim (fun q => Or.inl (Nat.le_of_ble_eq_true q)) (fun q => Or.inr (Nat.le_of_ble_eq_true q)))]
    | _ =>
      simp only [dd_okv] at h
      simp only [dd_lv, dd_cv]
      rw [ih (i + 1) h]
theorem dd_rt_v {rt : Nat} {st : List Value} {M : dd_M} {o : dd_O} (h : dd_rt rt st M = some o) : o.2.1 = .null ∨ (∃ v, o.2.1 = .int v) ∨ ∃ v, o.2.1 = .long v := by
  unfold dd_rt at h
  (repeat' split at h) <;> cases h <;> first | exact Or.inl rfl | exact Or.inr (Or.inl ⟨_, rfl⟩) | exact Or.inr (Or.inr ⟨_, rfl⟩)
theorem dd_run_v (mt : Nat → dd_I) : ∀ (n d y : Nat) (cf : dd_C) (o : dd_O), dd_run mt n d y cf = some o → o.1 = none → o.2.1 = .null ∨ (∃ v, o.2.1 = .int v) ∨ ∃ v, o.2.1 = .long v := by
  intro n
  induction n with
  | zero => intro d y cf o h; simp [dd_run] at h
  | succ n ih =>
    intro d y cf o h ho
    obtain ⟨pc, ls, st, M⟩ := cf
    rw [dd_run] at h
    split at h
    · cases h
    · split at h
      · split at h
        · cases h
        · exact ih _ _ _ _ h ho
      · exact dd_rt_v h
      · split at h
        · cases h
        · split at h
          · cases h
          · split at h
            · cases h
            · split at h
              · exact ih _ _ _ _ h ho
              · cases h
            · split at h
              · cases h
              · split at h
                · split at h
                  · cases h
                    cases ho
                  · cases h
                · split at h
                  · exact ih _ _ _ _ h ho
                  · cases h
      · split at h
        · split at h
          · cases h
          · exact ih _ _ _ _ h ho
        · cases h
      · split at h
        · cases h
          cases ho
        · cases h
