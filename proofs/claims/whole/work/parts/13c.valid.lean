/-! WHAT A METHOD'S TABLE MUST BE, for a run of it to be a run of the machine -/
def dd_re (rt : Nat) : Option FieldType := match rt with
  | 0 => none
  | 1 => some .int
  | 2 => some .boolean
  | 3 => some .long
  | 4 => some .byte
  | _ => some .char
def dd_wd (y : Nat) : Cond := match dd_hr y with
  | [] => .code (dd_nm y) (dd_cc y) (dd_mt y).2.1 (dd_re (dd_mt y).2.2.1)
  | h :: t => .codeWith (dd_nm y) (dd_cc y) (dd_mt y).2.1 (dd_re (dd_mt y).2.2.1) (h :: t)
def dd_wsy (y : Nat) : List Cond := dd_wd y :: dd_gw
def dd_par (x : MethodName) : Option Nat := (parseMethodDescriptor x.desc).map (fun d => d.parameters.length)
def dd_clsn (kd : Nat) : String := if kd = 50 then "java/lang/String" else (dd_T kd).1
def dd_icx (E : Nat) : Nat := [130, 140, 159, 194, 289].getD E 0
def dd_sup : List String := ["java/lang/RuntimeException", "java/lang/Exception"]
def dd_okHs (own : String) (cc : ByteArray) (maxL : Nat) : List (Nat × Nat × Nat × Nat) → List (Nat × Nat × Nat × Nat × Nat) → Prop
  | [], [] => True
  | (a, b, h, ct) :: r, (a', b', h', k, E) :: r' => (a' = a ∧ b' = b ∧ ct ≠ 0 ∧ E < 5 ∧ k < maxL ∧ Cond.classLink own ct (dd_exn E) ∈ dd_gw ∧ ((∃ j : Fin 4, decode cc h = .ok (.astore_n j, 1) ∧ (j : Nat) = k ∧ h' = h + 1) ∨ (decode cc h = .ok (.astore k, 2) ∧ h' = h + 2))) ∧ dd_okHs own cc maxL r r'
  | _, _ => False
/-- the law itself is called by nobody -/
abbrev dd_NC : Nat := 398
def dd_okU (own : String) (idx kd cx ny : Nat) : Prop := cx = 999 ∨ (cx < dd_NC ∧ 1 ≤ ny ∧ dd_hr cx = [] ∧ ∃ X : MethodName, Cond.methodLink own idx X ∈ dd_gw ∧ Cond.sameMethod X.cls "LostRound$Reader" X.name X.desc ∈ dd_gw ∧ (dd_nm cx = ⟨"LostRound$Reader", X.name, X.desc⟩ ∨ (⟨"LostRound$Reader", X.name, X.desc⟩ : MethodName) = dd_rl) ∧ Cond.selects (dd_T kd).1 X (dd_nm cx) ∈ dd_gw ∧ Cond.instanceMethod (dd_nm cx) ∈ dd_gw ∧ dd_par X = some (ny - 1))
def dd_okC (own : String) (e : dd_E) : Prop := match e with
  | (_, i, len, x, ny, z, _) => len = 3 ∧ match i with
    | .invokestatic idx => x < dd_NC ∧ Cond.methodLink own idx (dd_nm x) ∈ dd_gw ∧ Cond.static (dd_nm x) ∈ dd_gw ∧ dd_par (dd_nm x) = some ny
    | .invokespecial idx => x < dd_NC ∧ Cond.methodLink own idx (dd_nm x) ∈ dd_gw ∧ Cond.instanceMethod (dd_nm x) ∈ dd_gw ∧ (dd_nm x).name = "<init>" ∧ dd_par (dd_nm x) = some (ny - 1) ∧ 1 ≤ ny ∧ (dd_mt x).2.2.1 = 0 ∧ dd_hr x = []
    | .invokevirtual idx => match z with
      | 0 => x < dd_NC ∧ Cond.methodLink own idx (dd_nm x) ∈ dd_gw ∧ Cond.instanceMethod (dd_nm x) ∈ dd_gw ∧ Cond.selects (dd_nm x).cls (dd_nm x) (dd_nm x) ∈ dd_gw ∧ ((dd_mt x).2.2.2.1 = 50 ∨ (dd_mt x).2.2.2.1 < 11) ∧ dd_clsn (dd_mt x).2.2.2.1 = (dd_nm x).cls ∧ dd_par (dd_nm x) = some (ny - 1) ∧ 1 ≤ ny ∧ dd_hr x = []
      | z' + 1 => dd_okU own idx 3 x ny ∧ dd_okU own idx 8 z' ny
    | _ => False
def dd_okB (own : String) (e : dd_E) : Prop := match e with
  | (_, i, len, x, _, _, _) => len = 3 ∧ match x with
    | 900 => ∃ idx, i = .invokestatic idx ∧ Cond.methodLink own idx arraycopyName ∈ dd_gw ∧ Cond.native arraycopyName ∈ dd_gw ∧ Cond.static arraycopyName ∈ dd_gw ∧ Cond.initialized "java/lang/System" ∈ dd_gw
    | 901 => ∃ idx, i = .invokestatic idx ∧ Cond.methodLink own idx yJ0_checkIndex_df160 ∈ dd_gw ∧ Cond.static yJ0_checkIndex_df160 ∈ dd_gw
    | 902 => ∃ idx, i = .invokespecial idx ∧ Cond.methodLink own idx Lib.objectInit ∈ dd_gw ∧ Cond.instanceMethod Lib.objectInit ∈ dd_gw ∧ Cond.code Lib.objectInit ⟨#[0xb1]⟩ 1 none ∈ dd_gw
    | _ => False
def dd_okT (own : String) (cc : ByteArray) (e : dd_E) : Prop := match e with
  | (pc, i, len, _, _, z, _) => len = 3 ∧ own = RX10 ∧ z - 1 < 5 ∧ ∃ (ik is : Nat) (wide : Bool) (j : Nat) (t : String × Nat × String), i = .new ik ∧ Cond.classLink own ik (dd_exn (z - 1)) ∈ dd_gw ∧ Cond.initialized (dd_exn (z - 1)) ∈ dd_gw ∧ dd_strs[j]? = some t ∧ t.1 = own ∧ t.2.1 = is ∧ decode cc (pc + 3) = .ok (.dup, 1) ∧
    (if wide = true then decode cc (pc + 4) = .ok (.ldc_w is, 3) ∧ decode cc (pc + 7) = .ok (.invokespecial (dd_icx (z - 1)), 3) ∧ decode cc (pc + 10) = .ok (.athrow, 1) else decode cc (pc + 4) = .ok (.ldc is, 2) ∧ decode cc (pc + 6) = .ok (.invokespecial (dd_icx (z - 1)), 3) ∧ decode cc (pc + 9) = .ok (.athrow, 1))
def dd_okR (i : Instr) (rt : Nat) : Prop := match i with
  | .ireturn => rt = 1 ∨ rt = 2 ∨ rt = 4 ∨ rt = 5
  | .lreturn => rt = 3
  | .return_ => rt = 0
  | _ => False
def dd_okE (y pc : Nat) (e : dd_E) : Prop := e.1 = pc ∧ decode (dd_cc y) pc = .ok (e.2.1, e.2.2.1) ∧ match dd_how e.2.1 e.2.2.2.2.2.1 e.2.2.2.1 with
  | 0 => ∃ pl, dd_chk1 (dd_nm y).cls (dd_mt y).2.1 e pl = true ∧ dd_chkP (dd_nm y).cls (dd_nm y).name e.2.1 e.2.2.2.1 e.2.2.2.2.1 e.2.2.2.2.2.1 = true
  | 1 => e.2.2.1 = 1 ∧ dd_okR e.2.1 (dd_mt y).2.2.1
  | 2 => dd_okC (dd_nm y).cls e
  | 3 => dd_okB (dd_nm y).cls e
  | _ => dd_okT (dd_nm y).cls (dd_cc y) e ∧ dd_hr y = []
def dd_okY (y : Nat) : Prop := plainName (dd_nm y).cls = true ∧ ((dd_nm y).cls ≠ "java/lang/invoke/MethodHandle" ∧ (dd_nm y).cls ≠ "java/lang/invoke/VarHandle") ∧ (y = 398 ∨ dd_wd y ∈ dd_gw) ∧ Cond.initialized (dd_nm y).cls ∈ dd_gw ∧ (dd_mt y).2.1 ≤ 41 ∧ dd_okHs (dd_nm y).cls (dd_cc y) (dd_mt y).2.1 (dd_hr y) (dd_mt y).2.2.2.2 ∧ ∀ pc e, (dd_mt y).1 pc = some e → dd_okE y pc e
/-- the words of the five throws -/
theorem dd_atS : ∀ E, E < 5 → E ≠ 3 → ∀ w ∈ vx_atS RX10 (dd_icx E) (dd_exn E) dd_sup, w ∈ dd_gw ∨ w = .castable (dd_exn E) (dd_exn E) ∨ ∃ x ∈ dd_dcl, w = .declares x := by decide +kernel
theorem dd_atG : ∀ E, E < 5 → ∀ w ∈ vx_atS RX10 (dd_icx E) (dd_exn E) dd_sup, vx_ot w = true := by decide +kernel
theorem dd_fitE : ∀ E, E < 5 → Bundle.fit (dd_exn E) = true := by decide +kernel
theorem dd_fitS : ∀ n ∈ dd_sup, Bundle.fit n = true := by decide +kernel
/-- 'throw new E("text")' goes out of the method -/
def dd_ThrOK (E : Nat) : Prop := ∀ (p : Program) (l : Launch) (e : Env) (R : Room) (s : State) (m : MethodId) (args : Array Value) (below : List Frame) (meth : Method) (c : Code) (cc : ByteArray) (H : Heap) (locs : List Loc) (cells slots : Nat) (A : Nat → Prop) (Qc : Array Value → State → Outcome → State → Prop) (XC : String → State → State → Prop) (mc ms : Nat) (free : Addr → Prop) (ls : Array Slot) (rest : List Value) (pc ik is : Nat) (wide : Bool) (text : String) (sa : Nat),
  p.tables.exec = Jvm.exec → c.code = cc → l.stackTraces = false → s.vm.findClass RX10 = some m.cls → (∀ w ∈ dd_gw, w.before args s = true) → (∀ i, i < 5 → va_Nw (.castable (dd_exn i) (dd_exn i)) s) → (∀ x, x ∈ dd_dcl → va_Nw (.declares x) s) → Cond.classLink RX10 ik (dd_exn E) ∈ dd_gw → Cond.initialized (dd_exn E) ∈ dd_gw → vk_R RX10 is text sa s → vx_Zq Bundle.tN "UNASSIGNED_STACK" Bundle.steD A s s.heap → vx_Zq Bundle.tN "SUPPRESSED_SENTINEL" Bundle.listD A s s.heap → va_S A s.heap H locs → ls.size = c.maxLocals →
  decode cc pc = .ok (.new ik, 3) → decode cc (pc + 3) = .ok (.dup, 1) → (if wide = true then decode cc (pc + 4) = .ok (.ldc_w is, 3) ∧ decode cc (pc + 7) = .ok (.invokespecial (dd_icx E), 3) ∧ decode cc (pc + 10) = .ok (.athrow, 1) else decode cc (pc + 4) = .ok (.ldc is, 2) ∧ decode cc (pc + 6) = .ok (.invokespecial (dd_icx E), 3) ∧ decode cc (pc + 9) = .ok (.athrow, 1)) →
  c.exceptionTable.toList = [] → 12 ≤ R.frames → 720 ≤ R.locals → (rest.map fun v => v.category).sum ≤ 8 → cells + 1 ≤ R.cells → slots + 6 ≤ R.slots → meth.locks = false → (∀ t : State, s.vm.Alike t.vm → H.size ≤ t.heap.size → (∀ q : Nat, q < H.size → t.heap[q]? = H[q]?) → XC (dd_exn E) s t) → (∀ z ∈ locs, free z.base) → cells + 1 ≤ mc → slots + 6 ≤ ms → W p l e R s m args below meth c H locs cells slots (vx_MQ below Qc XC args s mc ms free) (F0 m pc ls rest)
theorem dd_thr_ok {E : Nat} (hE : E < 5) (h3 : E ≠ 3) : dd_ThrOK E := by
  intro p l e R s m args below meth c cc H locs cells slots A Qc XC mc ms free ls rest pc ik is wide text sa hx hb hl hown hts hcas hdcl hk hini hstr hU hN hS hsz d0 d3 dd ht hfr hlo hcat hc1 hs1 hlk hxx hf hc hs
  have hat : ∀ w ∈ vx_atS RX10 (dd_icx E) (dd_exn E) dd_sup, w.before args s = true := by
    intro w hw
    rcases dd_atS E hE h3 w hw with h | h | ⟨x, hx2, h⟩
    · exact hts w h
    · rw [h]; exact (hcas E hE).use rfl
    · rw [h]; exact (hdcl x hx2).use rfl
  have hgd : ∀ w ∈ Cond.classLink RX10 ik (dd_exn E) :: Cond.initialized (dd_exn E) :: vx_atS RX10 (dd_icx E) (dd_exn E) dd_sup, vx_ot w = true := by
    intro w hw
    rcases List.mem_cons.mp hw with h | hw
    · rw [h]; rfl
    · rcases List.mem_cons.mp hw with h | hw
      · rw [h]; rfl
      · exact dd_atG E hE w hw
  have hout : ∀ q, ∀ x ∈ c.exceptionTable.toList, covers x q = false := by rw [ht]; intro q x hx; cases hx
  have hn : dd_sup.length = 2 := rfl
  cases wide with
  | false =>
    simp only [Bool.false_eq_true, if_false] at dd
    exact vx_throwS hx hb hl hown (dd_fitE E hE) dd_fitS (hts _ hk) (hts _ hini) hstr hat hgd hU hN hS hsz d0 d3 dd.1 dd.2.1 dd.2.2 (hout _) (by omega) (by omega) hc1 hs1 hlk hxx hf hc hs
  | true =>
    simp only [if_true] at dd
    exact vx_throwSW hx hb hl hown (dd_fitE E hE) dd_fitS (hts _ hk) (hts _ hini) hstr hat hgd hU hN hS hsz d0 d3 dd.1 dd.2.1 dd.2.2 (hout _) (by omega) (by omega) hc1 hs1 hlk hxx hf hc hs
theorem dd_gw_good : GoodIn dd_gw dd_gw := fun w hw => ⟨hw, good_of_word (List.mem_filter.mp hw).2⟩
theorem dd_gw_y {y : Nat} (h : dd_wd y ∈ dd_gw) : GoodIn dd_gw (dd_wsy y) := fun w hw => (List.mem_cons.mp hw).elim (fun e => e ▸ dd_gw_good _ h) (fun q => dd_gw_good w q)
/-- references that stay -/
theorem dd_okv_mapE {n : Nat} {ad ad' : Nat → Nat} (ha : ∀ k, k < n ∨ 1000000 ≤ k → ad' k = ad k) : ∀ (st : List Value), dd_okv n st = true → st.map (dd_cv ad') = st.map (dd_cv ad) := by
  intro st
  induction st with
  | nil => intro _; rfl
  | cons v r ih =>
    intro h
    cases v with
    | ref k =>
      simp only [dd_okv, Bool.and_eq_true, Bool.or_eq_true] at h
      simp only [List.map_cons, dd_cv]
      rw [ih h.2, ha k (h.1.elim (fun q => Or.inl (Nat.le_of_ble_eq_true q)) (fun q => Or.inr (Nat.le_of_ble_eq_true q)))]
    | _ =>
      simp only [dd_okv] at h
      simp only [List.map_cons, dd_cv]
      rw [ih h]
theorem dd_okv_lvE {n : Nat} {ad ad' : Nat → Nat} (ha : ∀ k, k < n ∨ 1000000 ≤ k → ad' k = ad k) : ∀ (ls : List Value) (i : Nat), dd_okv n ls = true → dd_lv ad' i ls = dd_lv ad i ls := by
  intro ls
  induction ls with
  | nil => intro i _; rfl
  | cons v r ih =>
    intro i h
    cases v with
    | ref k =>
      simp only [dd_okv, Bool.and_eq_true, Bool.or_eq_true] at h
      simp only [dd_lv, dd_cv]
      rw [ih (i + 1) h.2, ha k (h.1.elim (fun q => Or.inl (Nat.le_of_ble_eq_true q)) (fun q => Or.inr (Nat.le_of_ble_eq_true q)))]
    | _ =>
      simp only [dd_okv] at h
      simp only [dd_lv, dd_cv]
      rw [ih (i + 1) h]
theorem dd_rt_v {rt : Nat} {st : List Value} {M : dd_M} {o : dd_O} (h : dd_rt rt st M = some o) : o.2.1 = .null ∨ (∃ v, o.2.1 = .int v) ∨ ∃ v, o.2.1 = .long v := by
  unfold dd_rt at h
  (repeat' split at h) <;> cases h <;> first | exact Or.inl rfl | exact Or.inr (Or.inl ⟨_, rfl⟩) | exact Or.inr (Or.inr ⟨_, rfl⟩)
theorem dd_run_v (mt : Nat → dd_I) : ∀ (n d y : Nat) (cf : dd_C) (o : dd_O), dd_run mt n d y cf = some o → o.1 = none → o.2.1 = .null ∨ (∃ v, o.2.1 = .int v) ∨ ∃ v, o.2.1 = .long v := by
  intro n
  induction n with
  | zero => intro d y cf o h; simp [dd_run] at h
  | succ n ih =>
    intro d y cf o h ho
    obtain ⟨pc, ls, st, M⟩ := cf
    rw [dd_run] at h
    split at h
    · cases h
    · split at h
      · split at h
        · cases h
        · exact ih _ _ _ _ h ho
      · exact dd_rt_v h
      · split at h
        · cases h
        · split at h
          · cases h
          · split at h
            · cases h
            · split at h
              · exact ih _ _ _ _ h ho
              · cases h
            · split at h
              · cases h
              · split at h
                · split at h
                  · cases h
                    cases ho
                  · cases h
                · split at h
                  · exact ih _ _ _ _ h ho
                  · cases h
      · split at h
        · split at h
          · cases h
          · exact ih _ _ _ _ h ho
        · cases h
      · split at h
        · cases h
          cases ho
        · cases h
