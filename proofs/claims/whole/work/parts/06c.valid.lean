theorem dd_w_mem {p : List Nat} {j : Nat} {w : Cond} (h : dd_w p j w = true) : w ∈ dd_gw := by
  unfold dd_w at h
  simp only [Bool.and_eq_true, decide_eq_true_eq] at h
  exact List.mem_filter.mpr ⟨List.mem_of_getElem? h.1, h.2⟩
def dd_rl : MethodName := ⟨"LostRound$Reader", "readLine", "()Z"⟩
def dd_dcl : List MethodName := [dd_rl, ⟨"java/lang/RuntimeException", "<init>", "(Ljava/lang/String;)V"⟩, ⟨"java/lang/Exception", "<init>", "(Ljava/lang/String;)V"⟩, ⟨"java/lang/Throwable", "<init>", "(Ljava/lang/String;)V"⟩]
def dd_exn (E : Nat) : String := dd_exc.getD E ""
/-- a field that is written: final ones in a constructor of its class -/
def dd_chkP (own nm : String) (i : Instr) (x y z : Nat) : Bool := match i with
  | .putfield _ =>
    if z = 2 then decide (nm = "<init>") && (if x = 20 then decide (((dd_T 3).2.1 y).1 = own) && decide (((dd_T 3).2.1 y).2.2.2 = true) && decide (((dd_T 8).2.1 y).1 = own) && decide (((dd_T 8).2.1 y).2.2.2 = true)
      else decide (((dd_T x).2.1 y).1 = own) && decide (((dd_T x).2.1 y).2.2.2 = true))
    else (if x = 20 then decide (((dd_T 3).2.1 y).2.2.2 = false) && decide (((dd_T 8).2.1 y).2.2.2 = false)
      else decide (((dd_T x).2.1 y).2.2.2 = false))
  | _ => true
/-! WHAT A METHOD'S TABLE MUST BE, for a run of it to be a run of the machine -/
def dd_re (rt : Nat) : Option FieldType := match rt with
  | 0 => none
  | 1 => some .int
  | 2 => some .boolean
  | 3 => some .long
  | 4 => some .byte
  | _ => some .char
def dd_wd (y : Nat) : Cond := match dd_hr y with
  | [] => .code (dd_nm y) (dd_cc y) (dd_mt y).2.1 (dd_re (dd_mt y).2.2.1)
  | h :: t => .codeWith (dd_nm y) (dd_cc y) (dd_mt y).2.1 (dd_re (dd_mt y).2.2.1) (h :: t)
def dd_wsy (y : Nat) : List Cond := dd_wd y :: dd_gw
def dd_par (x : MethodName) : Option Nat := (parseMethodDescriptor x.desc).map (fun d => d.parameters.length)
def dd_clsn (kd : Nat) : String := if kd = 50 then "java/lang/String" else (dd_T kd).1
def dd_icx (E : Nat) : Nat := [130, 140, 159, 194, 289].getD E 0
def dd_sup : List String := ["java/lang/RuntimeException", "java/lang/Exception"]
def dd_okHs (own : String) (cc : ByteArray) (maxL : Nat) : List (Nat × Nat × Nat × Nat) → List (Nat × Nat × Nat × Nat × Nat) → Prop
  | [], [] => True
  | (a, b, h, ct) :: r, (a', b', h', k, E) :: r' => (a' = a ∧ b' = b ∧ ct ≠ 0 ∧ E < 5 ∧ k < maxL ∧ Cond.classLink own ct (dd_exn E) ∈ dd_gw ∧ ((∃ j : Fin 4, decode cc h = .ok (.astore_n j, 1) ∧ (j : Nat) = k ∧ h' = h + 1) ∨ (decode cc h = .ok (.astore k, 2) ∧ h' = h + 2))) ∧ dd_okHs own cc maxL r r'
  | _, _ => False
def dd_okU (own : String) (idx kd cx ny : Nat) : Prop := cx = 999 ∨ (cx < dd_NC ∧ 1 ≤ ny ∧ dd_hr cx = [] ∧ ∃ X : MethodName, Cond.methodLink own idx X ∈ dd_gw ∧ Cond.sameMethod X.cls "LostRound$Reader" X.name X.desc ∈ dd_gw ∧ (dd_nm cx = ⟨"LostRound$Reader", X.name, X.desc⟩ ∨ (⟨"LostRound$Reader", X.name, X.desc⟩ : MethodName) = dd_rl) ∧ Cond.selects (dd_T kd).1 X (dd_nm cx) ∈ dd_gw ∧ Cond.instanceMethod (dd_nm cx) ∈ dd_gw ∧ dd_par X = some (ny - 1))
def dd_okC (own : String) (e : dd_E) : Prop := match e with
  | (_, i, len, x, ny, z, _) => len = 3 ∧ match i with
    | .invokestatic idx => x < dd_NC ∧ Cond.methodLink own idx (dd_nm x) ∈ dd_gw ∧ Cond.static (dd_nm x) ∈ dd_gw ∧ dd_par (dd_nm x) = some ny
    | .invokespecial idx => x < dd_NC ∧ Cond.methodLink own idx (dd_nm x) ∈ dd_gw ∧ Cond.instanceMethod (dd_nm x) ∈ dd_gw ∧ (dd_nm x).name = "<init>" ∧ dd_par (dd_nm x) = some (ny - 1) ∧ 1 ≤ ny ∧ (dd_mt x).2.2.1 = 0 ∧ dd_hr x = []
    | .invokevirtual idx => match z with
      | 0 => x < dd_NC ∧ Cond.methodLink own idx (dd_nm x) ∈ dd_gw ∧ Cond.instanceMethod (dd_nm x) ∈ dd_gw ∧ Cond.selects (dd_nm x).cls (dd_nm x) (dd_nm x) ∈ dd_gw ∧ ((dd_mt x).2.2.2.1 = 50 ∨ (dd_mt x).2.2.2.1 < 11) ∧ dd_clsn (dd_mt x).2.2.2.1 = (dd_nm x).cls ∧ dd_par (dd_nm x) = some (ny - 1) ∧ 1 ≤ ny ∧ dd_hr x = []
      | z' + 1 => dd_okU own idx 3 x ny ∧ dd_okU own idx 8 z' ny
    | _ => False
def dd_okB (own : String) (e : dd_E) : Prop := match e with
  | (_, i, len, x, _, _, _) => len = 3 ∧ match x with
    | 900 => ∃ idx, i = .invokestatic idx ∧ Cond.methodLink own idx arraycopyName ∈ dd_gw ∧ Cond.native arraycopyName ∈ dd_gw ∧ Cond.static arraycopyName ∈ dd_gw ∧ Cond.initialized "java/lang/System" ∈ dd_gw
    | 901 => ∃ idx, i = .invokestatic idx ∧ Cond.methodLink own idx yJ0_checkIndex_df160 ∈ dd_gw ∧ Cond.static yJ0_checkIndex_df160 ∈ dd_gw
    | 902 => ∃ idx, i = .invokespecial idx ∧ Cond.methodLink own idx Lib.objectInit ∈ dd_gw ∧ Cond.instanceMethod Lib.objectInit ∈ dd_gw ∧ Cond.code Lib.objectInit ⟨#[0xb1]⟩ 1 none ∈ dd_gw
    | 903 => ∃ idx, i = .invokestatic idx ∧ Cond.methodLink own idx Lib.Math.abs.name ∈ dd_gw ∧ Cond.static Lib.Math.abs.name ∈ dd_gw ∧ Cond.initialized "java/lang/Math" ∈ dd_gw ∧ Cond.code Lib.Math.abs.name Lib.Math.abs.code 1 (some .int) ∈ dd_gw
    | 904 => ∃ idx, i = .invokestatic idx ∧ Cond.methodLink own idx Lib.Math.max.name ∈ dd_gw ∧ Cond.static Lib.Math.max.name ∈ dd_gw ∧ Cond.initialized "java/lang/Math" ∈ dd_gw ∧ Cond.code Lib.Math.max.name Lib.Math.max.code 2 (some .int) ∈ dd_gw
    | 905 => ∃ idx, i = .invokestatic idx ∧ Cond.methodLink own idx Lib.Math.min.name ∈ dd_gw ∧ Cond.static Lib.Math.min.name ∈ dd_gw ∧ Cond.initialized "java/lang/Math" ∈ dd_gw ∧ Cond.code Lib.Math.min.name Lib.Math.min.code 2 (some .int) ∈ dd_gw
    | _ => False
def dd_okT (own : String) (cc : ByteArray) (e : dd_E) : Prop := match e with
  | (pc, i, len, _, _, z, _) => len = 3 ∧ own = RX10 ∧ z - 1 < 5 ∧ ∃ (ik is : Nat) (wide : Bool) (j : Nat) (t : String × Nat × String), i = .new ik ∧ Cond.classLink own ik (dd_exn (z - 1)) ∈ dd_gw ∧ Cond.initialized (dd_exn (z - 1)) ∈ dd_gw ∧ dd_strs[j]? = some t ∧ t.1 = own ∧ t.2.1 = is ∧ decode cc (pc + 3) = .ok (.dup, 1) ∧
    (if wide = true then decode cc (pc + 4) = .ok (.ldc_w is, 3) ∧ decode cc (pc + 7) = .ok (.invokespecial (dd_icx (z - 1)), 3) ∧ decode cc (pc + 10) = .ok (.athrow, 1) else decode cc (pc + 4) = .ok (.ldc is, 2) ∧ decode cc (pc + 6) = .ok (.invokespecial (dd_icx (z - 1)), 3) ∧ decode cc (pc + 9) = .ok (.athrow, 1))
def dd_okR (i : Instr) (rt : Nat) : Prop := match i with
  | .ireturn => rt = 1 ∨ rt = 2 ∨ rt = 4 ∨ rt = 5
  | .lreturn => rt = 3
  | .return_ => rt = 0
  | _ => False
def dd_okE (y pc : Nat) (e : dd_E) : Prop := e.1 = pc ∧ decode (dd_cc y) pc = .ok (e.2.1, e.2.2.1) ∧ match dd_how e.2.1 e.2.2.2.2.2.1 e.2.2.2.1 with
  | 0 => ∃ pl, dd_chk1 (dd_nm y).cls (dd_mt y).2.1 e pl = true ∧ dd_chkP (dd_nm y).cls (dd_nm y).name e.2.1 e.2.2.2.1 e.2.2.2.2.1 e.2.2.2.2.2.1 = true
  | 1 => e.2.2.1 = 1 ∧ dd_okR e.2.1 (dd_mt y).2.2.1
  | 2 => dd_okC (dd_nm y).cls e
  | 3 => dd_okB (dd_nm y).cls e
  | _ => dd_okT (dd_nm y).cls (dd_cc y) e ∧ dd_hr y = []
def dd_okY (y : Nat) : Prop := plainName (dd_nm y).cls = true ∧ ((dd_nm y).cls ≠ "java/lang/invoke/MethodHandle" ∧ (dd_nm y).cls ≠ "java/lang/invoke/VarHandle") ∧ (y = dd_NC ∨ dd_wd y ∈ dd_gw) ∧ Cond.initialized (dd_nm y).cls ∈ dd_gw ∧ (dd_mt y).2.1 ≤ 41 ∧ dd_okHs (dd_nm y).cls (dd_cc y) (dd_mt y).2.1 (dd_hr y) (dd_mt y).2.2.2.2 ∧ ∀ pc e, (dd_mt y).1 pc = some e → dd_okE y pc e
