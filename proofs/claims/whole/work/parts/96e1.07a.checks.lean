/-! the checker of whole methods -/
def dd_bR (i : Instr) (rt : Nat) : Bool := match i with
  | .ireturn => decide (rt = 1 ∨ rt = 2 ∨ rt = 4 ∨ rt = 5)
  | .lreturn => decide (rt = 3)
  | .return_ => decide (rt = 0)
  | _ => false
/-- the method that a link's word names -/
def dd_lk (p : Nat) : MethodName := match dd_tbl[p]? with
  | some (.methodLink _ _ X) => X
  | _ => dd_rl
def dd_bU (own : String) (idx kd cx ny pl psel : Nat) (pl' : List Nat) : Bool := decide (cx = 999) || (decide (cx < dd_NC) && decide (1 ≤ ny) && decide (dd_hr cx = []) && dd_w pl' 0 (.methodLink own idx (dd_lk pl)) && dd_w pl' 1 (.sameMethod (dd_lk pl).cls "LostRound$Reader" (dd_lk pl).name (dd_lk pl).desc) && decide (dd_nm cx = ⟨"LostRound$Reader", (dd_lk pl).name, (dd_lk pl).desc⟩ ∨ (⟨"LostRound$Reader", (dd_lk pl).name, (dd_lk pl).desc⟩ : MethodName) = dd_rl) && dd_w pl' psel (.selects (dd_T kd).1 (dd_lk pl) (dd_nm cx)) && dd_w pl' (psel + 2) (.instanceMethod (dd_nm cx)) && decide (dd_par (dd_lk pl) = some (ny - 1)))
def dd_bC (own : String) (e : dd_E) (p : List Nat) : Bool := match e with
  | (_, i, len, x, ny, z, _) => decide (len = 3) && match i with
    | .invokestatic idx => decide (x < dd_NC) && dd_w p 0 (.methodLink own idx (dd_nm x)) && dd_w p 1 (.static (dd_nm x)) && decide (dd_par (dd_nm x) = some ny)
    | .invokespecial idx => decide (x < dd_NC) && dd_w p 0 (.methodLink own idx (dd_nm x)) && dd_w p 1 (.instanceMethod (dd_nm x)) && decide ((dd_nm x).name = "<init>") && decide (dd_par (dd_nm x) = some (ny - 1)) && decide (1 ≤ ny) && decide ((dd_mt x).2.2.1 = 0) && decide (dd_hr x = [])
    | .invokevirtual idx => match z with
      | 0 => decide (x < dd_NC) && dd_w p 0 (.methodLink own idx (dd_nm x)) && dd_w p 1 (.instanceMethod (dd_nm x)) && dd_w p 2 (.selects (dd_nm x).cls (dd_nm x) (dd_nm x)) && decide ((dd_mt x).2.2.2.1 = 50 ∨ (dd_mt x).2.2.2.1 < 11) && decide (dd_clsn (dd_mt x).2.2.2.1 = (dd_nm x).cls) && decide (dd_par (dd_nm x) = some (ny - 1)) && decide (1 ≤ ny) && decide (dd_hr x = [])
      | z' + 1 => dd_bU own idx 3 x ny (p.getD 0 0) 2 p && dd_bU own idx 8 z' ny (p.getD 0 0) 3 p
    | _ => false
def dd_bB (own : String) (e : dd_E) (p : List Nat) : Bool := match e with
  | (_, i, len, x, _, _, _) => decide (len = 3) && match x, i with
    | 900, .invokestatic idx => dd_w p 0 (.methodLink own idx arraycopyName) && dd_w p 1 (.native arraycopyName) && dd_w p 2 (.static arraycopyName) && dd_w p 3 (.initialized "java/lang/System")
    | 901, .invokestatic idx => dd_w p 0 (.methodLink own idx yJ0_checkIndex_df160) && dd_w p 1 (.static yJ0_checkIndex_df160)
    | 902, .invokespecial idx => dd_w p 0 (.methodLink own idx Lib.objectInit) && dd_w p 1 (.instanceMethod Lib.objectInit) && dd_w p 2 (.code Lib.objectInit ⟨#[0xb1]⟩ 1 none)
    | 903, .invokestatic idx => dd_w p 0 (.methodLink own idx Lib.Math.abs.name) && dd_w p 1 (.static Lib.Math.abs.name) && dd_w p 2 (.initialized "java/lang/Math") && dd_w p 3 (.code Lib.Math.abs.name Lib.Math.abs.code 1 (some .int))
    | 904, .invokestatic idx => dd_w p 0 (.methodLink own idx Lib.Math.max.name) && dd_w p 1 (.static Lib.Math.max.name) && dd_w p 2 (.initialized "java/lang/Math") && dd_w p 3 (.code Lib.Math.max.name Lib.Math.max.code 2 (some .int))
    | 905, .invokestatic idx => dd_w p 0 (.methodLink own idx Lib.Math.min.name) && dd_w p 1 (.static Lib.Math.min.name) && dd_w p 2 (.initialized "java/lang/Math") && dd_w p 3 (.code Lib.Math.min.name Lib.Math.min.code 2 (some .int))
    | _, _ => false
/-- places: the class's word, its initialized; then the text's index, its place in the list of texts, 1 where it is wide -/
def dd_bT (own : String) (cc : ByteArray) (e : dd_E) (p : List Nat) : Bool := match e with
  | (pc, i, len, _, _, z, _) => match i with
    | .new ik => decide (len = 3) && decide (own = RX10) && decide (z - 1 < 5) && dd_w p 0 (.classLink own ik (dd_exn (z - 1))) && dd_w p 1 (.initialized (dd_exn (z - 1))) && decide ((dd_strs[p.getD 3 0]?).map (fun t => (t.1, t.2.1)) = some (own, p.getD 2 0)) && decide (decode cc (pc + 3) = .ok (.dup, 1)) && (if p.getD 4 0 = 1 then decide (decode cc (pc + 4) = .ok (.ldc_w (p.getD 2 0), 3)) && decide (decode cc (pc + 7) = .ok (.invokespecial (dd_icx (z - 1)), 3)) && decide (decode cc (pc + 10) = .ok (.athrow, 1)) else decide (decode cc (pc + 4) = .ok (.ldc (p.getD 2 0), 2)) && decide (decode cc (pc + 6) = .ok (.invokespecial (dd_icx (z - 1)), 3)) && decide (decode cc (pc + 9) = .ok (.athrow, 1)))
    | _ => false
def dd_bE (y : Nat) (e : dd_E) (p : List Nat) : Bool := decide (decode (dd_cc y) e.1 = .ok (e.2.1, e.2.2.1)) && match dd_how e.2.1 e.2.2.2.2.2.1 e.2.2.2.1 with
  | 0 => dd_chk1 (dd_nm y).cls (dd_mt y).2.1 e p && dd_chkP (dd_nm y).cls (dd_nm y).name e.2.1 e.2.2.2.1 e.2.2.2.2.1 e.2.2.2.2.2.1
  | 1 => decide (e.2.2.1 = 1) && dd_bR e.2.1 (dd_mt y).2.2.1
  | 2 => dd_bC (dd_nm y).cls e p
  | 3 => dd_bB (dd_nm y).cls e p
  | _ => dd_bT (dd_nm y).cls (dd_cc y) e p && decide (dd_hr y = [])
def dd_bLs (y : Nat) : List dd_E → List (List Nat) → Bool
  | [], [] => true
  | e :: r, p :: q => dd_bE y e p && dd_bLs y r q
  | _, _ => false
theorem dd_w_mem2 {p : List Nat} {j : Nat} {w : Cond} (h : dd_w p j w = true) : w ∈ dd_gw := dd_w_mem h
theorem dd_bR_ok {i : Instr} {rt : Nat} (h : dd_bR i rt = true) : dd_okR i rt := by
  unfold dd_bR at h
  unfold dd_okR
  split at h
  · exact of_decide_eq_true h
  · exact of_decide_eq_true h
  · exact of_decide_eq_true h
  · cases h
theorem dd_bU_ok {own : String} {idx kd cx ny pl psel : Nat} {p : List Nat} (h : dd_bU own idx kd cx ny pl psel p = true) : dd_okU own idx kd cx ny := by
  unfold dd_bU at h
  simp only [Bool.or_eq_true, Bool.and_eq_true, decide_eq_true_eq] at h
  rcases h with h | ⟨⟨⟨⟨⟨⟨⟨⟨h1, h2⟩, h3⟩, h4⟩, h5⟩, h6⟩, h7⟩, h8⟩, h9⟩
  · exact Or.inl h
  · exact Or.inr ⟨h1, h2, h3, dd_lk pl, dd_w_mem h4, dd_w_mem h5, h6, dd_w_mem h7, dd_w_mem h8, h9⟩
theorem dd_bC_ok {own : String} {e : dd_E} {p : List Nat} (h : dd_bC own e p = true) : dd_okC own e := by
  obtain ⟨pc, i, len, x, ny, z, k⟩ := e
  unfold dd_bC at h
  simp only [Bool.and_eq_true, decide_eq_true_eq] at h
  refine ⟨h.1, ?_⟩
  have h := h.2
  split at h
  · simp only [Bool.and_eq_true, decide_eq_true_eq] at h
    obtain ⟨⟨⟨h1, h2⟩, h3⟩, h4⟩ := h
    exact ⟨h1, dd_w_mem h2, dd_w_mem h3, h4⟩
  · simp only [Bool.and_eq_true, decide_eq_true_eq] at h
    obtain ⟨⟨⟨⟨⟨⟨⟨h1, h2⟩, h3⟩, h4⟩, h5⟩, h6⟩, h7⟩, h8⟩ := h
    exact ⟨h1, dd_w_mem h2, dd_w_mem h3, h4, h5, h6, h7, h8⟩
  · split at h
    · simp only [Bool.and_eq_true, decide_eq_true_eq] at h
      obtain ⟨⟨⟨⟨⟨⟨⟨⟨h1, h2⟩, h3⟩, h4⟩, h5⟩, h6⟩, h7⟩, h8⟩, h9⟩ := h
      exact ⟨h1, dd_w_mem h2, dd_w_mem h3, dd_w_mem h4, h5, h6, h7, h8, h9⟩
    · simp only [Bool.and_eq_true] at h
      exact ⟨dd_bU_ok h.1, dd_bU_ok h.2⟩
  · cases h
theorem dd_bB_ok {own : String} {e : dd_E} {p : List Nat} (h : dd_bB own e p = true) : dd_okB own e := by
  obtain ⟨pc, i, len, x, ny, z, k⟩ := e
  unfold dd_bB at h
  simp only [Bool.and_eq_true, decide_eq_true_eq] at h
  refine ⟨h.1, ?_⟩
  have h := h.2
  split at h
  · simp only [Bool.and_eq_true] at h
    exact ⟨_, rfl, dd_w_mem h.1.1.1, dd_w_mem h.1.1.2, dd_w_mem h.1.2, dd_w_mem h.2⟩
  · simp only [Bool.and_eq_true] at h
    exact ⟨_, rfl, dd_w_mem h.1, dd_w_mem h.2⟩
  · simp only [Bool.and_eq_true] at h
    exact ⟨_, rfl, dd_w_mem h.1.1, dd_w_mem h.1.2, dd_w_mem h.2⟩
  · simp only [Bool.and_eq_true] at h
    exact ⟨_, rfl, dd_w_mem h.1.1.1, dd_w_mem h.1.1.2, dd_w_mem h.1.2, dd_w_mem h.2⟩
  · simp only [Bool.and_eq_true] at h
    exact ⟨_, rfl, dd_w_mem h.1.1.1, dd_w_mem h.1.1.2, dd_w_mem h.1.2, dd_w_mem h.2⟩
  · simp only [Bool.and_eq_true] at h
    exact ⟨_, rfl, dd_w_mem h.1.1.1, dd_w_mem h.1.1.2, dd_w_mem h.1.2, dd_w_mem h.2⟩
  · cases h
theorem dd_bT_ok {own : String} {cc : ByteArray} {e : dd_E} {p : List Nat} (h : dd_bT own cc e p = true) : dd_okT own cc e := by
  obtain ⟨pc, i, len, x, ny, z, k⟩ := e
  unfold dd_bT at h
  simp only at h
  split at h
  · rename_i ik
    simp only [Bool.and_eq_true, decide_eq_true_eq] at h
    obtain ⟨⟨⟨⟨⟨⟨⟨h1, h2⟩, h3⟩, h4⟩, h5⟩, h6⟩, h7⟩, h8⟩ := h
    obtain ⟨t, ht, ht2⟩ := Option.map_eq_some_iff.mp h6
    obtain ⟨q1, q2⟩ := Prod.mk.inj ht2
    refine ⟨h1, h2, h3, ik, p.getD 2 0, decide (p.getD 4 0 = 1), p.getD 3 0, t, rfl, dd_w_mem h4, dd_w_mem h5, ht, q1, q2, h7, ?_⟩
    by_cases hw : p.getD 4 0 = 1
    · rw [if_pos hw] at h8
      rw [if_pos (by rw [hw]; rfl)]
      simp only [Bool.and_eq_true, decide_eq_true_eq] at h8
      exact ⟨h8.1.1, h8.1.2, h8.2⟩
    · rw [if_neg hw] at h8
      rw [if_neg (by simpa using hw)]
      simp only [Bool.and_eq_true, decide_eq_true_eq] at h8
      exact ⟨h8.1.1, h8.1.2, h8.2⟩
  · cases h
theorem dd_bE_ok {y : Nat} {e : dd_E} {p : List Nat} (h : dd_bE y e p = true) : dd_okE y e.1 e := by
  unfold dd_bE at h
  simp only [Bool.and_eq_true, decide_eq_true_eq] at h
  refine ⟨rfl, h.1, ?_⟩
  have h := h.2
  revert h
  generalize dd_how e.2.1 e.2.2.2.2.2.1 e.2.2.2.1 = w
  intro h
  match w, h with
  | 0, h =>
    simp only [Bool.and_eq_true] at h
    exact ⟨p, h.1, h.2⟩
  | 1, h =>
    simp only [Bool.and_eq_true, decide_eq_true_eq] at h
    exact ⟨h.1, dd_bR_ok h.2⟩
  | 2, h => exact dd_bC_ok h
  | 3, h => exact dd_bB_ok h
  | n + 4, h =>
    simp only [Bool.and_eq_true, decide_eq_true_eq] at h
    exact ⟨dd_bT_ok h.1, h.2⟩
theorem dd_bL_ok {y : Nat} : ∀ (l : List dd_E) (q : List (List Nat)), dd_bLs y l q = true → ∀ e ∈ l, dd_okE y e.1 e := by
  intro l
  induction l with
  | nil => intro q h e he; cases he
  | cons a r ih =>
    intro q h e he
    cases q with
    | nil => simp [dd_bLs] at h
    | cons p q =>
      simp only [dd_bLs, Bool.and_eq_true] at h
      rcases List.mem_cons.mp he with rfl | he
      · exact dd_bE_ok h.1
      · exact ih q h.2 e he
theorem dd_at_mem : ∀ (l : List dd_E) (pc : Nat) (e : dd_E), dd_at l pc = some e → e.1 = pc ∧ e ∈ l := by
  intro l
  induction l with
  | nil => intro pc e h; simp [dd_at] at h
  | cons a r ih =>
    intro pc e h
    rw [dd_at] at h
    split at h
    · rename_i hq
      cases h
      exact ⟨Nat.eq_of_beq_eq_true hq, List.mem_cons_self⟩
    · obtain ⟨h1, h2⟩ := ih pc e h
      exact ⟨h1, List.mem_cons_of_mem _ h2⟩
theorem dd_at_ok {y : Nat} {l : List dd_E} {q : List (List Nat)} (h : dd_bLs y l q = true) {pc : Nat} {e : dd_E} (he : dd_at l pc = some e) : dd_okE y pc e := by
  obtain ⟨h1, h2⟩ := dd_at_mem l pc e he
  rw [← h1]
  exact dd_bL_ok l q h e h2
