/-! The world of the small machine in the heap of the large one -/
def dd_cv (ad : Nat → Nat) : Value → Value
  | .ref k => .ref (ad k)
  | v => v
def dd_kn : Value → Bool
  | .int _ => true
  | .long _ => true
  | .ref _ => true
  | _ => false
def dd_lv (ad : Nat → Nat) : Nat → List Value → List (Nat × Value)
  | _, [] => []
  | i, v :: r => if dd_kn v = true then (i, dd_cv ad v) :: dd_lv ad (i + 1) r else dd_lv ad (i + 1) r
theorem dd_lv_mem {ad : Nat → Nat} : ∀ (ls : List Value) (i : Nat) (q : Nat × Value), q ∈ dd_lv ad i ls ↔ ∃ (m : Nat) (v : Value), ls[m]? = some v ∧ dd_kn v = true ∧ q = (i + m, dd_cv ad v) := by
  intro ls
  induction ls with
  | nil => intro i q; simp [dd_lv]
  | cons v r ih =>
    intro i q
    have step : (∃ (m : Nat) (w : Value), (v :: r)[m]? = some w ∧ dd_kn w = true ∧ q = (i + m, dd_cv ad w)) ↔ ((dd_kn v = true ∧ q = (i, dd_cv ad v)) ∨ ∃ (m : Nat) (w : Value), r[m]? = some w ∧ dd_kn w = true ∧ q = (i + 1 + m, dd_cv ad w)) := by
      constructor
      · rintro ⟨m, w, h1, h2, h3⟩
        cases m with
        | zero =>
          simp at h1
          subst h1
          exact Or.inl ⟨h2, h3⟩
        | succ m =>
          simp at h1
          exact Or.inr ⟨m, w, h1, h2, by rw [h3]; congr 1; omega⟩
      · rintro (⟨h1, h2⟩ | ⟨m, w, h1, h2, h3⟩)
        · exact ⟨0, v, by simp, h1, h2⟩
        · exact ⟨m + 1, w, by simpa using h1, h2, by rw [h3]; congr 1; omega⟩
    rw [step]
    by_cases hv : dd_kn v = true
    · rw [dd_lv, if_pos hv, List.mem_cons, ih]
      simp [hv]
    · rw [dd_lv, if_neg hv, ih]
      simp [hv]
abbrev dd_LV (ad : Nat → Nat) (ls : List Value) (nL : Nat) (lsC : Array Slot) : Prop := lv_has lsC nL (dd_lv ad 0 ls)
theorem dd_LV.get {ad : Nat → Nat} {ls : List Value} {nL x : Nat} {lsC : Array Slot} {v : Value} (h : dd_LV ad ls nL lsC) (hx : ls[x]? = some v) (hk : dd_kn v = true) : lsC[x]? = some (.val (dd_cv ad v)) :=
  h.2.2 (x, dd_cv ad v) ((dd_lv_mem ls 0 _).mpr ⟨x, v, hx, hk, by rw [Nat.zero_add]⟩)
theorem dd_cv_cat (ad : Nat → Nat) (v : Value) : (dd_cv ad v).category = v.category := by cases v <;> rfl
theorem dd_s1_get {ls : List Value} {x m : Nat} {v w : Value} (h : (dd_s1 ls x v)[m]? = some w) (hw : dd_kn w = true) : (m = x ∧ w = v) ∨ (m ≠ x ∧ ls[m]? = some w ∧ ¬ (m + 1 = x ∧ w.category = 2)) := by
  by_cases hm : m = x
  · subst hm
    left
    refine ⟨rfl, ?_⟩
    unfold dd_s1 at h
    split at h
    · rw [List.getElem?_set] at h
      split at h
      · split at h
        · exact (Option.some.inj h).symm
        · cases h
      · omega
    · split at h
      all_goals
        rw [List.getElem?_set] at h
        split at h
        · split at h
          · exact (Option.some.inj h).symm
          · cases h
        · omega
  · right
    refine ⟨hm, ?_⟩
    unfold dd_s1 at h
    split at h
    · rw [List.getElem?_set] at h
      split at h
      · omega
      · exact ⟨h, fun q => by omega⟩
    · rename_i j
      have key : ∀ (l : List Value), (l.set (j + 1) v)[m]? = some w → l[m]? = some w := by
        intro l hl
        rw [List.getElem?_set] at hl
        split at hl
        · omega
        · exact hl
      have nul : ∀ (l : List Value), (l.set j .null)[m]? = some w → l[m]? = some w ∧ m ≠ j := by
        intro l hl
        rw [List.getElem?_set] at hl
        split at hl
        · split at hl
          · cases (Option.some.inj hl); exact absurd hw (by decide)
          · cases hl
        · rename_i hq
          exact ⟨hl, fun z => hq z.symm⟩
      split at h
      · obtain ⟨h1, h2⟩ := nul _ (key _ h)
        exact ⟨h1, fun q => h2 (by omega)⟩
      · obtain ⟨h1, h2⟩ := nul _ (key _ h)
        exact ⟨h1, fun q => h2 (by omega)⟩
      · rename_i n1 n2
        have h1 := key _ h
        refine ⟨h1, fun q => ?_⟩
        have hj : m = j := by omega
        subst hj
        cases w with
        | long a => exact n1 a h1
        | double a => exact n2 a h1
        | _ => exact absurd q.2 (by simp [Value.category])
theorem dd_LV.st1 {ad : Nat → Nat} {ls : List Value} {nL x : Nat} {ls' : Array Slot} {v : Value} (h : lv_has ls' nL ((x, dd_cv ad v) :: (dd_lv ad 0 ls).filter (fun q => !(q.1 == x) && !(q.1 + 1 == x && q.2.category == 2)))) : dd_LV ad (dd_s1 ls x v) nL ls' := by
  refine ⟨h.1, h.2.1, fun q hq => h.2.2 q ?_⟩
  obtain ⟨m, w, h1, h2, rfl⟩ := (dd_lv_mem _ 0 q).mp hq
  rw [Nat.zero_add]
  rcases dd_s1_get h1 h2 with ⟨rfl, rfl⟩ | ⟨h3, h4, h5⟩
  · exact List.mem_cons_self
  · refine List.mem_cons_of_mem _ (List.mem_filter.mpr ⟨(dd_lv_mem ls 0 _).mpr ⟨m, w, h4, h2, by rw [Nat.zero_add]⟩, ?_⟩)
    simp [h3, dd_cv_cat]
    exact Classical.not_and_iff_not_or_not.mp h5
theorem dd_LV.st2 {ad : Nat → Nat} {ls : List Value} {nL x : Nat} {ls' : Array Slot} {v : Value} (h : lv_has ls' nL ((x, dd_cv ad v) :: (dd_lv ad 0 ls).filter (fun q => !(q.1 == x) && (!(q.1 == x + 1) && !(q.1 + 1 == x && q.2.category == 2))))) : dd_LV ad (dd_s2 ls x v) nL ls' := by
  refine ⟨h.1, h.2.1, fun q hq => h.2.2 q ?_⟩
  obtain ⟨m, w, h1, h2, rfl⟩ := (dd_lv_mem _ 0 q).mp hq
  rw [Nat.zero_add]
  have h0 : (dd_s1 ls x v)[m]? = some w ∧ m ≠ x + 1 := by
    unfold dd_s2 at h1
    rw [List.getElem?_set] at h1
    split at h1
    · split at h1
      · cases (Option.some.inj h1); exact absurd h2 (by decide)
      · cases h1
    · rename_i hq
      exact ⟨h1, fun z => hq z.symm⟩
  rcases dd_s1_get h0.1 h2 with ⟨rfl, rfl⟩ | ⟨h3, h4, h5⟩
  · exact List.mem_cons_self
  · refine List.mem_cons_of_mem _ (List.mem_filter.mpr ⟨(dd_lv_mem ls 0 _).mpr ⟨m, w, h4, h2, by rw [Nat.zero_add]⟩, ?_⟩)
    simp [h3, h0.2, dd_cv_cat]
    exact Classical.not_and_iff_not_or_not.mp h5
/-- a reference in a field: 0 is null -/
def dd_rv (ad : Nat → Nat) (r : Nat) : Value := match r with
  | 0 => .null
  | r + 1 => .ref (ad (r + 1))
def dd_fv (ad : Nat → Nat) (ci : Nat) (rf : Nat → Nat) (I : Nat → Int32) (L : Nat → Int64) (j : Nat) : Value := match dd_fz ci j with
  | 0 => .int (I j)
  | 1 => .long (L j)
  | 2 => dd_rv ad (rf j)
  | _ => .int (I j)
def dd_ro (ad : Nat → Nat) (r : Nat) : Option Nat := match r with
  | 0 => none
  | r + 1 => some (ad (r + 1))
/-- what a cell holds -/
def dd_ey (ad : Nat → Nat) (cA : ClassId) (kz : Nat × Nat) (rf : Nat → Nat) (I : Nat → Int32) (L : Nat → Int64) : va_E :=
  if kz.1 = 100 ∨ kz.1 = 101 then .inl (cA, kz.2, .inl I)
  else if kz.1 = 102 then .inl (cA, kz.2, .inr (.inl L))
  else if kz.1 = 103 then .inl (cA, kz.2, .inr (.inr (.inr (.inr (fun j => dd_ro ad (rf j))))))
  else .inr (kz.1, (List.range kz.2).map (fun j => dd_fv ad kz.1 rf I L j))
def dd_ws (ad : Nat → Nat) (tA : Nat → ClassId) (M : dd_M) : va_W := (List.range M.1).map (fun k => (ad k, dd_ey ad (tA k) (M.2.1 k) (M.2.2.1 k) (M.2.2.2.1 k) (M.2.2.2.2.1 k)))
theorem dd_ws_at {ad : Nat → Nat} {tA : Nat → ClassId} {M : dd_M} {k : Nat} (h : k < M.1) : (dd_ws ad tA M)[k]? = some (ad k, dd_ey ad (tA k) (M.2.1 k) (M.2.2.1 k) (M.2.2.2.1 k) (M.2.2.2.2.1 k)) := by
  simp [dd_ws, List.getElem?_map, List.getElem?_range h]
theorem dd_u_self {α : Type} (I : Nat → Nat → α) (k : Nat) : dd_u I k (I k) = I := by
  funext a
  unfold dd_u
  split
  · rename_i h; rw [h]
  · rfl
theorem dd_u_at {α : Type} (I : Nat → Nat → α) (k : Nat) (f : Nat → α) : dd_u I k f k = f := by simp [dd_u]
theorem dd_u_ne {α : Type} (I : Nat → Nat → α) {k a : Nat} (f : Nat → α) (h : a ≠ k) : dd_u I k f a = I a := by simp [dd_u, h]
theorem dd_ws_set {ad : Nat → Nat} {tA : Nat → ClassId} {n : Nat} {sh : Nat → Nat × Nat} {rf : Nat → Nat → Nat} {I : Nat → Nat → Int32} {L : Nat → Nat → Int64} {c s k : Nat} {r1 : Nat → Nat} {I1 : Nat → Int32} {L1 : Nat → Int64} {e : va_E} (he : e = dd_ey ad (tA k) (sh k) r1 I1 L1) : (dd_ws ad tA (n, sh, rf, I, L, c, s)).set k (ad k, e) = dd_ws ad tA (n, sh, dd_u rf k r1, dd_u I k I1, dd_u L k L1, c, s) := by
  apply List.ext_getElem?
  intro j
  rw [List.getElem?_set]
  by_cases hj : j < n
  · rw [dd_ws_at (M := (n, sh, dd_u rf k r1, dd_u I k I1, dd_u L k L1, c, s)) hj]
    by_cases hk : k = j
    · subst hk
      rw [if_pos rfl, if_pos (by simp [dd_ws]; exact hj), he]
      simp [dd_u_at]
    · rw [if_neg hk, dd_ws_at (M := (n, sh, rf, I, L, c, s)) hj]
      simp [dd_u_ne _ _ (fun h => hk h.symm)]
  · have h1 : (dd_ws ad tA (n, sh, dd_u rf k r1, dd_u I k I1, dd_u L k L1, c, s))[j]? = none := by
      simp [dd_ws]; omega
    have h2 : (dd_ws ad tA (n, sh, rf, I, L, c, s))[j]? = none := by
      simp [dd_ws]; omega
    rw [h1]
    split
    · rename_i hk
      subst hk
      rw [if_neg (by simp [dd_ws]; omega)]
    · exact h2
/-- another list of addresses and array classes that is the same below n -/
theorem dd_ws_ad {ad ad' : Nat → Nat} {tA tA' : Nat → ClassId} {M : dd_M} (h : ∀ k, k < M.1 → ad' k = ad k ∧ tA' k = tA k) (hr : ∀ k j, k < M.1 → M.2.2.1 k j < M.1) : dd_ws ad' tA' M = dd_ws ad tA M := by
  have rv : ∀ r, r < M.1 → dd_rv ad' r = dd_rv ad r := by
    intro r hr
    cases r with
    | zero => rfl
    | succ r => simp [dd_rv, (h _ hr).1]
  have ro : ∀ r, r < M.1 → dd_ro ad' r = dd_ro ad r := by
    intro r hr
    cases r with
    | zero => rfl
    | succ r => simp [dd_ro, (h _ hr).1]
  unfold dd_ws
  apply List.map_congr_left
  intro k hk
  have hk : k < M.1 := List.mem_range.mp hk
  rw [(h k hk).1, (h k hk).2]
  congr 1
  unfold dd_ey
  congr 1
  congr 1
  split
  · congr 7
    funext j
    exact ro _ (hr k j hk)
  · congr 2
    apply List.map_congr_left
    intro j hj
    unfold dd_fv
    split
    · rfl
    · rfl
    · exact rv _ (hr k j hk)
    · rfl
theorem dd_sh0_kind {Ln k : Nat} (h : 1000000 ≤ k) : (dd_sh0 Ln k).1 = 50 ∨ (dd_sh0 Ln k).1 = 51 ∨ (dd_sh0 Ln k).1 = 52 ∨ (dd_sh0 Ln k).1 = 60 := by
  unfold dd_sh0
  split
  · rename_i h1
    simp [Nat.blt] at h1
    omega
  · split
    · rename_i h1
      simp [Nat.blt] at h1
      omega
    · split
      · split <;> simp
      · split
        · split <;> simp
        · split <;> simp
/-- memory as it should be -/
def dd_wf (M : dd_M) : Prop := M.1 ≤ 100000 ∧ (∀ k, k < M.1 → (100 ≤ dd_kd M k ∧ dd_kd M k ≤ 103) ∨ (dd_kd M k < 11 ∧ dd_sz M k = (dd_T (dd_kd M k)).2.2)) ∧ (∀ k, M.1 ≤ k → k < 1000000 → dd_kd M k = 60) ∧ ∀ k j, k < M.1 → dd_r M k j < M.1
/-- the foreign cells in memory -/
def dd_FM (Ln : Nat) (fI : Nat → Nat → Int32) (M : dd_M) : Prop := ∀ k, 1000000 ≤ k → M.2.1 k = dd_sh0 Ln k ∧ ∀ j, dd_r M k j = dd_rf0 k j ∧ dd_i M k j = fI k j
theorem dd_in_world {Ln : Nat} {fI : Nat → Nat → Int32} {M : dd_M} (h1 : dd_wf M) (h2 : dd_FM Ln fI M) {k : Nat} (h : dd_kd M k < 50 ∨ 61 ≤ dd_kd M k) : k < M.1 := by
  rcases Nat.lt_or_ge k M.1 with q | q
  · exact q
  · exfalso
    rcases Nat.lt_or_ge k 1000000 with q2 | q2
    · have := h1.2.2.1 k q q2
      omega
    · have e : dd_kd M k = (dd_sh0 Ln k).1 := by show (M.2.1 k).1 = _; rw [(h2 k q2).1]
      have := dd_sh0_kind (Ln := Ln) q2
      omega
/-- the array classes -/

def dd_tyk (k : Nat) : FieldType := if k = 100 then .int else if k = 101 then .byte else if k = 102 then .long else .object "LostRound$Wood"
def dd_KA (tA : Nat → ClassId) (M : dd_M) (s : State) : Prop := ∀ k, k < M.1 → 100 ≤ dd_kd M k → ArrOfT s (tA k) (dd_tyk (dd_kd M k)) ∧ va_RA s (tA k) (dd_tyk (dd_kd M k))
/-- what lies outside: the constants' texts, two statics of the JDK, the script -/
def dd_FG (ad : Nat → Nat) (Ln : Nat) (fI : Nat → Nat → Int32) (A : Nat → Prop) (U : State) (H : Heap) : Prop :=
  (∀ (i : Nat) (t : String × Nat × String), dd_strs[i]? = some t → va_O "java/lang/String" (ad (1000000 + i)) A U H ∧ va_OF "java/lang/String" "coder" "B" (.int 0) (ad (1000000 + i)) A U H ∧ va_OF "java/lang/String" "value" "[B" (.ref (ad (2000000 + i))) (ad (1000000 + i)) A U H ∧ va_T .byte (ad (2000000 + i)) (dd_slen i) (fun j => .int (fI (2000000 + i) j)) A U H ∧ vk_R t.1 t.2.1 t.2.2 (ad (1000000 + i)) U ∧ fI (1000000 + i) 1 = 0) ∧
  va_Z "java/lang/String" "COMPACT_STRINGS" "Z" (.int 1) A U H ∧ va_Zq "jdk/internal/util/Preconditions" "SIOOBE_FORMATTER" "Ljava/util/function/BiFunction;" A U H ∧ vx_Zq Bundle.tN "UNASSIGNED_STACK" Bundle.steD A U H ∧ vx_Zq Bundle.tN "SUPPRESSED_SENTINEL" Bundle.listD A U H ∧
  va_X (ad 3000000) Ln (fI 3000000) U H ∧ ad 3000000 < H.size ∧ ¬ A (ad 3000000) ∧ va_AO "LostRound$Wood" U ∧ (∀ i j, i < 5 → j < 5 → i ≠ j → va_Nc (dd_exn i) (dd_exn j) U) ∧ (∀ i, i < 5 → va_Nw (.castable (dd_exn i) (dd_exn i)) U) ∧ ∀ x, x ∈ dd_dcl → va_Nw (.declares x) U
/-- the world, where memory is M and the heap H -/
def dd_St (D : va_G) (A : Nat → Prop) (s : State) (Ln : Nat) (fI : Nat → Nat → Int32) (ad0 : Nat → Nat) (ad : Nat → Nat) (tA : Nat → ClassId) (M : dd_M) (H : Heap) (locs : List Loc) : Prop :=
  dd_wf M ∧ dd_FM Ln fI M ∧ va_P D vwCl (dd_ws ad tA M) H ∧ va_D A (dd_ws ad tA M) ∧ va_S A s.heap H locs ∧ dd_KA tA M s ∧ ∀ k, 1000000 ≤ k → ad k = ad0 k
/-- what stays the same in a method: the machine, the code, the words, the classes, what lies outside -/
def dd_Cx (p : Program) (s : State) (m : MethodId) (args : Array Value) (c : Code) (cc : ByteArray) (own : String) (nL : Nat) (D : va_G) (A : Nat → Prop) (Ln : Nat) (fI : Nat → Nat → Int32) (ad0 : Nat → Nat) : Prop :=
  p.tables.exec = Jvm.exec ∧ c.code = cc ∧ c.maxLocals = nL ∧ s.vm.findClass own = some m.cls ∧ (∀ w ∈ dd_gw, w.before args s = true) ∧ va_K D vwCl [] s ∧ (∀ q, s.heap.size ≤ q → A q) ∧ dd_FG ad0 Ln fI A s s.heap
/-- the new addresses are the old ones, as far as there were cells -/
def dd_Ext (ad ad' : Nat → Nat) (tA tA' : Nat → ClassId) (M M' : dd_M) : Prop := (∀ k, k < M.1 ∨ 1000000 ≤ k → ad' k = ad k) ∧ (M'.1 = M.1 → ad' = ad ∧ tA' = tA)
theorem dd_Ext.rf (ad : Nat → Nat) (tA : Nat → ClassId) (M M' : dd_M) : dd_Ext ad ad tA tA M M' := ⟨fun _ _ => rfl, fun _ => ⟨rfl, rfl⟩⟩
