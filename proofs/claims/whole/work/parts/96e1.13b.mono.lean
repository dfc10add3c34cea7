def dd_le (M M' : dd_M) : Prop := M.1 ≤ M'.1 ∧ dd_nc M ≤ dd_nc M' ∧ dd_ns M ≤ dd_ns M'
theorem dd_le.rf (M : dd_M) : dd_le M M := ⟨Nat.le_refl _, Nat.le_refl _, Nat.le_refl _⟩
theorem dd_le.tr {M M1 M2 : dd_M} (h : dd_le M M1) (h2 : dd_le M1 M2) : dd_le M M2 := ⟨Nat.le_trans h.1 h2.1, Nat.le_trans h.2.1 h2.2.1, Nat.le_trans h.2.2 h2.2.2⟩
theorem dd_le_ui (M : dd_M) (a b : Nat) (x : Int32) : dd_le M (dd_ui M a b x) := ⟨Nat.le_refl _, Nat.le_refl _, Nat.le_refl _⟩
theorem dd_le_ul (M : dd_M) (a b : Nat) (x : Int64) : dd_le M (dd_ul M a b x) := ⟨Nat.le_refl _, Nat.le_refl _, Nat.le_refl _⟩
theorem dd_le_ur (M : dd_M) (a b : Nat) (x : Nat) : dd_le M (dd_ur M a b x) := ⟨Nat.le_refl _, Nat.le_refl _, Nat.le_refl _⟩
theorem dd_le_nw (M : dd_M) (a b : Nat) : dd_le M (dd_nw M a b) := ⟨Nat.le_succ _, Nat.le_succ _, Nat.le_add_right _ _⟩
theorem dd_le_cp (M : dd_M) (a b c d e : Nat) : dd_le M (dd_cp M a b c d e) := ⟨Nat.le_refl _, Nat.le_refl _, Nat.le_refl _⟩
theorem dd_le_tw (M : dd_M) : dd_le M (dd_tw M) := ⟨Nat.le_refl _, Nat.le_succ _, Nat.le_add_right _ _⟩
set_option maxHeartbeats 4000000 in
theorem dd_stp_le {e : dd_E} {ls st : List Value} {M : dd_M} {cf : dd_C} (h : dd_stp e ls st M = some cf) : dd_le M cf.2.2.2 := by
  obtain ⟨pc, i, len, x, y, z, k⟩ := e
  cases i <;> simp only [dd_stp] at h <;> (repeat' split at h) <;> cases h <;> first | exact dd_le.rf _ | exact dd_le_ui _ _ _ _ | exact dd_le_ul _ _ _ _ | exact dd_le_ur _ _ _ _ | exact dd_le_nw _ _ _
theorem dd_bi_le {x len pc : Nat} {ls st : List Value} {M : dd_M} {cf : dd_C} (h : dd_bi x len pc ls st M = some cf) : dd_le M cf.2.2.2 := by
  unfold dd_bi at h
  (repeat' split at h) <;> cases h <;> first | exact dd_le.rf _ | exact dd_le_cp _ _ _ _ _ _
theorem dd_rt_M {rt : Nat} {st : List Value} {M : dd_M} {o : dd_O} (h : dd_rt rt st M = some o) : o.1 = none ∧ o.2.2 = M := by
  unfold dd_rt at h
  (repeat' split at h) <;> cases h <;> exact ⟨rfl, rfl⟩
theorem dd_run_le (mt : Nat → dd_I) : ∀ (n d y : Nat) (cf : dd_C) (o : dd_O), dd_run mt n d y cf = some o → dd_le cf.2.2.2 o.2.2 := by
  intro n
  induction n with
  | zero => intro d y cf o h; simp [dd_run] at h
  | succ n ih =>
    intro d y cf o h
    obtain ⟨pc, ls, st, M⟩ := cf
    rw [dd_run] at h
    split at h
    · cases h
    · split at h
      · split at h
        · cases h
        · rename_i cf hs
          exact (dd_stp_le hs).tr (ih _ _ _ _ h)
      · have := dd_rt_M h
        show dd_le M _
        rw [this.2]
        exact dd_le.rf _
      · split at h
        · cases h
        · split at h
          · cases h
          · split at h
            · cases h
            · rename_i hc
              have h1 := ih _ _ _ _ hc
              split at h
              · exact dd_le.tr h1 (ih _ _ _ _ h)
              · cases h
            · rename_i hc
              have h1 := ih _ _ _ _ hc
              split at h
              · cases h
              · split at h
                · split at h
                  · cases h
                    exact h1
                  · cases h
                · split at h
                  · exact dd_le.tr h1 (ih _ _ _ _ h)
                  · cases h
      · split at h
        · split at h
          · cases h
          · rename_i cf hs
            exact (dd_bi_le hs).tr (ih _ _ _ _ h)
        · cases h
      · split at h
        · cases h
          exact dd_le_tw _
        · cases h
theorem dd_Ext.tr {ad ad1 ad2 : Nat → Nat} {tA tA1 tA2 : Nat → ClassId} {M M1 M2 : dd_M} (h : dd_Ext ad ad1 tA tA1 M M1) (h2 : dd_Ext ad1 ad2 tA1 tA2 M1 M2) (l1 : dd_le M M1) (l2 : dd_le M1 M2) : dd_Ext ad ad2 tA tA2 M M2 := by
  refine ⟨fun k hk => ?_, fun e => ?_⟩
  · rw [h2.1 k (by rcases hk with q | q; exact Or.inl (Nat.lt_of_lt_of_le q l1.1); exact Or.inr q), h.1 k hk]
  · have a1 := l1.1
    have a2 := l2.1
    obtain ⟨e1, e2⟩ := h.2 (by omega)
    obtain ⟨e3, e4⟩ := h2.2 (by omega)
    exact ⟨e3.trans e1, e4.trans e2⟩
/-- the locals at the entry -/
theorem dd_en_len (ad : Nat → Nat) : ∀ (vs : List Value), (lg_sl (vs.map (dd_cv ad))).length = (dd_en vs).length := by
  intro vs
  induction vs with
  | nil => rfl
  | cons v r ih =>
    have e : lg_sl ((v :: r).map (dd_cv ad)) = (if v.category = 2 then [.val (dd_cv ad v), .second] else [.val (dd_cv ad v)]) ++ lg_sl (r.map (dd_cv ad)) := by
      simp [lg_sl, dd_cv_cat]
    rw [e, List.length_append, ih]
    cases v <;> simp [dd_en, Value.category] <;> omega
theorem dd_en_lv (ad : Nat → Nat) : ∀ (vs : List Value) (i k : Nat) (q : Nat × Value), q ∈ dd_lv ad i (dd_en vs ++ List.replicate k .null) → q ∈ lv_args i (vs.map (dd_cv ad)) := by
  intro vs
  induction vs with
  | nil =>
    intro i k q hq
    exfalso
    obtain ⟨m, v, h1, h2, -⟩ := (dd_lv_mem _ i q).mp hq
    simp only [dd_en, List.nil_append, List.getElem?_replicate] at h1
    split at h1
    · cases (Option.some.inj h1); exact absurd h2 (by decide)
    · cases h1
  | cons v r ih =>
    intro i k q hq
    cases v with
    | long x =>
      simp only [dd_en, List.cons_append, dd_lv, dd_kn, if_true] at hq
      simp only [List.map_cons, lv_args]
      rcases List.mem_cons.mp hq with h | h
      · rw [h]; exact List.mem_cons_self
      · exact List.mem_cons_of_mem _ (ih (i + 1 + 1) k q (by simpa using h))
    | double x =>
      simp only [dd_en, List.cons_append, dd_lv, dd_kn] at hq
      simp only [List.map_cons, lv_args]
      exact List.mem_cons_of_mem _ (ih (i + 1 + 1) k q (by simpa using hq))
    | _ =>
      simp only [dd_en, List.cons_append, dd_lv, dd_kn, if_true] at hq
      simp only [List.map_cons, lv_args]
      first
        | (rcases List.mem_cons.mp hq with h | h
           · rw [h]; exact List.mem_cons_self
           · exact List.mem_cons_of_mem _ (ih (i + 1) k q h))
        | exact List.mem_cons_of_mem _ (ih (i + 1) k q (by simpa using hq))
theorem dd_LV.entry (ad : Nat → Nat) (vs : List Value) {n : Nat} (h : (dd_en vs).length ≤ n) : dd_LV ad (dd_ent n vs) n ((lg_sl (vs.map (dd_cv ad)) ++ List.replicate (n - (lg_sl (vs.map (dd_cv ad))).length) Slot.unset).toArray) := by
  have h1 := lv_entry (vs.map (dd_cv ad)) (n := n) (by rw [dd_en_len]; exact h)
  exact ⟨h1.1, h1.2.1, fun q hq => h1.2.2 q (dd_en_lv ad vs 0 _ q hq)⟩
