/-! looksAround -/
theorem stp_nb {w : Nat → Nat} {u sd : Nat} (hu : u < 64) : stp w u sd = u ∨ (nbr (stp w u sd) u ∧ opn w (stp w u sd) = true ∧ stp w u sd < 64) := by
  unfold stp
  split
  · split
    · rename_i q
      exact Or.inr ⟨by unfold nbr; omega, opn_t.mpr ⟨by omega, q.2⟩, by omega⟩
    · exact Or.inl rfl
  · split
    · split
      · rename_i q
        exact Or.inr ⟨by unfold nbr; omega, opn_t.mpr ⟨by omega, q.2⟩, by omega⟩
      · exact Or.inl rfl
    · split
      · split
        · rename_i q
          exact Or.inr ⟨by unfold nbr; omega, opn_t.mpr ⟨by omega, q.2⟩, by omega⟩
        · exact Or.inl rfl
      · split
        · split
          · rename_i q
            exact Or.inr ⟨by unfold nbr; omega, opn_t.mpr ⟨by omega, q.2⟩, by omega⟩
          · exact Or.inl rfl
        · exact Or.inl rfl
theorem nb_stp {w : Nat → Nat} {u v : Nat} (hu : u < 64) (hv : v < 64) (h : nbr v u) (ho : opn w v = true) : ∃ sd, 1 ≤ sd ∧ sd ≤ 4 ∧ stp w u sd = v := by
  have o := (opn_t.mp ho).2
  unfold nbr at h
  rcases h with z | z | ⟨z, z2⟩ | ⟨z, z2⟩
  · refine ⟨1, by omega, by omega, ?_⟩
    rw [stp1 (by omega), show u - 8 = v by omega, if_neg o]
  · refine ⟨3, by omega, by omega, ?_⟩
    rw [stp3 (by omega), show u + 8 = v by omega, if_neg o]
  · refine ⟨4, by omega, by omega, ?_⟩
    rw [stp4 (by omega), show u - 1 = v by omega, if_neg o]
  · refine ⟨2, by omega, by omega, ?_⟩
    rw [stp2 (by omega), show u + 1 = v by omega, if_neg o]
theorem smF_upd {f : Nat → Nat} {a n : Nat} (ha : a < n) (h0 : f a = 0) : smF (fun i => if i = a then 1 else f i) n = smF f n + 1 := by
  induction n with
  | zero => exact absurd ha (Nat.not_lt_zero a)
  | succ n ih =>
    rw [smF_s, smF_s]
    by_cases q : n = a
    · rw [if_pos q, q, h0]
      have : smF (fun i => if i = a then 1 else f i) a = smF f a := smF_cong (fun i hi => by show (if i = a then 1 else f i) = f i; rw [if_neg (by omega)])
      rw [this]
    · rw [if_neg q, ih (by omega)]
      omega
def vsN (e : Nat → Option Nat) : Nat → Nat := fun y => if (e y).isSome then 1 else 0
/-- the search, at head h and side t -/
def BF (w : Nat → Nat) (x : Nat) (e : Nat → Option Nat) (q : Nat → Nat) (len h t : Nat) : Prop :=
  (1 ≤ len ∧ len ≤ 64 ∧ h ≤ len ∧ e x = some 0) ∧ (∀ k, k < len → q k < 64 ∧ ∃ n, e (q k) = some n ∧ n ≤ k ∧ lvA (opn w) x n (q k) = true) ∧ (∀ y, y < 64 → (e y).isSome = true → ∃ k, k < len ∧ q k = y)
  ∧ (∀ i j, i ≤ j → j < len → ∀ a b, e (q i) = some a → e (q j) = some b → a ≤ b) ∧ (h < len → ∀ j, j < len → ∀ a b, e (q h) = some a → e (q j) = some b → b ≤ a + 1)
  ∧ (∀ k, k < len → k ≤ h → ∀ sd, 1 ≤ sd → sd ≤ 4 → (k < h ∨ sd < t) → ∃ a b, e (q k) = some a ∧ e (stp w (q k) sd) = some b ∧ b ≤ a + 1) ∧ smF (vsN e) 64 = len
theorem BF_next {w : Nat → Nat} {x : Nat} {e : Nat → Option Nat} {q : Nat → Nat} {len h : Nat} (H : BF w x e q len h 5) (hh : h < len) : BF w x e q len (h + 1) 1 := by
  obtain ⟨⟨h1, h2, h3, h4⟩, h5, h6, h7, h8, h9, h10⟩ := H
  refine ⟨⟨h1, h2, by omega, h4⟩, h5, h6, h7, ?_, ?_, h10⟩
  · intro hl j hj a b ea eb
    obtain ⟨_, n, en, _, _⟩ := h5 h hh
    have := h7 h (h + 1) (by omega) hl n a en ea
    have := h8 hh j hj n b en eb
    omega
  · intro k hk hk2 sd s1 s4 hs
    exact h9 k hk (by omega) sd s1 s4 (by omega)
theorem BF_old {w : Nat → Nat} {x : Nat} {e : Nat → Option Nat} {q : Nat → Nat} {len h t : Nat} (H : BF w x e q len h t) (hh : h < len) (ht : t ≤ 4) {b : Nat} (hb : e (stp w (q h) t) = some b) : BF w x e q len h (t + 1) := by
  obtain ⟨⟨h1, h2, h3, h4⟩, h5, h6, h7, h8, h9, h10⟩ := H
  refine ⟨⟨h1, h2, h3, h4⟩, h5, h6, h7, h8, ?_, h10⟩
  intro k hk hk2 sd s1 s4 hs
  by_cases z : k = h ∧ sd = t
  · obtain ⟨z1, z2⟩ := z
    subst z1
    subst z2
    obtain ⟨qk, n, en, _, _⟩ := h5 k hk
    have sl : stp w (q k) sd < 64 := stp_lt qk
    obtain ⟨j, hj, ej⟩ := h6 _ sl (by rw [hb]; rfl)
    refine ⟨n, b, en, hb, ?_⟩
    exact h8 hk j hj n b en (by rw [ej]; exact hb)
  · exact h9 k hk hk2 sd s1 s4 (by omega)
theorem BF_new {w : Nat → Nat} {x : Nat} {e : Nat → Option Nat} {q : Nat → Nat} {len h t a : Nat} (H : BF w x e q len h t) (hh : h < len) (ht : t ≤ 4) (hn : e (stp w (q h) t) = none) (ha : e (q h) = some a) : len < 64 ∧ BF w x (fun y => if y = stp w (q h) t then some (a + 1) else e y) (fun k => if k = len then stp w (q h) t else q k) (len + 1) h (t + 1) := by
  obtain ⟨⟨h1, h2, h3, h4⟩, h5, h6, h7, h8, h9, h10⟩ := H
  obtain ⟨qh, n0, en0, n0h, lv0⟩ := h5 h hh
  have en : n0 = a := by rw [en0] at ha; cases ha; rfl
  subst en
  have sl : stp w (q h) t < 64 := stp_lt qh
  have ne : stp w (q h) t ≠ q h := fun z => by rw [z, en0] at hn; cases hn
  obtain ⟨nb, ov, _⟩ := (stp_nb (w := w) (sd := t) qh).resolve_left ne
  generalize hvv : stp w (q h) t = v at *
  have c1 : smF (vsN (fun y => if y = v then some (n0 + 1) else e y)) 64 = len + 1 := by
    have := smF_upd (f := vsN e) (a := v) (n := 64) sl (by unfold vsN; rw [hn]; rfl)
    rw [h10] at this
    rw [← this]
    refine smF_cong (fun i _ => ?_)
    show (if (if i = v then some (n0 + 1) else e i).isSome then 1 else 0) = if i = v then 1 else if (e i).isSome then 1 else 0
    by_cases z : i = v
    · rw [if_pos z, if_pos z]; rfl
    · rw [if_neg z, if_neg z]
  have l64 : len < 64 := by
    have := smF_le (f := vsN (fun y => if y = v then some (n0 + 1) else e y)) (n := 64) (fun i _ => by unfold vsN; split <;> omega)
    omega
  have qv : ∀ k, k < len → q k ≠ v := fun k hk z => by
    obtain ⟨_, n, en, _⟩ := h5 k hk
    rw [z, hn] at en
    cases en
  have eq : ∀ k, k < len → (if q k = v then some (n0 + 1) else e (q k)) = e (q k) := fun k hk => if_neg (qv k hk)
  have qo : ∀ k, k < len → (if k = len then v else q k) = q k := fun k hk => if_neg (by omega)
  refine ⟨l64, ⟨⟨by omega, by omega, by omega, ?_⟩, ?_, ?_, ?_, ?_, ?_, c1⟩⟩
  · show (if x = v then some (n0 + 1) else e x) = some 0
    rw [if_neg (fun z => by rw [← z, h4] at hn; cases hn)]
    exact h4
  · intro k hk
    by_cases z : k = len
    · subst z
      simp only [if_pos]
      exact ⟨sl, n0 + 1, rfl, by omega, lv_s.mpr (Or.inr ⟨ov, q h, qh, nb, lv0⟩)⟩
    · show (if k = len then v else q k) < 64 ∧ ∃ n, (if (if k = len then v else q k) = v then some (n0 + 1) else e (if k = len then v else q k)) = some n ∧ n ≤ k ∧ lvA (opn w) x n (if k = len then v else q k) = true
      rw [qo k (by omega), eq k (by omega)]
      exact h5 k (by omega)
  · intro y hy he
    by_cases z : y = v
    · exact ⟨len, by omega, by show (if len = len then v else q len) = y; rw [if_pos rfl, z]⟩
    · have he : (if y = v then some (n0 + 1) else e y).isSome = true := he
      rw [if_neg z] at he
      obtain ⟨k, hk, ek⟩ := h6 y hy he
      exact ⟨k, by omega, by show (if k = len then v else q k) = y; rw [qo k hk]; exact ek⟩
  · intro i j hij hj a' b' ea eb
    have ea : (if (if i = len then v else q i) = v then some (n0 + 1) else e (if i = len then v else q i)) = some a' := ea
    have eb : (if (if j = len then v else q j) = v then some (n0 + 1) else e (if j = len then v else q j)) = some b' := eb
    by_cases zj : j = len
    · rw [if_pos zj, if_pos rfl] at eb
      cases eb
      by_cases zi : i = len
      · rw [if_pos zi, if_pos rfl] at ea
        cases ea
        exact Nat.le_refl _
      · rw [qo i (by omega), eq i (by omega)] at ea
        exact h8 hh i (by omega) n0 a' en0 ea
    · rw [qo j (by omega), eq j (by omega)] at eb
      rw [qo i (by omega), eq i (by omega)] at ea
      exact h7 i j hij (by omega) a' b' ea eb
  · intro _ j hj a' b' ea eb
    have ea : (if (if h = len then v else q h) = v then some (n0 + 1) else e (if h = len then v else q h)) = some a' := ea
    have eb : (if (if j = len then v else q j) = v then some (n0 + 1) else e (if j = len then v else q j)) = some b' := eb
    rw [qo h hh, eq h hh, en0] at ea
    cases ea
    by_cases zj : j = len
    · rw [if_pos zj, if_pos rfl] at eb
      cases eb
      exact Nat.le_refl _
    · rw [qo j (by omega), eq j (by omega)] at eb
      exact h8 hh j (by omega) n0 b' en0 eb
  · intro k hk hk2 sd s1 s4 hs
    have kl : k < len := by omega
    show ∃ a b, (if (if k = len then v else q k) = v then some (n0 + 1) else e (if k = len then v else q k)) = some a ∧ (if stp w (if k = len then v else q k) sd = v then some (n0 + 1) else e (stp w (if k = len then v else q k) sd)) = some b ∧ b ≤ a + 1
    rw [qo k kl, eq k kl]
    by_cases z : stp w (q k) sd = v
    · rw [if_pos z]
      by_cases z2 : k = h
      · subst z2
        exact ⟨n0, n0 + 1, en0, rfl, Nat.le_refl _⟩
      · obtain ⟨a', b', g1, g2, g3⟩ := h9 k kl hk2 sd s1 s4 (Or.inl (by omega))
        rw [z, hn] at g2
        cases g2
    · rw [if_neg z]
      by_cases z2 : k = h ∧ sd = t
      · rw [z2.1, z2.2] at z
        exact absurd hvv z
      · exact h9 k kl hk2 sd s1 s4 (by omega)
theorem BF_end {w : Nat → Nat} {x : Nat} {e : Nat → Option Nat} {q : Nat → Nat} {len h : Nat} (H : BF w x e q len h 1) (hh : len ≤ h) : ∀ y, y < 64 → e y = frst (fun n => lvA (opn w) x n y) 64 ∧ ((∃ n, lvA (opn w) x n y = true) ↔ ∃ k, k < len ∧ q k = y) := by
  obtain ⟨⟨h1, h2, h3, h4⟩, h5, h6, h7, h8, h9, h10⟩ := H
  have up : ∀ n y, y < 64 → lvA (opn w) x n y = true → ∃ b, e y = some b ∧ b ≤ n := by
    intro n
    induction n with
    | zero =>
      intro y hy q0
      rw [lv_0] at q0
      rw [q0.1]
      exact ⟨0, h4, Nat.le_refl _⟩
    | succ n ih =>
      intro y hy q0
      rcases lv_s.mp q0 with z | ⟨z1, j, z2, z3, z4⟩
      · obtain ⟨b, g1, g2⟩ := ih y hy z
        exact ⟨b, g1, by omega⟩
      · obtain ⟨b, g1, g2⟩ := ih j z2 z4
        obtain ⟨k, hk, ek⟩ := h6 j z2 (by rw [g1]; rfl)
        obtain ⟨sd, s1, s4, es⟩ := nb_stp (w := w) z2 hy z3 z1
        obtain ⟨a, b2, f1, f2, f3⟩ := h9 k hk (by omega) sd s1 s4 (Or.inl (by omega))
        rw [ek, g1] at f1
        cases f1
        rw [ek, es] at f2
        exact ⟨b2, f2, by omega⟩
  intro y hy
  have vis : (e y).isSome = true → ∃ n, e y = some n ∧ n < 64 ∧ lvA (opn w) x n y = true := by
    intro hs
    obtain ⟨k, hk, ek⟩ := h6 y hy hs
    obtain ⟨_, n, g2, g3, g4⟩ := h5 k hk
    rw [ek] at g2 g4
    exact ⟨n, g2, by omega, g4⟩
  constructor
  · cases he : e y with
    | none =>
      refine (frst_none (fun n _ => ?_)).symm
      cases hl : lvA (opn w) x n y with
      | false => rfl
      | true =>
        obtain ⟨b, g1, _⟩ := up n y hy hl
        rw [he] at g1
        cases g1
    | some m =>
      obtain ⟨n, g1, g2, g3⟩ := vis (by rw [he]; rfl)
      rw [he] at g1
      cases g1
      refine (frst_some (p := fun n => lvA (opn w) x n y) g3 (fun i hi => ?_) g2).symm
      cases hl : lvA (opn w) x i y with
      | false => rfl
      | true =>
        obtain ⟨b, g4, g5⟩ := up i y hy hl
        rw [he] at g4
        cases g4
        omega
  · constructor
    · rintro ⟨n, hl⟩
      obtain ⟨b, g1, _⟩ := up n y hy hl
      exact h6 y hy (by rw [g1]; rfl)
    · rintro ⟨k, hk, ek⟩
      obtain ⟨_, n, _, _, g4⟩ := h5 k hk
      exact ⟨n, by rw [← ek]; exact g4⟩

abbrev FL (I I' : Nat → Nat → Int32) : Prop := FR 148 [157, 158] [21] I I'
theorem oI_nm {o : Option Nat} (h : ∀ n, o = some n → n < 2 ^ 30) : oI o = -1 ↔ o = none := by
  cases o with
  | none => exact ⟨fun _ => rfl, fun _ => rfl⟩
  | some n =>
    have hn := h n rfl
    have e : (nI n = -1) = False := nI_nm (by omega)
    exact ⟨fun z => (e ▸ z : False).elim, fun z => by cases z⟩
theorem M_look {d Ln c s : Nat} {I : Nat → Nat → Int32} {L : Nat → Nat → Int64} {K : (Nat → Nat → Int32) → (Nat → Nat → Int64) → Prop} {w : Nat → Nat} {x : Nat} (hd : 29 ≤ d) (hR : RM w I) (hO : OKW w) (hx : x < 64) (kk : ∀ (I' : Nat → Nat → Int32) (len : Nat) (q : Nat → Nat), RM w I' → FL I I' → (∀ y, y < 64 → I' 157 y = oI (frst (fun n => lvA (opn w) x n y) 64)) → len ≤ 64 → I' 148 21 = nI len → (∀ k, k < len → I' 158 k = nI (q k) ∧ q k < 64) → (∀ y, y < 64 → ((∃ n, lvA (opn w) x n y = true) ↔ ∃ k, k < len ∧ q k = y)) → K I' L) : dd_Ev d m_X11_looksAround [.ref 148, .int (nI x)] (sM Ln I L c s) (dd_RV Ln c s K) := by
  have tx := (hO.2.1 x hx).1
  refine w_X11_looksAround_0 (by omega) ?_
  have e11 : (11 : Int32) + nI x = nI (11 + x) := by rw [li_11, nI_add]
  have t11 : tn (nI (11 + x)) = 11 + x := nI_clamp (by omega)
  have tx' : tn (nI x) = x := nI_clamp (by omega)
  have key : ∀ f, (∀ y, y < 0 → f y = -1) → dd_Rn d m_X11_looksAround (2, [.ref 148, .int (nI x), .int (nI 0), .null, .null], [], sM Ln (dd_u I 157 f) L c s) (dd_RV Ln c s K) := by
    refine dd_lp (fun i => ∀ f, (∀ y, y < i → f y = -1) → dd_Rn d m_X11_looksAround (2, [.ref 148, .int (nI x), .int (nI i), .null, .null], [], sM Ln (dd_u I 157 f) L c s) (dd_RV Ln c s K)) 64 ?_ ?_
    · intro f hf
      refine w_X11_looksAround_2 (by omega) ?_
      have r1 : RM w (dd_u I 157 f) := hR.of (dd_un (by decide))
      rw [li_64, nI_leI (by omega) (by omega), e11, t11, tx', r1.g (by omega), nI1i tx]
      refine ⟨fun _ => ⟨⟨nI_pos' (by omega), by omega⟩, fun z => ?_, fun z => ?_⟩, fun z => absurd (Nat.le_refl _) z⟩
      · have no : opn w x = false := (opn_f hx).mpr z
        have nl : ∀ n y, lvA (opn w) x n y = false := by
          intro n
          induction n with
          | zero => intro y; rw [lvA, no, Bool.and_false]
          | succ n ih =>
            intro y
            rw [lvA, ih y, Bool.false_or]
            have : anyN (fun j => decide (nbr y j) && lvA (opn w) x n j) 64 = false := (anyN_no _ _).mpr (fun j _ => by rw [ih j, Bool.and_false])
            rw [this, Bool.and_false]
        refine dd_qV (kk _ 0 (fun _ => 0) (r1.of (dd_un (by decide))) (((FR.refl I).u (by decide) (by decide)).v (by decide)) (fun y hy => ?_) (by omega) ?_ (fun k hk => absurd hk (Nat.not_lt_zero k)) (fun y hy => ?_))
        · rw [dd_un (by decide), dd_us, hf y hy, frst_none (fun n _ => nl n y)]; rfl
        · rw [dd_us, pk_us]; rfl
        · constructor
          · rintro ⟨n, hl⟩
            rw [nl n y] at hl
            cases hl
          · rintro ⟨k, hk, _⟩
            exact absurd hk (Nat.not_lt_zero k)
      · have op : opn w x = true := opn_t.mpr ⟨hx, z⟩
        refine ⟨⟨nI_pos' (by omega), by omega⟩, ?_⟩
        have main : ∀ (J : Nat → Nat → Int32) (a3 a4 : Value) (e : Nat → Option Nat) (q : Nat → Nat) (len : Nat), BF w x e q len 0 1 → RM w J → FL I J → (∀ y, y < 64 → J 157 y = oI (e y)) → J 148 21 = nI len → (∀ k, k < len → J 158 k = nI (q k)) → dd_Rn d m_X11_looksAround (56, [.ref 148, .int (nI x), .int (nI 0), a3, a4], [], sM Ln J L c s) (dd_RV Ln c s K) := by
          refine dd_lp (fun h => ∀ (J : Nat → Nat → Int32) (a3 a4 : Value) (e : Nat → Option Nat) (q : Nat → Nat) (len : Nat), BF w x e q len h 1 → RM w J → FL I J → (∀ y, y < 64 → J 157 y = oI (e y)) → J 148 21 = nI len → (∀ k, k < len → J 158 k = nI (q k)) → dd_Rn d m_X11_looksAround (56, [.ref 148, .int (nI x), .int (nI h), a3, a4], [], sM Ln J L c s) (dd_RV Ln c s K)) 64 ?_ ?_
          · intro J a3 a4 e q len H r f m1 m2 m3
            have l64 := H.1.2.1
            refine w_X11_looksAround_56 (by omega) ?_
            rw [m2, nI_leI (by omega) (by omega)]
            have fin := BF_end H l64
            exact ⟨fun _ => dd_qV (kk J len q r f (fun y hy => by rw [m1 y hy, (fin y hy).1]) l64 m2 (fun k hk => ⟨m3 k hk, (H.2.1 k hk).1⟩) (fun y hy => (fin y hy).2)), fun z => absurd l64 z⟩
          · intro h hh ih J a3 a4 e q len H r f m1 m2 m3
            have l64 := H.1.2.1
            refine w_X11_looksAround_56 (by omega) ?_
            rw [m2, nI_leI (by omega) (by omega)]
            refine ⟨fun z => ?_, fun z => ?_⟩
            · have fin := BF_end H z
              exact dd_qV (kk J len q r f (fun y hy => by rw [m1 y hy, (fin y hy).1]) l64 m2 (fun k hk => ⟨m3 k hk, (H.2.1 k hk).1⟩) (fun y hy => (fin y hy).2))
            · have inner : ∀ (J : Nat → Nat → Int32) (a4 : Value) (e : Nat → Option Nat) (q : Nat → Nat) (len : Nat), h < len → BF w x e q len h (0 + 1) → RM w J → FL I J → (∀ y, y < 64 → J 157 y = oI (e y)) → J 148 21 = nI len → (∀ k, k < len → J 158 k = nI (q k)) → dd_Rn d m_X11_looksAround (66, [.ref 148, .int (nI x), .int (nI h), .int (nI (0 + 1)), a4], [], sM Ln J L c s) (dd_RV Ln c s K) := by
                refine dd_lp (fun t => ∀ (J : Nat → Nat → Int32) (a4 : Value) (e : Nat → Option Nat) (q : Nat → Nat) (len : Nat), h < len → BF w x e q len h (t + 1) → RM w J → FL I J → (∀ y, y < 64 → J 157 y = oI (e y)) → J 148 21 = nI len → (∀ k, k < len → J 158 k = nI (q k)) → dd_Rn d m_X11_looksAround (66, [.ref 148, .int (nI x), .int (nI h), .int (nI (t + 1)), a4], [], sM Ln J L c s) (dd_RV Ln c s K)) 4 ?_ ?_
                · intro J a4 e q len hl H r f m1 m2 m3
                  refine w_X11_looksAround_66 (by omega) ?_
                  rw [li_4, nI_ltI (by omega) (by omega)]
                  simp only [nI_1]
                  exact ⟨fun _ => ih J _ a4 e q len (BF_next H hl) r f m1 m2 m3, fun z => absurd (by omega) z⟩
                · intro t ht iht J a4 e q len hl H r f m1 m2 m3
                  obtain ⟨qh, n0, en0, n0h, _⟩ := H.2.1 h hl
                  have l64 := H.1.2.1
                  have th : tn (nI h) = h := nI_clamp (by omega)
                  refine w_X11_looksAround_66 (by omega) ?_
                  rw [li_4, nI_ltI (by omega) (by omega), th, m3 h hl]
                  simp only [nI_1]
                  refine ⟨fun z => absurd z (by omega), fun _ => ⟨⟨nI_pos' (by omega), by omega⟩, ?_⟩⟩
                  refine M_stepTo (w := w) (by omega) r hO.2.1 qh (by omega) (by omega) ?_
                  have sl : stp w (q h) (t + 1) < 64 := stp_lt qh
                  have tv : tn (nI (stp w (q h) (t + 1))) = stp w (q h) (t + 1) := nI_clamp (by omega)
                  have tq : tn (nI (q h)) = q h := nI_clamp (by omega)
                  have bnd : ∀ y, y < 64 → ∀ n, e y = some n → n < 2 ^ 30 := by
                    intro y hy n en
                    obtain ⟨k, hk, ek⟩ := H.2.2.1 y hy (by rw [en]; rfl)
                    obtain ⟨_, n', en', nk, _⟩ := H.2.1 k hk
                    rw [ek, en] at en'
                    cases en'
                    omega
                  rw [tv, m1 _ sl, oI_nm (bnd _ sl), m3 h hl, tq, m1 _ qh, en0, m2]
                  have tl : tn (nI len) = len := nI_clamp (by omega)
                  rw [tl]
                  refine ⟨⟨nI_pos' (by omega), by omega⟩, fun z2 => ?_, fun z2 => ?_⟩
                  · obtain ⟨len64, H'⟩ := BF_new H hl (by omega) z2 en0
                    refine ⟨⟨nI_pos' (by omega), by omega⟩, ⟨nI_pos' (by omega), by omega⟩, ⟨nI_pos' (by omega), by omega⟩, ⟨nI_pos' (by omega), by omega⟩, ?_⟩
                    have eo : oI (some n0) + 1 = nI (n0 + 1) := nI_1 n0
                    rw [eo, nI_1]
                    refine iht _ _ _ _ _ (by omega) H' ?_ ?_ ?_ ?_ ?_
                    · exact r.of (by rw [dd_un (by decide), dd_un (by decide), dd_un (by decide)])
                    · have f1 : FL I (dd_u (dd_u J 157 (upd (J 157) (stp w (q h) (t + 1)) (nI (n0 + 1)))) 158 (upd (J 158) len (nI (stp w (q h) (t + 1))))) := (f.u (by decide) (by decide)).u (by decide) (by decide)
                      have f2 := f1.v (j := 21) (v := nI (len + 1)) (by decide)
                      rw [dd_un (show (148 : Nat) ≠ 158 by decide), dd_un (show (148 : Nat) ≠ 157 by decide)] at f2
                      exact f2
                    · intro y hy
                      rw [dd_un (by decide), dd_un (by decide), dd_us]
                      by_cases zy : y = stp w (q h) (t + 1)
                      · rw [zy, pk_us, if_pos rfl]; rfl
                      · rw [pk_un zy, if_neg zy]; exact m1 y hy
                    · rw [dd_us, pk_us]
                    · intro k hk
                      rw [dd_un (by decide), dd_us]
                      by_cases zk : k = len
                      · rw [zk, pk_us, if_pos rfl]
                      · rw [pk_un zk, if_neg zk]; exact m3 k (by omega)
                  · cases ev : e (stp w (q h) (t + 1)) with
                    | none => exact absurd ev z2
                    | some b => exact iht J _ e q len hl (BF_old H hl (by omega) ev) r f m1 m2 m3
              exact inner J a4 e q len (by omega) H r f m1 m2 m3
        refine main _ _ _ (fun y => if y = x then some 0 else none) (fun _ => x) 1 ?_ ?_ ?_ ?_ ?_ ?_
        · refine ⟨⟨by omega, by omega, by omega, if_pos rfl⟩, ?_, ?_, ?_, ?_, ?_, ?_⟩
          · intro k hk
            exact ⟨hx, 0, if_pos rfl, by omega, lv_0.mpr ⟨rfl, op⟩⟩
          · intro y hy he
            by_cases zy : y = x
            · exact ⟨0, by omega, zy.symm⟩
            · have he : (if y = x then some 0 else none : Option Nat).isSome = true := he
              rw [if_neg zy] at he
              cases he
          · intro i j _ _ a b ea eb
            rw [ea] at eb
            cases eb
            exact Nat.le_refl _
          · intro _ j _ a b ea eb
            rw [ea] at eb
            cases eb
            omega
          · intro k hk hk2 sd s1 s4 hs
            omega
          · have := smF_upd (f := fun _ => 0) (a := x) (n := 64) hx rfl
            have z0 : smF (fun _ => 0) 64 = 0 := by decide
            rw [z0] at this
            rw [show (1 : Nat) = 0 + 1 by decide, ← this]
            refine smF_cong (fun i _ => ?_)
            show (if (if i = x then some 0 else none : Option Nat).isSome then 1 else 0) = if i = x then 0 + 1 else 0
            by_cases zi : i = x
            · rw [if_pos zi, if_pos zi]; rfl
            · rw [if_neg zi, if_neg zi]; rfl
        · exact r1.of (by rw [dd_un (by decide), dd_un (by decide), dd_un (by decide), dd_un (by decide)])
        · have f0 : FL I (dd_u I 157 f) := (FR.refl I).u (by decide) (by decide)
          have f1 := f0.v (j := 21) (v := 0) (by decide)
          have f2 := (f1.u (k := 157) (f := upd (dd_u I 157 f 157) x 0) (by decide) (by decide)).u (k := 158) (f := upd (dd_u I 157 f 158) 0 (nI x)) (by decide) (by decide)
          have f3 := f2.v (j := 21) (v := 1) (by decide)
          rw [dd_un (show (148 : Nat) ≠ 158 by decide), dd_un (show (148 : Nat) ≠ 157 by decide), dd_us] at f3
          exact f3
        · intro y hy
          rw [dd_un (by decide), dd_un (by decide), dd_us, dd_us]
          by_cases zy : y = x
          · rw [zy, pk_us, if_pos rfl]; rfl
          · rw [pk_un zy, if_neg zy]; exact hf y hy
        · rw [dd_us, pk_us]; rfl
        · intro k hk
          have k0 : k = 0 := by omega
          rw [dd_un (by decide), dd_us, k0, pk_us]
    · intro i hi ih f hf
      have ti : tn (nI i) = i := nI_clamp (by omega)
      refine w_X11_looksAround_2 (by omega) ?_
      rw [li_64, nI_leI (by omega) (by omega), ti, dd_us, dd_u_u, nI_1]
      refine ⟨fun z => absurd z (by omega), fun _ => ⟨⟨nI_pos' (by omega), by omega⟩, ih _ (fun y hy => ?_)⟩⟩
      by_cases q : y = i
      · subst q; rw [pk_us]
      · rw [pk_un q]; exact hf y (by omega)
  have := key (I 157) (fun y hy => absurd hy (Nat.not_lt_zero y))
  rw [dd_u_id] at this
  exact this
