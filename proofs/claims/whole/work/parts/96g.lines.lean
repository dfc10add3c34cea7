/-! law: the model's lines -/
def d0 : LN := (0, 0, [], [])
/-- the lines as the model keeps them -/
def MQl (I : Nat → Nat → Int32) (A : List LN) : Prop := ∀ i, i < A.length → I 149 (1372 + 4 * i) = nI (A.getD i d0).1 ∧ I 149 (1372 + 4 * i + 1) = nI (A.getD i d0).2.1 ∧ I 149 (1372 + 4 * i + 2) = nI (mcat (A.take i)).length ∧ I 149 (1372 + 4 * i + 3) = nI ((mcat (A.take i)).length + (A.getD i d0).2.2.1.length)
theorem MQl.of {I J : Nat → Nat → Int32} {A : List LN} (h : MQl I A) (hn : A.length ≤ 12) (f : ∀ j, 1372 ≤ j → j < 1372 + 4 * A.length → J 149 j = I 149 j) : MQl J A := fun i hi => by
  obtain ⟨h1, h2, h3, h4⟩ := h i hi
  exact ⟨by rw [f _ (by omega) (by omega)]; exact h1, by rw [f _ (by omega) (by omega)]; exact h2, by rw [f _ (by omega) (by omega)]; exact h3, by rw [f _ (by omega) (by omega)]; exact h4⟩
theorem take_app {α : Type} (l : List α) (x : α) {i : Nat} (h : i ≤ l.length) : (l ++ [x]).take i = l.take i := by
  rw [List.take_append_of_le_length h]
theorem MQl.one {J : Nat → Nat → Int32} {A : List LN} {x : LN} (h : MQl J A) (h0 : J 149 (1372 + 4 * A.length) = nI x.1) (h1 : J 149 (1372 + 4 * A.length + 1) = nI x.2.1) (h2 : J 149 (1372 + 4 * A.length + 2) = nI (mcat A).length) (h3 : J 149 (1372 + 4 * A.length + 3) = nI ((mcat A).length + x.2.2.1.length)) : MQl J (A ++ [x]) := fun i hi => by
  rw [List.length_append] at hi
  have hi : i < A.length + 1 := hi
  by_cases q : i = A.length
  · subst q
    rw [getD_app, take_app A x (Nat.le_refl _), List.take_length]
    exact ⟨h0, h1, h2, h3⟩
  · rw [getD_app' A i (by omega), take_app A x (by omega)]
    exact h i (by omega)
def FG (I I' : Nat → Nat → Int32) : Prop := FR 148 [149] [10, 12, 13, 16] I I' ∧ ∀ j, j < 1371 → I' 149 j = I 149 j
theorem FG.refl (I : Nat → Nat → Int32) : FG I I := ⟨FR.refl I, fun _ _ => rfl⟩
theorem FG.trans {I J K : Nat → Nat → Int32} (h : FG I J) (h2 : FG J K) : FG I K := ⟨h.1.trans h2.1, fun j hj => (h2.2 j hj).trans (h.2 j hj)⟩
theorem FG.z {I J : Nat → Nat → Int32} (h : FZ I J) : FG I J := ⟨h.1, fun j hj => h.2 j (by omega)⟩
theorem FG.w {I : Nat → Nat → Int32} {j : Nat} (v : Int32) (hj : 1371 ≤ j) : FG I (dd_u I 149 (upd (I 149) j v)) := ⟨(FR.refl I).u (by decide) (by decide), fun i hi => by rw [dd_us, pk_un (by omega)]⟩
theorem FG.s {I J : Nat → Nat → Int32} (f : FG I J) (h : STR I) : STR J := h.f f.1 (by decide)
theorem MX.w {tp : Nat → Nat} {tl : Nat} {I : Nat → Nat → Int32} {p e j : Nat} {m : List (Nat × Nat)} (h : MX tp tl I p e m) (v : Int32) (hj : j < 1420) : MX tp tl (dd_u I 149 (upd (I 149) j v)) p e m := by
  obtain ⟨⟨p', a1, a2, a3⟩, h2, h3, h4, h5, h6, h7⟩ := h
  have e8 : dd_u I 149 (upd (I 149) j v) 148 = I 148 := dd_un (by decide)
  refine ⟨⟨p', a1, by rw [e8]; exact a2, a3⟩, by rw [e8]; exact h2, by rw [e8]; exact h3, fun i hi => by rw [dd_un (by decide)]; exact h4 i hi, h5.of fun k hk => dd_un (by omega), by rw [e8]; exact h6, fun i hi => ?_⟩
  rw [dd_us, pk_un (by omega), pk_un (by omega)]
  exact h7 i hi
def MY (tp : Nat → Nat) (tl : Nat) (I : Nat → Nat → Int32) (A : List LN) : Prop := I 148 11 = nI tl ∧ TXm tp I ∧ STR I ∧ ML I (mcat A) ∧ MQl I A
theorem MY.r {tp : Nat → Nat} {tl : Nat} {I J : Nat → Nat → Int32} {A : List LN} (h : MY tp tl I A) (f : FR 148 [] [10, 12] I J) : MY tp tl J A := by
  obtain ⟨h1, h2, h3, h4, h5⟩ := h
  have e9 : J 149 = I 149 := f.1 149 List.not_mem_nil (by decide)
  refine ⟨by rw [f.2 11 (by decide)]; exact h1, h2.f f (by decide), h3.f f (by simp), h4.r f, fun i hi => ?_⟩
  rw [e9]
  exact h5 i hi
def MKL (tp : Nat → Nat) (tl : Nat) (A : List LN) (r : LL) (I : Nat → Nat → Int32) (L : Nat → Nat → Int64) (K : Int32 → (Nat → Nat → Int32) → (Nat → Nat → Int64) → Prop) : Prop :=
  (∀ f, r = .inl f → ∀ I', I' 148 12 = nI f → FG I I' → K 0 I' L) ∧ (∀ x q, r = .inr (x, q) → ∀ I', MX tp tl I' q 0 (mcat A ++ x.2.2.1) → MQl I' (A ++ [x]) → FG I I' → K 1 I' L)
theorem MKL.g {tp : Nat → Nat} {tl : Nat} {A : List LN} {r : LL} {I J : Nat → Nat → Int32} {L : Nat → Nat → Int64} {K : Int32 → (Nat → Nat → Int32) → (Nat → Nat → Int64) → Prop} (h : MKL tp tl A r I L K) (f : FG I J) : MKL tp tl A r J L K :=
  ⟨fun a x I' h5 g => h.1 a x I' h5 (f.trans g), fun m q x I' mx mq g => h.2 m q x I' mx mq (f.trans g)⟩
theorem M_ifN {d Ln c s : Nat} {I : Nat → Nat → Int32} {L : Nat → Nat → Int64} {K : Int32 → (Nat → Nat → Int32) → (Nat → Nat → Int64) → Prop} {n : Nat} (hd : 85 ≤ d) (hn : n < 12) (kk : ∀ I', I' 148 = I 148 → FG I I' → K 0 I' L) : dd_Rn d m_X11_readLawLine (95, [.ref 148, .int (nI n), .int (nI (1372 + 4 * n))], [.int (-1), .int (nI (1372 + 4 * n + 1)), .ref 149], sM Ln I L c s) (dd_RI Ln c s K) := by
  have t1 : tn (nI (1372 + 4 * n + 1)) = 1372 + 4 * n + 1 := nI_clamp (by omega)
  refine w_X11_readLawLine_95 (by omega) ?_
  rw [nI_1, t1, pk_us]
  refine ⟨⟨nI_pos' (by omega), by omega⟩, ⟨nI_pos' (by omega), by omega⟩, fun z => absurd z (by decide), fun _ => dd_qi (kk _ (dd_un (by decide)) (FG.w _ (by omega)))⟩
theorem M_ifR {d Ln c s : Nat} {I : Nat → Nat → Int32} {L : Nat → Nat → Int64} {K : Int32 → (Nat → Nat → Int32) → (Nat → Nat → Int64) → Prop} {tp : Nat → Nat} {tl p n k v : Nat} {x ef : Int32} {A : List LN} (hd : 85 ≤ d) (hl : tl ≤ 400) (h6 : ∀ j, tp j < 256) (hp : p ≤ tl) (hn : n = A.length) (hn2 : n < 12) (hv : v ≤ 20) (hx : x = nI v) (hA : AT tp tl I p) (h : MY tp tl I A) (hk : I 149 (1372 + 4 * n) = nI k) (hm : (mcat A).length + 3 ≤ p) (ck : MKL tp tl A (ifR tp tl k v ef p) I L K) : dd_Rn d m_X11_readLawLine (95, [.ref 148, .int (nI n), .int (nI (1372 + 4 * n))], [.int x, .int (nI (1372 + 4 * n + 1)), .ref 149], sM Ln I L c s) (dd_RI Ln c s K) := by
  subst hx
  have t1 : tn (nI (1372 + 4 * n + 1)) = 1372 + 4 * n + 1 := nI_clamp (by omega)
  have t2 : tn (nI (1372 + 4 * n + 2)) = 1372 + 4 * n + 2 := nI_clamp (by omega)
  have t3 : tn (nI (1372 + 4 * n + 3)) = 1372 + 4 * n + 3 := nI_clamp (by omega)
  have e2 : nI (1372 + 4 * n) + 2 = nI (1372 + 4 * n + 2) := by rw [li_2, nI_add]
  have e3 : nI (1372 + 4 * n) + 3 = nI (1372 + 4 * n + 3) := by rw [li_3, nI_add]
  have l2 : (wdL 61).length = 2 := by decide
  obtain ⟨p', a1, a2, a3⟩ := hA
  obtain ⟨x11, xT, xS, ⟨x16, xC⟩, hQ⟩ := h
  refine w_X11_readLawLine_95 (by omega) ?_
  rw [nI_1, t1, e2, t2, pk_us, x16]
  refine ⟨⟨nI_pos' (by omega), by omega⟩, ⟨nI_pos' (by omega), by omega⟩, fun _ => ⟨⟨nI_pos' (by omega), by omega⟩, ?_⟩, fun z => absurd (nI_pos' (by omega)) z⟩
  rw [dd_u_u]
  have j9 : ∀ j, j ≠ 1372 + 4 * n + 1 → j ≠ 1372 + 4 * n + 2 → dd_u (dd_u I 149 (upd (upd (I 149) (1372 + 4 * n + 1) (nI v)) (1372 + 4 * n + 2) (nI (mcat A).length))) 148 (upd (I 148) 13 0) 149 j = I 149 j := fun j h1 h2 => by rw [dd_un (by decide), dd_us, pk_un h2, pk_un h1]
  have j91 : dd_u (dd_u I 149 (upd (upd (I 149) (1372 + 4 * n + 1) (nI v)) (1372 + 4 * n + 2) (nI (mcat A).length))) 148 (upd (I 148) 13 0) 149 (1372 + 4 * n + 1) = nI v := by rw [dd_un (by decide), dd_us, pk_un (by omega), pk_us]
  have j92 : dd_u (dd_u I 149 (upd (upd (I 149) (1372 + 4 * n + 1) (nI v)) (1372 + 4 * n + 2) (nI (mcat A).length))) 148 (upd (I 148) 13 0) 149 (1372 + 4 * n + 2) = nI (mcat A).length := by rw [dd_un (by decide), dd_us, pk_us]
  have j8 : ∀ j, j ≠ 13 → dd_u (dd_u I 149 (upd (upd (I 149) (1372 + 4 * n + 1) (nI v)) (1372 + 4 * n + 2) (nI (mcat A).length))) 148 (upd (I 148) 13 0) 148 j = I 148 j := fun j h1 => by rw [dd_us, pk_un h1]
  have j13 : dd_u (dd_u I 149 (upd (upd (I 149) (1372 + 4 * n + 1) (nI v)) (1372 + 4 * n + 2) (nI (mcat A).length))) 148 (upd (I 148) 13 0) 148 13 = nI 0 := by rw [dd_us, pk_us]; rfl
  have jk : ∀ k, k ≠ 148 → k ≠ 149 → dd_u (dd_u I 149 (upd (upd (I 149) (1372 + 4 * n + 1) (nI v)) (1372 + 4 * n + 2) (nI (mcat A).length))) 148 (upd (I 148) 13 0) k = I k := fun k h1 h2 => by rw [dd_un h1, dd_un h2]
  generalize dd_u (dd_u I 149 (upd (upd (I 149) (1372 + 4 * n + 1) (nI v)) (1372 + 4 * n + 2) (nI (mcat A).length))) 148 (upd (I 148) 13 0) = J at *
  have fJ : FG I J := ⟨⟨fun k h1 h2 => jk k h2 (fun u => h1 (by rw [u]; decide)), fun j hj => j8 j (fun u => hj (by rw [u]; decide))⟩, fun j hj => j9 j (by omega) (by omega)⟩
  have mJ : MX tp tl J p 0 (mcat A) := ⟨⟨p', a1, by rw [j8 10 (by decide)]; exact a2, a3⟩, by rw [j8 11 (by decide)]; exact x11, j13, fun j hj => by rw [jk 154 (by decide) (by decide)]; exact xT j hj, xS.of fun k hk => jk k (by omega) (by omega), by rw [j8 16 (by decide)]; exact x16, fun i hi => by rw [j9 _ (by omega) (by omega), j9 _ (by omega) (by omega)]; exact xC i hi⟩
  have fin : ∀ (I1 : Nat → Nat → Int32) (m : List (Nat × Nat)) (cc : List Int32) (q : Nat), ifR tp tl k v ef p = .inr ((k, v, m, cc), q) → MX tp tl I1 q 0 (mcat A ++ m) → FZ J I1 → dd_Rn d m_X11_readLawLine (145, [.ref 148, .int (nI n), .int (nI (1372 + 4 * n))], [], sM Ln I1 L c s) (dd_RI Ln c s K) := by
    intro I1 m cc q er mx fz
    refine w_X11_readLawLine_145 (by omega) ?_
    rw [e3, t3, mx.2.2.2.2.2.1]
    refine ⟨⟨nI_pos' (by omega), by omega⟩, dd_qi (ck.2 _ _ er _ (mx.w _ (by omega)) ?_ (fJ.trans ((FG.z fz).trans (FG.w _ (by omega)))))⟩
    refine MQl.one (hQ.of (by omega) fun j h1 h2 => ?_) ?_ ?_ ?_ ?_
    · rw [dd_us, pk_un (by omega), fz.2 j (by omega), j9 j (by omega) (by omega)]
    · rw [← hn, dd_us, pk_un (by omega), fz.2 _ (by omega), j9 _ (by omega) (by omega)]; exact hk
    · rw [← hn, dd_us, pk_un (by omega), fz.2 _ (by omega), j91]
    · rw [← hn, dd_us, pk_un (by omega), fz.2 _ (by omega), j92]
    · rw [← hn, dd_us, pk_us, List.length_append]
  refine M_passesA (tp := tp) (w := 61) (by omega) (by omega) hl hp h6 mJ (fun z I1 m1 b12 f1 => ?_) (fun z I1 m1 b12 f1 => ?_)
  · refine ⟨fun _ => fin I1 [] _ p (ifR_n z) (by rw [List.append_nil]; exact m1) f1, fun y => absurd rfl y⟩
  · refine ⟨fun y => absurd y (by decide), fun _ => ?_⟩
    have s := stepW hp (by omega) z
    refine M_cond (by omega) hl h6 s.2 m1 (by omega) ⟨fun f ef I2 b12 f2 => ?_, fun m cc q er I2 m2 f2 => ?_⟩
    · exact ⟨fun _ => dd_qi (ck.1 f (ifR_f z ef) I2 b12 (fJ.trans ((FG.z f1).trans (FG.z f2)))), fun y => absurd rfl y⟩
    · exact ⟨fun y => absurd y (by decide), fun _ => fin I2 m _ q (ifR_s z er) m2 (f1.trans f2)⟩
theorem M_lawLine {d Ln c s : Nat} {I : Nat → Nat → Int32} {L : Nat → Nat → Int64} {K : Int32 → (Nat → Nat → Int32) → (Nat → Nat → Int64) → Prop} {tp : Nat → Nat} {tl p n : Nat} {A : List LN} (hd : 90 ≤ d) (hl : tl ≤ 400) (h6 : ∀ j, tp j < 256) (hp : p ≤ tl) (hn : n = A.length) (hn2 : n < 12) (h10 : I 148 10 = nI (le tp tl (sk tp tl p))) (h12 : I 148 12 = nI (sk tp tl p)) (h : MY tp tl I A) (hm : (mcat A).length ≤ p) (ck : MKL tp tl A (lnL tp tl p) I L K) : dd_Ev d m_X11_readLawLine [.ref 148, .int (nI n)] (sM Ln I L c s) (dd_RI Ln c s K) := by
  obtain ⟨h11, hx, hS, hM, hQ⟩ := h
  unfold lnL at ck
  have hb := sk_tl (tp := tp) hp
  have w3 : (wdL 58).length = 3 ∧ (wdL 59).length = 4 ∧ (wdL 60).length = 4 := by decide
  have ek0 : (1372 : Int32) + 4 * nI n = nI (1372 + 4 * n) := by rw [li_1372, li_4, pk_mul, nI_add]
  have tk : tn (nI (1372 + 4 * n)) = 1372 + 4 * n := nI_clamp (by omega)
  have c0 : (0 ≤ nI (1372 + 4 * n) ∧ 1372 + 4 * n < 2220) := ⟨nI_pos' (by omega), by omega⟩
  -- behind the kind's word
  have jx : ∀ (kv : Nat) (x : Int32) (w : Nat), w < 71 → x = nI kv → isW tp tl (sk tp tl p) w = true → (dd_u I 149 (upd (I 149) (1372 + 4 * n) x)) 148 10 = nI (ek tp tl (sk tp tl p)) ∧ MY tp tl (dd_u I 149 (upd (I 149) (1372 + 4 * n) x)) A ∧ (dd_u I 149 (upd (I 149) (1372 + 4 * n) x)) 149 (1372 + 4 * n) = nI kv := by
    intro kv x w hw hxk zw
    have e8 : dd_u I 149 (upd (I 149) (1372 + 4 * n) x) 148 = I 148 := dd_un (by decide)
    refine ⟨by rw [e8, h10, (isW_k hw zw).2], ⟨by rw [e8]; exact h11, fun j hj => by rw [dd_un (by decide)]; exact hx j hj, hS.of fun k hk => dd_un (by omega), ⟨by rw [e8]; exact hM.1, fun i hi => ?_⟩, hQ.of (by omega) fun j h1 h2 => ?_⟩, by rw [dd_us, pk_us]; exact hxk⟩
    · rw [dd_us, pk_un (by omega), pk_un (by omega)]; exact hM.2 i hi
    · rw [dd_us, pk_un (by omega)]
  have num : ∀ (kv : Nat) (x base : Int32) (w : Nat), w < 71 → 3 ≤ (wdL w).length → x = nI kv → isW tp tl (sk tp tl p) w = true → MKL tp tl A (nuR tp tl kv base (ek tp tl (sk tp tl p))) I L K → dd_Ev (d - 1) m_X11_number [.ref 148, .int 0, .int 20] (sM Ln (dd_u I 149 (upd (I 149) (1372 + 4 * n) x)) L c s) (dd_RI Ln c s (fun x4 I4 L4 => dd_Rn d m_X11_readLawLine (95, [.ref 148, .int (nI n), .int (nI (1372 + 4 * n))], [.int x4, .int (nI (1372 + 4 * n + 1)), .ref 149], sM Ln I4 L4 c s) (dd_RI Ln c s K))) := by
    intro kv x base w hw hw3 hxk zw ck
    have s := stepW hp hw zw
    obtain ⟨b10, bY, bk⟩ := jx kv x w hw hxk zw
    have fw : FG I (dd_u I 149 (upd (I 149) (1372 + 4 * n) x)) := FG.w x (by omega)
    generalize dd_u I 149 (upd (I 149) (1372 + 4 * n) x) = J at *
    refine M_number (tp := tp) (p := ek tp tl (sk tp tl p)) (m := 21) (by omega) (by omega) rfl hl s.2 b10 bY.1 bY.2.1 h6 (fun en I2 b12 f2 => ?_) (fun v en I2 b10' b12 f2 => ?_)
    · exact M_ifN (by omega) hn2 fun I3 e8 f3 => ck.1 _ (nuR_n en) I3 (by rw [e8]; exact b12) (fw.trans ((FG.z (FZ.r f2)).trans f3))
    · have hv := numA_s en
      have s2 := stepP s.2 (show ¬ kd tp tl (sk tp tl (ek tp tl (sk tp tl p))) = 0 by omega)
      rw [nuR_s en] at ck
      have e9 : I2 149 = J 149 := f2.1 149 List.not_mem_nil (by decide)
      exact M_ifR (tp := tp) (by omega) hl h6 s2.2 hn hn2 (by omega) rfl (AT.at s2.2 b10') (bY.r f2) (by rw [e9]; exact bk) (by omega) (ck.g (fw.trans (FG.z (FZ.r f2))))
  refine w_X11_readLawLine_0 (by omega) ?_
  rw [ek0]
  simp only [nI_1]
  rw [tk]
  simp only [pk_us]
  refine M_isWord (tp := tp) (b := sk tp tl p) (w := 58) (by omega) (by omega) hS hl hb h10 h12 hx h6 ?_
  rw [bI_z]
  cases z1 : isW tp tl (sk tp tl p) 58 with
  | true =>
    rw [if_pos z1] at ck
    exact ⟨fun y => (by cases y), fun _ => ⟨c0, c0, fun _ => ⟨c0, fun y => absurd y (by decide), fun _ => num 0 0 1000 58 (by omega) (by omega) rfl z1 ck⟩, fun y => absurd (by decide) y⟩⟩
  | false =>
  rw [if_neg (by rw [z1]; decide)] at ck
  refine ⟨fun _ => ?_, fun y => absurd rfl y⟩
  refine M_isWord (tp := tp) (b := sk tp tl p) (w := 59) (by omega) (by omega) hS hl hb h10 h12 hx h6 ?_
  rw [bI_z]
  cases z2 : isW tp tl (sk tp tl p) 59 with
  | true =>
    rw [if_pos z2] at ck
    exact ⟨fun y => (by cases y), fun _ => ⟨c0, c0, fun _ => ⟨c0, fun y => absurd y (by decide), fun _ => num 1 1 1100 59 (by omega) (by omega) rfl z2 ck⟩, fun y => absurd (by decide) y⟩⟩
  | false =>
  rw [if_neg (by rw [z2]; decide)] at ck
  refine ⟨fun _ => ?_, fun y => absurd rfl y⟩
  refine M_isWord (tp := tp) (b := sk tp tl p) (w := 60) (by omega) (by omega) hS hl hb h10 h12 hx h6 ?_
  rw [bI_z]
  cases z3 : isW tp tl (sk tp tl p) 60 with
  | true =>
    rw [if_pos z3] at ck
    have s := stepW hp (by omega) z3
    obtain ⟨b10, bY, bk⟩ := jx 2 2 60 (by omega) rfl z3
    have fw : FG I (dd_u I 149 (upd (I 149) (1372 + 4 * n) 2)) := FG.w 2 (by omega)
    refine ⟨fun y => (by cases y), fun _ => ⟨c0, c0, fun _ => ⟨c0, fun _ => ?_, fun y => absurd trivial y⟩, fun y => absurd (by decide) y⟩⟩
    exact M_ifR (tp := tp) (v := 1) (by omega) hl h6 s.2 hn hn2 (by omega) rfl (AT.at s.2 b10) bY bk (by omega) (ck.g fw)
  | false =>
  rw [if_neg (by rw [z3]; decide)] at ck
  refine ⟨fun _ => ⟨c0, c0, fun y => absurd y (by decide), fun _ => dd_qi (ck.1 _ rfl _ ?_ (FG.w _ (by omega)))⟩, fun y => absurd rfl y⟩
  rw [dd_un (by decide)]
  exact h12
/-! all the lines -/
theorem M_lawLoop {K : Int32 → (Nat → Nat → Int32) → (Nat → Nat → Int64) → Prop} {d Ln c s : Nat} {L : Nat → Nat → Int64} {tp : Nat → Nat} {tl : Nat} (hd : 94 ≤ d) (hl : tl ≤ 400) (h6 : ∀ j, tp j < 256) {I0 : Nat → Nat → Int32} (r : Nat ⊕ (List LN)) (kf : ∀ f, r = .inl f → ∀ I', I' 148 12 = nI f → FG I0 I' → K (-1) I' L) (kt : ∀ A, r = .inr A → A.length ≤ 12 → LGs A → (mcat A).length ≤ 400 → ∀ I', ML I' (mcat A) → MQl I' A → FG I0 I' → K (nI A.length) I' L) : ∀ k n A p I, n = A.length → n + k = 12 → r = rdL tp tl k p A → p ≤ tl → LGs A → (mcat A).length ≤ p → I 148 10 = nI p → MY tp tl I A → FG I0 I → dd_Rn d m_X11_readAll (28, [.ref 148, .int 0, .int (nI n)], [], sM Ln I L c s) (dd_RI Ln c s K) := by
  intro k
  induction k with
  | zero =>
    intro n A p I hA hn er hp hg hm h10 h fr
    refine w_X11_readAll_28 (by omega) ?_
    refine w_X11_readLine_0 (by omega) ?_
    refine M_letters (tp := tp) (by omega) hl hp h10 h.1 h.2.1 h6 fun J j10 j12 fj => ?_
    rw [li_12, nI_leI (by omega) (by omega)]
    refine ⟨fun _ => ⟨fun _ => dd_qi ⟨fun _ => dd_qi (kf _ er J j12 (fr.trans (FG.z (FZ.r fj)))), fun z => absurd rfl z⟩, fun z => absurd (by omega) z⟩, fun z => absurd rfl z⟩
  | succ k ih =>
    intro n A p I hA hn er hp hg hm h10 h fr
    refine w_X11_readAll_28 (by omega) ?_
    refine w_X11_readLine_0 (by omega) ?_
    refine M_letters (tp := tp) (by omega) hl hp h10 h.1 h.2.1 h6 fun J j10 j12 fj => ?_
    rw [li_12, nI_leI (by omega) (by omega)]
    refine ⟨fun _ => ⟨fun z => absurd z (by omega), fun _ => ⟨fun _ => ?_, fun z => absurd rfl z⟩⟩, fun z => absurd rfl z⟩
    have fgj := FG.z (FZ.r fj)
    refine M_lawLine (tp := tp) (by omega) hl h6 hp hA (by omega) j10 j12 (h.r fj) hm ⟨fun f e I' h5' g => ?_, fun x p' e I' mx mq g => ?_⟩
    · exact ⟨fun _ => dd_qi ⟨fun _ => dd_qi (kf f (by rw [er, rdL, e]) I' h5' (fr.trans (fgj.trans g))), fun z => absurd rfl z⟩, fun z => absurd rfl z⟩
    · obtain ⟨a1', a2, a3, a4, a5⟩ := lnL_ok hl hp e
      have er2 : r = if kd tp tl (sk tp tl p') = 0 then .inr (A ++ [x]) else if isS tp tl (sk tp tl p') 59 = true then rdL tp tl k (ek tp tl (sk tp tl p')) (A ++ [x]) else .inl (sk tp tl p') := by rw [er, rdL, e]
      have g' := fr.trans (fgj.trans g)
      rw [← mcat_s] at mx
      have lA : (A ++ [x]).length = n + 1 := by rw [List.length_append, hA]; rfl
      have lc : (mcat (A ++ [x])).length = (mcat A).length + x.2.2.1.length := by rw [mcat_s, List.length_append]
      have hg' : LGs (A ++ [x]) := fun y hy => by
        rcases List.mem_append.mp hy with u | u
        · exact hg y u
        · rw [List.mem_singleton.mp u]; exact a1'
      refine ⟨fun z => absurd z (by decide), fun _ => dd_qi ⟨fun z => absurd z (by decide), fun _ => ?_⟩⟩
      obtain ⟨⟨q', q1, q2, q3⟩, x11, x13, xT, xS, xM⟩ := mx
      refine M_blanks (tp := tp) (by omega) hl q1 q2 x11 xT h6 fun I2 c10 c12 f2 => ?_
      rw [q3] at c10 c12
      have hs := sk_tl (tp := tp) a3
      have c11 : I2 148 11 = nI tl := by rw [f2.2 11 (by decide)]; exact x11
      have fr2 := g'.trans (FG.z (FZ.r f2))
      have y2 : MY tp tl I2 (A ++ [x]) := MY.r ⟨x11, xT, xS, xM, mq⟩ f2
      rw [c10, c11, nI_eq (by omega) (by omega), nI_1]
      refine ⟨fun z => dd_qi ?_, fun z => ?_⟩
      · rw [← lA]
        exact kt (A ++ [x]) (by rw [er2, if_pos (kd0.mpr (by omega))]) (by omega) hg' (by omega) I2 y2.2.2.2.1 y2.2.2.2.2 fr2
      have z0 : ¬ kd tp tl (sk tp tl p') = 0 := fun u => by have := kd0.mp u; omega
      refine M_isAt (tp := tp) (tl := tl) (q := sk tp tl p') (lo := 59) (hi := 59) (by omega) hl (by omega) c10 c11 y2.2.1 h6 (by omega) (by omega) (by omega) ?_
      rw [isR_S, bI_z]
      cases ns : isS tp tl (sk tp tl p') 59 with
      | false => exact ⟨fun _ => dd_qi (kf _ (by rw [er2, if_neg z0, if_neg (by rw [ns]; decide)]) I2 c12 fr2), fun z => absurd rfl z⟩
      | true =>
        refine ⟨fun z => (by cases z), fun _ => ?_⟩
        rw [c10, nI_1, ← (isS_k (by omega) ns).2.1]
        have f3 : FR 148 [] [10, 12] I2 (dd_u I2 148 (upd (I2 148) 10 (nI (ek tp tl (sk tp tl p'))))) := (FR.refl I2).v (by decide)
        have s := stepS a3 (by omega) ns
        exact ih (n + 1) (A ++ [x]) (ek tp tl (sk tp tl p')) _ lA.symm (by omega) (by rw [er2, if_neg z0, if_pos ns]) s.2 hg' (by omega) (by rw [dd_us, pk_us]) (y2.r f3) (fr2.trans (FG.z (FZ.r f3)))
abbrev BL : List Nat := [0, 9, 10, 11, 12, 13, 16]
theorem M_lawLines {d Ln c s : Nat} {I : Nat → Nat → Int32} {L : Nat → Nat → Int64} {K : Int32 → (Nat → Nat → Int32) → (Nat → Nat → Int64) → Prop} {tp : Nat → Nat} {tl : Nat} (hd : 96 ≤ d) (hS : STR I) (hl : tl ≤ 400) (h9 : I 148 9 = nI tl) (hx : TXm tp I) (h6 : ∀ j, tp j < 256) (kf : ∀ f, rdB tp tl = .inl f → ∀ I', I' 148 12 = nI f → I' 148 0 = 0 → I' 148 9 = 0 → FR 148 [149] BL I I' → (∀ j, j < 1371 → I' 149 j = I 149 j) → K (-1) I' L) (kt : ∀ A, rdB tp tl = .inr A → A.length ≤ 12 → LGs A → (mcat A).length ≤ 400 → ∀ I', ML I' (mcat A) → MQl I' A → I' 148 0 = 0 → I' 148 9 = 0 → FR 148 [149] BL I I' → (∀ j, j < 1371 → I' 149 j = I 149 j) → K (nI A.length) I' L) : dd_Ev d m_X11_readAll [.ref 148, .int 0] (sM Ln I L c s) (dd_RI Ln c s K) := by
  refine w_X11_readAll_0 (by omega) ?_
  simp only [dd_u_u]
  rw [h9]
  have j0 : dd_u I 148 (upd (upd (upd (upd (upd (I 148) 0 0) 11 (nI tl)) 9 0) 10 0) 16 0) 148 0 = 0 := by rw [dd_us, pk_un (by decide), pk_un (by decide), pk_un (by decide), pk_un (by decide), pk_us]
  have j9 : dd_u I 148 (upd (upd (upd (upd (upd (I 148) 0 0) 11 (nI tl)) 9 0) 10 0) 16 0) 148 9 = 0 := by rw [dd_us, pk_un (by decide), pk_un (by decide), pk_us]
  have j10 : dd_u I 148 (upd (upd (upd (upd (upd (I 148) 0 0) 11 (nI tl)) 9 0) 10 0) 16 0) 148 10 = nI 0 := by rw [dd_us, pk_un (by decide), pk_us]; rfl
  have j11 : dd_u I 148 (upd (upd (upd (upd (upd (I 148) 0 0) 11 (nI tl)) 9 0) 10 0) 16 0) 148 11 = nI tl := by rw [dd_us, pk_un (by decide), pk_un (by decide), pk_un (by decide), pk_us]
  have j16 : dd_u I 148 (upd (upd (upd (upd (upd (I 148) 0 0) 11 (nI tl)) 9 0) 10 0) 16 0) 148 16 = nI 0 := by rw [dd_us, pk_us]; rfl
  have fJ : FR 148 [] BR I (dd_u I 148 (upd (upd (upd (upd (upd (I 148) 0 0) 11 (nI tl)) 9 0) 10 0) 16 0)) := by
    refine ⟨fun k _ z => dd_un z, fun j hj => ?_⟩
    simp only [List.mem_cons, List.not_mem_nil, or_false, not_or] at hj
    rw [dd_us, pk_un (by omega), pk_un (by omega), pk_un (by omega), pk_un (by omega), pk_un (by omega)]
  generalize dd_u I 148 (upd (upd (upd (upd (upd (I 148) 0 0) 11 (nI tl)) 9 0) 10 0) 16 0) = J at *
  refine M_blanks (tp := tp) (p := 0) (by omega) hl (Nat.zero_le _) j10 j11 (hx.f fJ (by decide)) h6 fun I1 b10 b12 f1 => ?_
  have hs := sk_tl (tp := tp) (Nat.zero_le tl)
  have b11 : I1 148 11 = nI tl := by rw [f1.2 11 (by decide)]; exact j11
  have fin : ∀ I', FG I1 I' → I' 148 0 = 0 ∧ I' 148 9 = 0 ∧ FR 148 [149] BL I I' ∧ ∀ j, j < 1371 → I' 149 j = I 149 j := fun I' f => by
    have g := (FG.z (FZ.r f1)).trans f
    refine ⟨by rw [g.1.2 0 (by decide)]; exact j0, by rw [g.1.2 9 (by decide)]; exact j9, (fJ.mono (by decide) (by decide)).trans (g.1.mono (fun _ q => q) (by decide)), fun j hj => ?_⟩
    rw [g.2 j hj, fJ.1 149 List.not_mem_nil (by decide)]
  have m0 : ML I1 [] := ⟨by rw [f1.2 16 (by decide)]; exact j16, fun i hi => absurd hi (Nat.not_lt_zero i)⟩
  have q0 : MQl I1 [] := fun i hi => absurd hi (Nat.not_lt_zero i)
  have g0 : LGs [] := fun x hx => absurd hx List.not_mem_nil
  rw [b10, b11, nI_eq (by omega) (by omega)]
  have sk_2 : sk tp tl (sk tp tl 0) = sk tp tl 0 := rn_n (rn_end (p := isB tp) (tl := tl) 0)
  refine ⟨fun z => ?_, fun z => ?_⟩
  · have f := fin I1 (FG.refl I1)
    exact dd_qi (kt [] (by unfold rdB; rw [if_pos (kd0.mpr (by omega))]) (Nat.zero_le _) g0 (Nat.zero_le _) I1 m0 q0 f.1 f.2.1 f.2.2.1 f.2.2.2)
  · have z0 : ¬ kd tp tl (sk tp tl 0) = 0 := fun u => by have := kd0.mp u; omega
    have er : rdB tp tl = rdL tp tl 12 (sk tp tl 0) [] := by
      unfold rdB
      rw [if_neg z0]
      have : lnL tp tl (sk tp tl 0) = lnL tp tl 0 := by unfold lnL; rw [sk_2]
      rw [rdL, rdL, this]
    refine M_lawLoop (tp := tp) (tl := tl) (I0 := I1) (by omega) hl h6 (rdB tp tl) (fun f e I' h5 g => ?_) (fun A e hA hg hm I' ml mq g => ?_) 12 0 [] (sk tp tl 0) I1 rfl rfl er hs g0 (Nat.zero_le _) b10 ⟨b11, (hx.f fJ (by decide)).f f1 (by decide), (hS.f fJ (by simp)).f f1 (by simp), m0, q0⟩ (FG.refl I1)
    · have q := fin I' g
      exact kf f e I' h5 q.1 q.2.1 q.2.2.1 q.2.2.2
    · have q := fin I' g
      exact kt A e hA hg hm I' ml mq q.1 q.2.1 q.2.2.1 q.2.2.2
