/-! law: the class's conditions -/
def fA (a : Bool) : List Int32 := if a = true then [-5] else []
def fO (o : Bool) : List Int32 := if o = true then [-6] else []
theorem fA_l (a : Bool) : (fA a).length ≤ 1 := by cases a <;> decide
theorem fO_l (a : Bool) : (fO a).length ≤ 1 := by cases a <;> decide
theorem head_app {x : Int32} {js S : List Int32} (h1 : ¬ js.head? = some x) (h2 : ¬ S.head? = some x) : ¬ (js ++ S).head? = some x := by
  cases js with
  | nil => exact h2
  | cons y js => exact h1
/-- a join read -/
theorem C_join {d Ln c s : Nat} {I : Nat → Nat → Int32} {L : Nat → Nat → Int64} {K : (Nat → Nat → Int32) → (Nat → Nat → Int64) → Prop} {tp : Nat → Nat} {tl p e br : Nat} {a1 : Int32} {js S l : List Int32} (hd : 34 ≤ d) (hl : tl ≤ 400) (h6 : ∀ j, tp j < 256) (hp : p ≤ tl) (ha : a1 = -5 ∨ a1 = -6) (h5 : ¬ S.head? = some (-5)) (h6' : a1 = -6 → ¬ S.head? = some (-6)) (hj : ∀ x, x ∈ js → x = -5 ∨ (a1 = -6 ∧ x = -6)) (hs : js.length + S.length ≤ 20) (hc : l.length + js.length ≤ 400) (h : CX tp tl I p e br (js ++ S) l) (kk : ∀ I', CX tp tl I' (ek tp tl (sk tp tl p)) e br (a1 :: S) (l ++ js) → FYl I I' → K I' L) : dd_Ev d m_X3_join [.ref 131, .int a1] (sM Ln I L c s) (dd_RV Ln c s K) := by
  have hq := ek_tl tp tl _ (sk_tl (tp := tp) hp)
  refine w_X3_join_0 (by omega) ?_
  refine w_X3_addJoins_0 (by omega) ?_
  refine C_addJoins (by omega) (by omega) ha h5 h6' js l I hj (by omega) hc h fun I1 h1 f1 => ?_
  refine C_putUp (by omega) h1 (by omega) fun I2 h2 f2 => ?_
  exact C_advance (tp := tp) (by omega) (Or.inr rfl) hl hq h2.1.1 h2.1.2.2.2 h2.2.1 h6 fun I3 t3 f3 => dd_qV (kk I3 (h2.a f3 t3) (f1.trans (f2.trans (FYl.a f3))))
/-- a not or a bracket opened -/
theorem C_open {d Ln c s : Nat} {I : Nat → Nat → Int32} {L : Nat → Nat → Int64} {K : (Nat → Nat → Int32) → (Nat → Nat → Int64) → Prop} {tp : Nat → Nat} {tl p e br : Nat} {st l : List Int32} (hd : 34 ≤ d) (hl : tl ≤ 400) (h6 : ∀ j, tp j < 256) (hp : p ≤ tl) (hs : st.length < 21) (h : CX tp tl I p e br st l) (k1 : isS tp tl (sk tp tl p) 40 = true → ∀ I', CX tp tl I' (ek tp tl (sk tp tl p)) (e + 1) (br + 1) (0 :: st) l → FYl I I' → K I' L) (k2 : isS tp tl (sk tp tl p) 40 = false → ∀ I', CX tp tl I' (ek tp tl (sk tp tl p)) (e + 1) br (-4 :: st) l → FYl I I' → K I' L) : dd_Ev d m_X3_open [.ref 131] (sM Ln I L c s) (dd_RV Ln c s K) := by
  have hq := ek_tl tp tl _ (sk_tl (tp := tp) hp)
  refine w_X3_open_0 (by omega) ?_
  refine C_isSign (tp := tp) (v := 40) (by omega) (Or.inr rfl) (by omega) hl hp h.1 h.2.1 h6 ?_
  rw [bI_z]
  have step : ∀ (I2 : Nat → Nat → Int32) (st : List Int32) (br' : Nat) (v : Int32), CX tp tl I2 p e br st l → FYl I I2 → I2 131 10 + v = nI br' → (∀ I', CX tp tl I' (ek tp tl (sk tp tl p)) (e + 1) br' st l → FYl I I' → K I' L) → dd_Ev (d - 1) m_X4_advance [.ref 131] (sM Ln (dd_u (dd_u I2 131 (upd (I2 131) 9 ((I2 131 9) + 1))) 131 (upd (upd (I2 131) 9 ((I2 131 9) + 1)) 10 ((I2 131 10) + v))) L c s) (dd_RV Ln c s (fun I3 L3 => dd_RV Ln c s K (none, .null, sM Ln I3 L3 c s))) := by
    intro I2 st br' v h2 f2 ev kk
    have e9 : I2 131 9 + 1 = nI (e + 1) := by rw [h2.2.2.2.2.2.2.1, nI_1]
    have d1 := h2.deep (e' := e + 1)
    have b1 := d1.1.brk (br' := br')
    have eM : dd_u (dd_u I2 131 (upd (I2 131) 9 ((I2 131 9) + 1))) 131 (upd (upd (I2 131) 9 ((I2 131 9) + 1)) 10 ((I2 131 10) + v)) = dd_u (dd_u I2 131 (upd (I2 131) 9 (nI (e + 1)))) 131 (upd (dd_u I2 131 (upd (I2 131) 9 (nI (e + 1))) 131) 10 (nI br')) := by rw [dd_us, e9, ev]
    rw [eM]
    exact C_advance (tp := tp) (by omega) (Or.inr rfl) hl hq b1.1.1.1 b1.1.1.2.2.2 b1.1.2.1 h6 fun I3 t3 f3 => dd_qV (kk I3 (b1.1.a f3 t3) (f2.trans (d1.2.trans (b1.2.trans (FYl.a f3)))))
  cases z : isS tp tl (sk tp tl p) 40 with
  | true =>
    refine ⟨fun y => (by cases y), fun _ => ?_⟩
    refine C_putUp (by omega) h hs fun I2 h2 f2 => ?_
    refine ⟨fun y => absurd y (by decide), fun _ => step I2 _ (br + 1) 1 h2 f2 (by rw [h2.2.2.2.2.2.2.2.1, nI_1]) (k1 z)⟩
  | false =>
    refine ⟨fun _ => ?_, fun y => absurd rfl y⟩
    refine C_putUp (by omega) h hs fun I2 h2 f2 => ?_
    refine ⟨fun _ => step I2 _ br 0 h2 f2 (by rw [h2.2.2.2.2.2.2.2.1, li_0, nI_add]; rfl) (k2 z), fun y => absurd rfl y⟩
/-- a bracket closed -/
theorem C_close {d Ln c s : Nat} {I : Nat → Nat → Int32} {L : Nat → Nat → Int64} {K : (Nat → Nat → Int32) → (Nat → Nat → Int64) → Prop} {tp : Nat → Nat} {tl p e br k : Nat} {js S l : List Int32} (hd : 34 ≤ d) (hl : tl ≤ 400) (h6 : ∀ j, tp j < 256) (hp : p ≤ tl) (hj : ∀ x, x ∈ js → x = -5 ∨ x = -6) (hs : js.length + (k + S.length) ≤ 20) (hc : l.length + js.length + k ≤ 400) (h4 : ¬ S.head? = some (-4)) (hk : k ≤ e) (he : e ≤ 6) (h : CX tp tl I p (e + 1) (br + 1) (js ++ (0 :: (nots k ++ S))) l) (kk : ∀ I', CX tp tl I' (ek tp tl (sk tp tl p)) (e - k) br S (l ++ js ++ nots k) → FYl I I' → K I' L) : dd_Ev d m_X3_close [.ref 131] (sM Ln I L c s) (dd_RV Ln c s K) := by
  have hq := ek_tl tp tl _ (sk_tl (tp := tp) hp)
  have ln : (nots k ++ S).length = k + S.length := by rw [List.length_append, nots_l]
  have ln1 : ((0 : Int32) :: (nots k ++ S)).length = k + S.length + 1 := by show (nots k ++ S).length + 1 = _; omega
  refine w_X3_close_0 (by omega) ?_
  refine w_X3_addJoins_0 (by omega) ?_
  refine C_addJoins (S := 0 :: (nots k ++ S)) (by omega) (by omega) (Or.inr rfl) (by simp) (fun _ => by simp) js l I (fun x hx => by rcases hj x hx with u | u; exact Or.inl u; exact Or.inr ⟨rfl, u⟩) (by omega) (by omega) h fun I1 h1 f1 => ?_
  refine C_isTop (st := 0 :: (nots k ++ S)) (by omega) h1.2.2.2.2.1 h1.2.2.2.2.2.1 (by omega) (fun _ => ⟨fun y => absurd y (by decide), fun _ => ?_⟩) (fun y => absurd rfl y)
  have pp := h1.pop (by omega)
  have d1 := pp.1.deep (e' := e)
  have b1 := d1.1.brk (br' := br)
  have e9 : I1 131 9 - 1 = nI e := by rw [h1.2.2.2.2.2.2.1, li_1, pk_sub (by omega)]; rfl
  have e10 : I1 131 10 - 1 = nI br := by
    have h8 := h1.2.2.2.2.2.2.2.1
    rw [h8, li_1, pk_sub (by omega)]; rfl
  have eM : dd_u (dd_u (dd_u I1 131 (upd (I1 131) 8 ((I1 131 8) - 1))) 131 (upd (upd (I1 131) 8 ((I1 131 8) - 1)) 9 ((I1 131 9) - 1))) 131 (upd (upd (upd (I1 131) 8 ((I1 131 8) - 1)) 9 ((I1 131 9) - 1)) 10 ((I1 131 10) - 1)) = dd_u (dd_u (dd_u I1 131 (upd (I1 131) 8 (I1 131 8 - 1))) 131 (upd (dd_u I1 131 (upd (I1 131) 8 (I1 131 8 - 1)) 131) 9 (nI e))) 131 (upd (dd_u (dd_u I1 131 (upd (I1 131) 8 (I1 131 8 - 1))) 131 (upd (dd_u I1 131 (upd (I1 131) 8 (I1 131 8 - 1)) 131) 9 (nI e)) 131) 10 (nI br)) := by rw [e9, e10, dd_us, dd_us]
  rw [eM]
  refine w_X3_addNots_0 (by omega) ?_
  have lj : (l ++ js).length = l.length + js.length := List.length_append
  refine C_addNots (by omega) h4 k e (l ++ js) _ hk (by omega) (by omega) (by omega) b1.1 fun I2 h2 f2 => ?_
  exact C_advance (tp := tp) (by omega) (Or.inr rfl) hl hq h2.1.1 h2.1.2.2.2 h2.2.1 h6 fun I3 t3 f3 => dd_qV (kk I3 (h2.a f3 t3) (f1.trans (pp.2.trans (d1.2.trans (b1.2.trans (f2.trans (FYl.a f3)))))))
theorem getD_lt {d : Int32} (l : List Int32) (i : Nat) (h : i < l.length) : l.getD i d = l[i] := by
  rw [List.getD_eq_getElem?_getD, List.getElem?_eq_getElem h]
  rfl
/-- two words do not stand at one place -/
theorem isW_x {tp : Nat → Nat} {tl b w w' : Nat} (h : isW tp tl b w = true) (h' : isW tp tl b w' = true) : wdL w = wdL w' := by
  unfold isW at h h'
  rw [Bool.and_eq_true, decide_eq_true_eq, allN_iff] at h h'
  have e : (wdL w).length = (wdL w').length := h.1.symm.trans h'.1
  refine List.ext_getElem e fun i h1 h2 => ?_
  have a := of_decide_eq_true (h.2 i h1)
  have b := of_decide_eq_true (h'.2 i h2)
  rw [getD_lt _ _ h1] at a
  rw [getD_lt _ _ h2] at b
  exact a.symm.trans b
theorem isW_nS {tp : Nat → Nat} {tl b w v : Nat} (hw : w < 71) (hv : sgn v) (h : isW tp tl b w = true) : isS tp tl b v = false := by
  cases q : isS tp tl b v with
  | false => rfl
  | true =>
    have := (isS_k hv q).1
    have := (isW_k hw h).1
    omega
/-- the loop of a condition -/
abbrev RQ (d Ln c s : Nat) (K : Int32 → (Nat → Nat → Int32) → (Nat → Nat → Int64) → Prop) (L : Nat → Nat → Int64) (b : Int32) (t : Nat) (I : Nat → Nat → Int32) : Prop := dd_Rn d m_X3_readCondition (19, [.ref 131, .int b, .int (nI t)], [], sM Ln I L c s) (dd_RI Ln c s K)
theorem C_prs {d Ln c s : Nat} {L : Nat → Nat → Int64} {tp : Nat → Nat} {tl : Nat} {K : Int32 → (Nat → Nat → Int32) → (Nat → Nat → Int64) → Prop} (hd : 45 ≤ d) (hl : tl ≤ 400) (h6 : ∀ j, tp j < 256) : ∀ n,
    (∀ e p t k br S l I, e ≤ 6 → p ≤ tl → tl < p + n → t ≤ p → CX tp tl I p e br (nots k ++ S) l → ¬ S.head? = some (-4) → br + k ≤ e → k + S.length ≤ 3 * e + 2 → l.length + k + S.length + 2 ≤ p
      → (∀ f, (prs tp tl n).1 e p = .inl f → ∀ I', I' 131 5 = nI f → FYl I I' → K 0 I' L)
      → (∀ m cc q, (prs tp tl n).1 e p = .inr (m, cc, q) → ∀ I' t', CX tp tl I' q (e - k) br S (l ++ cc ++ nots k) → t' ≤ q → FYl I I' → RQ d Ln c s K L 1 t' I')
      → RQ d Ln c s K L 0 t I)
    ∧ (∀ e m cc p t a br S l0 l I, e ≤ 6 → p ≤ tl → tl < p + n → t ≤ p → CX tp tl I p e br (fA a ++ S) l → l ++ fA a = l0 ++ cc → ¬ S.head? = some (-5) → ¬ S.head? = some (-4) → br ≤ e → S.length ≤ 3 * e + 1 → l.length + (fA a).length + S.length + 1 ≤ p → GB (hA e + 1) m cc
      → (∀ f, (prs tp tl n).2.1 e m cc p = .inl f → ∀ I', I' 131 5 = nI f → FYl I I' → K 0 I' L)
      → (∀ m' cc' q, (prs tp tl n).2.1 e m cc p = .inr (m', cc', q) → ∀ I' t' a' l', CX tp tl I' q e br (fA a' ++ S) l' → l' ++ fA a' = l0 ++ cc' → isW tp tl (sk tp tl q) 69 = false → t' ≤ q → FYl I I' → RQ d Ln c s K L 1 t' I')
      → RQ d Ln c s K L 1 t I)
    ∧ (∀ e m cc p t a o br S l0 l I, e ≤ 6 → p ≤ tl → tl < p + n → t ≤ p → CX tp tl I p e br (fA a ++ (fO o ++ S)) l → l ++ fA a ++ fO o = l0 ++ cc → isW tp tl (sk tp tl p) 69 = false → ¬ S.head? = some (-5) → ¬ S.head? = some (-6) → ¬ S.head? = some (-4) → br ≤ e → S.length ≤ 3 * e → l.length + (fA a).length + (fO o).length + S.length + 1 ≤ p → GB (hA e + 2) m cc
      → (∀ f, (prs tp tl n).2.2 e m cc p = .inl f → ∀ I', I' 131 5 = nI f → FYl I I' → K 0 I' L)
      → (∀ m' cc' q, (prs tp tl n).2.2 e m cc p = .inr (m', cc', q) → ∀ I' t' a' o' l', CX tp tl I' q e br (fA a' ++ (fO o' ++ S)) l' → l' ++ fA a' ++ fO o' = l0 ++ cc' → isW tp tl (sk tp tl q) 69 = false → isW tp tl (sk tp tl q) 70 = false → t' ≤ q → FYl I I' → RQ d Ln c s K L 1 t' I')
      → RQ d Ln c s K L 1 t I) := by
  intro n
  induction n with
  | zero => exact ⟨fun e p t k br S l I _ hp ht => by omega, fun e m cc p t a br S l0 l I _ hp ht => by omega, fun e m cc p t a o br S l0 l I _ hp ht => by omega⟩
  | succ n ih =>
    obtain ⟨iA, iB, iC⟩ := ih
    obtain ⟨oA, oB, oC⟩ := prs_ok (tp := tp) hl n
    refine ⟨?_, ?_, ?_⟩
    · intro e p t k br S l I he hp ht htp h h4 hbk hS hm kf kt
      have hk : k ≤ e := by omega
      rw [prs] at kf kt
      simp only at kf kt
      have lk : (nots k ++ S).length = k + S.length := by rw [List.length_append, nots_l]
      refine w_X3_readCondition_19 (by omega) ?_
      rw [li_400, nI_ltI (by omega) (by omega)]
      refine ⟨fun z => absurd z (by omega), fun _ => ⟨fun _ => ?_, fun z => absurd rfl z⟩⟩
      refine C_isWord (tp := tp) (w := 4) (by omega) (Or.inr rfl) (by omega) h.2.2.1 hl hp h.1 h.2.1 h6 ?_
      rw [bI_z, isW_c (w := 4) (w' := 62) rfl, nI_1]
      cases zN : isW tp tl (sk tp tl p) 62 with
      | true =>
        have zB := isW_nS (v := 40) (by omega) (by omega) zN
        rw [if_neg (by rw [zB]; decide), if_pos zN] at kf kt
        have s := stepW hp (by omega) zN
        have l3 : (wdL 62).length = 3 := by decide
        refine ⟨fun y => (by cases y), fun _ => ?_⟩
        rw [h.2.2.2.2.2.2.1, li_6, nI_ltI (by omega) (by omega)]
        refine ⟨fun ze => ?_, fun ze => ?_⟩
        · rw [if_neg (by omega)] at kf kt
          refine C_open (tp := tp) (by omega) hl h6 hp (by omega) h (fun y => by rw [zB] at y; cases y) (fun _ I1 h1 f1 => ?_)
          refine iA (e + 1) _ (t + 1) (k + 1) br S l I1 (by omega) s.2 (by omega) (by omega) h1 h4 (by omega) (by omega) (by omega) (fun f ef I2 b5 f2 => kf f (bnd_l ef) I2 b5 (f1.trans f2)) (fun m cc q er I2 t' h2 ht' f2 => ?_)
          refine kt (m ++ [(14, 0)]) (cc ++ [-4]) q (bnd_r er) I2 t' ?_ ht' (f1.trans f2)
          have eL : l ++ (cc ++ [-4]) ++ nots k = l ++ cc ++ nots (k + 1) := by rw [nots_s, List.append_assoc, List.append_assoc, List.append_assoc]; rfl
          rw [eL, show e - k = e + 1 - (k + 1) by omega]
          exact h2
        · rw [if_pos (by omega)] at kf
          exact C_refuse (by omega) (Or.inr rfl) h.1.2.2.1 fun I' h5 f _ => ⟨Or.inl rfl, dd_qi (kf _ rfl I' h5 (FYl.b f))⟩
      | false =>
      refine ⟨fun _ => ?_, fun y => absurd rfl y⟩
      refine C_isSign (tp := tp) (v := 40) (by omega) (Or.inr rfl) (by omega) hl hp h.1 h.2.1 h6 ?_
      rw [bI_z]
      cases zB : isS tp tl (sk tp tl p) 40 with
      | true =>
        rw [if_pos zB] at kf kt
        have s := stepS hp (by omega) zB
        refine ⟨fun y => (by cases y), fun _ => ?_⟩
        rw [h.2.2.2.2.2.2.1, li_6, nI_ltI (by omega) (by omega)]
        refine ⟨fun ze => ?_, fun ze => ?_⟩
        · rw [if_neg (by omega)] at kf kt
          refine C_open (tp := tp) (by omega) hl h6 hp (by omega) h (fun _ I1 h1 f1 => ?_) (fun y => by rw [zB] at y; cases y)
          have lS : ((0 : Int32) :: (nots k ++ S)).length = k + S.length + 1 := by show (nots k ++ S).length + 1 = _; omega
          refine iA (e + 1) _ (t + 1) 0 (br + 1) (0 :: (nots k ++ S)) l I1 (by omega) s.2 (by omega) (by omega) h1 (by simp) (by omega) (by omega) (by omega) (fun f ef I2 b5 f2 => kf f (bnd_l ef) I2 b5 (f1.trans f2)) (fun m cc q er I2 t2 h2 ht2 f2 => ?_)
          obtain ⟨a1, a2, a3, a4, a5⟩ := oA _ _ _ _ _ (by omega) s.2 er
          have en : l ++ cc ++ nots 0 = l ++ cc := List.append_nil _
          rw [en] at h2
          have lc : (l ++ cc).length = l.length + cc.length := List.length_append
          refine iB (e + 1) m cc q t2 false (br + 1) (0 :: (nots k ++ S)) l (l ++ cc) I2 (by omega) a2 (by omega) ht2 h2 (List.append_nil _) (by simp) (by simp) (by omega) (by omega) (by show (l ++ cc).length + 0 + _ + 1 ≤ q; omega) (a3.mono (by omega)) (fun f ef I3 b5 f3 => kf f ((bnd_r er).trans (bnd_l ef)) I3 b5 (f1.trans (f2.trans f3))) (fun m2 c2 q2 er2 I3 t3 aa l3 h3 el3 nz3 ht3 f3 => ?_)
          obtain ⟨b1, b2, b3, b4, b5⟩ := oB _ _ _ _ _ _ _ (by omega) a2 (a3.mono (by omega)) er2
          have ll3 : l3.length + (fA aa).length = l.length + c2.length := by rw [← List.length_append, el3, List.length_append]
          refine iC (e + 1) m2 c2 q2 t3 aa false (br + 1) (0 :: (nots k ++ S)) l l3 I3 (by omega) b2 (by omega) ht3 h3 ((List.append_nil _).trans el3) nz3 (by simp) (by simp) (by simp) (by omega) (by omega) (by show l3.length + (fA aa).length + 0 + _ + 1 ≤ q2; omega) (b3.mono (by omega)) (fun f ef I4 b5 f4 => kf f ((bnd_r er).trans ((bnd_r er2).trans (bnd_l ef))) I4 b5 (f1.trans (f2.trans (f3.trans f4)))) (fun m4 c4 q4 er4 I4 t4 a4' o4 l4 h4' el4 nz4 nz5 ht4 f4 => ?_)
          obtain ⟨d1, d2, d3, d4, d5⟩ := oC _ _ _ _ _ _ _ (by omega) b2 (b3.mono (by omega)) er4
          have ll4 : l4.length + (fA a4').length + (fO o4).length = l.length + c4.length := by rw [← List.length_append, ← List.length_append, el4, List.length_append]
          have fl1 := fA_l a4'
          have fl2 := fO_l o4
          have g4 := f1.trans (f2.trans (f3.trans f4))
          -- behind the condition
          refine w_X3_readCondition_19 (by omega) ?_
          rw [li_400, nI_ltI (by omega) (by omega)]
          refine ⟨fun z => absurd z (by omega), fun _ => ⟨fun z => absurd z (by decide), fun _ => ?_⟩⟩
          refine C_isWord (tp := tp) (w := 15) (by omega) (Or.inr rfl) (by omega) h4'.2.2.1 hl d2 h4'.1 h4'.2.1 h6 ?_
          rw [bI_z, isW_c (w := 15) (w' := 69) rfl, nz4]
          refine ⟨fun _ => ?_, fun y => absurd rfl y⟩
          refine C_isWord (tp := tp) (w := 16) (by omega) (Or.inr rfl) (by omega) h4'.2.2.1 hl d2 h4'.1 h4'.2.1 h6 ?_
          rw [bI_z, isW_c (w := 16) (w' := 70) rfl, nz5]
          refine ⟨fun _ => ⟨fun y => ?_, fun _ => ?_⟩, fun y => absurd rfl y⟩
          · exfalso
            rw [h4'.2.2.2.2.2.2.2.1, li_0, nI_eq (by omega) (by omega)] at y
            omega
          refine C_isSign (tp := tp) (v := 41) (by omega) (Or.inr rfl) (by omega) hl d2 h4'.1 h4'.2.1 h6 ?_
          rw [bI_z]
          cases zC : isS tp tl (sk tp tl q4) 41 with
          | false =>
            refine ⟨fun _ => ?_, fun y => absurd rfl y⟩
            refine C_refuse (by omega) (Or.inr rfl) h4'.1.2.2.1 fun I' h5 f _ => ⟨Or.inl rfl, dd_qi (kf _ ((bnd_r er).trans ((bnd_r er2).trans ((bnd_r er4).trans (if_neg (by rw [zC]; decide))))) I' h5 (g4.trans (FYl.b f)))⟩
          | true =>
            have s5 := stepS d2 (by omega) zC
            refine ⟨fun y => (by cases y), fun _ => ?_⟩
            have ej : fA a4' ++ (fO o4 ++ (0 :: (nots k ++ S))) = (fA a4' ++ fO o4) ++ (0 :: (nots k ++ S)) := by rw [List.append_assoc]
            rw [ej] at h4'
            have lj : (fA a4' ++ fO o4).length = (fA a4').length + (fO o4).length := List.length_append
            refine C_close (tp := tp) (k := k) (js := fA a4' ++ fO o4) (S := S) (by omega) hl h6 d2 (fun x hx => ?_) (by omega) (by omega) h4 hk (by omega) h4' fun I5 h5 f5 => ?_
            · rcases List.mem_append.mp hx with u | u
              · cases a4' with
                | true => exact Or.inl (by simpa [fA] using u)
                | false => simp [fA] at u
              · cases o4 with
                | true => exact Or.inr (by simpa [fO] using u)
                | false => simp [fO] at u
            · have eL : l4 ++ (fA a4' ++ fO o4) = l ++ c4 := by rw [← List.append_assoc]; exact el4
              rw [eL] at h5
              rw [nI_1]
              exact kt m4 c4 _ ((bnd_r er).trans ((bnd_r er2).trans ((bnd_r er4).trans (if_pos zC)))) I5 (t4 + 1) h5 (by omega) (g4.trans f5)
        · rw [if_pos (by omega)] at kf
          exact C_refuse (by omega) (Or.inr rfl) h.1.2.2.1 fun I' h5 f _ => ⟨Or.inl rfl, dd_qi (kf _ rfl I' h5 (FYl.b f))⟩
      | false =>
        rw [if_neg (by rw [zB]; decide), if_neg (by rw [zN]; decide)] at kf kt
        refine ⟨fun _ => ?_, fun y => absurd rfl y⟩
        refine C_leaf (tp := tp) (S := S) (k := k) (by omega) hl h6 hp h hk he h4 (by omega) (by omega) (fun f ef I1 b5 f1 => ⟨fun _ => dd_qi (kf f ef I1 b5 f1), fun y => absurd rfl y⟩) (fun m cc q er I1 h1 f1 => ⟨fun y => absurd y (by decide), fun _ => ?_⟩)
        obtain ⟨a1, a2, a3, a4, a5⟩ := pF_ok hl hp er
        exact kt m cc q er I1 (t + 1) h1 (by omega) f1
    · intro e m cc p t a br S l0 l I he hp ht htp h el h5 h4 hbr hS hm hg kf kt
      rw [prs] at kf kt
      simp only at kf kt
      have fl1 := fA_l a
      cases zA : isW tp tl (sk tp tl p) 69 with
      | false =>
        rw [if_neg (by rw [zA]; decide)] at kt
        exact kt m cc p rfl I t a l h el zA htp (FYl.refl I)
      | true =>
        rw [if_pos zA] at kf kt
        have s := stepW hp (by omega) zA
        have l3 : (wdL 69).length = 3 := by decide
        refine w_X3_readCondition_19 (by omega) ?_
        rw [li_400, nI_ltI (by omega) (by omega)]
        refine ⟨fun z => absurd z (by omega), fun _ => ⟨fun z => absurd z (by decide), fun _ => ?_⟩⟩
        refine C_isWord (tp := tp) (w := 15) (by omega) (Or.inr rfl) (by omega) h.2.2.1 hl hp h.1 h.2.1 h6 ?_
        rw [bI_z, isW_c (w := 15) (w' := 69) rfl, zA]
        refine ⟨fun y => (by cases y), fun _ => ?_⟩
        refine C_isWord (tp := tp) (w := 15) (by omega) (Or.inr rfl) (by omega) h.2.2.1 hl hp h.1 h.2.1 h6 ?_
        rw [bI_z, isW_c (w := 15) (w' := 69) rfl, zA]
        refine ⟨fun y => (by cases y), fun _ => ?_⟩
        refine C_join (tp := tp) (a1 := -5) (js := fA a) (S := S) (by omega) hl h6 hp (Or.inl rfl) h5 (fun y => absurd y (by decide)) (fun x hx => ?_) (by omega) (by omega) h fun I1 h1 f1 => ?_
        · cases a with
          | true => exact Or.inl (by simpa [fA] using hx)
          | false => simp [fA] at hx
        rw [el] at h1
        have ll : l.length + (fA a).length = (l0 ++ cc).length := by rw [← List.length_append, el]
        rw [nI_1]
        refine iA e _ (t + 1) 0 br (-5 :: S) (l0 ++ cc) I1 he s.2 (by omega) (by omega) h1 (by simp) (by omega) (by show 0 + (S.length + 1) ≤ _; omega) (by show (l0 ++ cc).length + 0 + (S.length + 1) + 2 ≤ _; omega) (fun f ef I2 b5 f2 => kf f (bnd_l ef) I2 b5 (f1.trans f2)) (fun m2 c2 q er I2 t2 h2 ht2 f2 => ?_)
        obtain ⟨a1, a2, a3, a4, a5⟩ := oA _ _ _ _ _ he s.2 er
        have en : l0 ++ cc ++ c2 ++ nots 0 = l0 ++ cc ++ c2 := List.append_nil _
        rw [en] at h2
        have lc : (l0 ++ cc ++ c2).length = (l0 ++ cc).length + c2.length := List.length_append
        refine iB e (m ++ m2 ++ [(15, 0)]) (cc ++ c2 ++ [-5]) q t2 true br S l0 (l0 ++ cc ++ c2) I2 he a2 (by omega) ht2 h2 (by show l0 ++ cc ++ c2 ++ [-5] = _; rw [List.append_assoc, List.append_assoc, List.append_assoc]) h5 h4 hbr hS (by show (l0 ++ cc ++ c2).length + 1 + S.length + 1 ≤ q; omega) (GB_and hg a3 (by omega) (by omega) (by unfold hA; omega)) (fun f ef I3 b5 f3 => kf f ((bnd_r er).trans ef) I3 b5 (f1.trans (f2.trans f3))) (fun m3 c3 q3 er3 I3 t3 aa l3' h3 el3 nz3 ht3 f3 => ?_)
        exact kt m3 c3 q3 ((bnd_r er).trans er3) I3 t3 aa l3' h3 el3 nz3 ht3 (f1.trans (f2.trans f3))
    · intro e m cc p t a o br S l0 l I he hp ht htp h el nzA h5 h6' h4 hbr hS hm hg kf kt
      rw [prs] at kf kt
      simp only at kf kt
      have fl1 := fA_l a
      have fl2 := fO_l o
      cases zO : isW tp tl (sk tp tl p) 70 with
      | false =>
        rw [if_neg (by rw [zO]; decide)] at kt
        exact kt m cc p rfl I t a o l h el nzA zO htp (FYl.refl I)
      | true =>
        rw [if_pos zO] at kf kt
        have s := stepW hp (by omega) zO
        have l3 : (wdL 70).length = 2 := by decide
        refine w_X3_readCondition_19 (by omega) ?_
        rw [li_400, nI_ltI (by omega) (by omega)]
        refine ⟨fun z => absurd z (by omega), fun _ => ⟨fun z => absurd z (by decide), fun _ => ?_⟩⟩
        refine C_isWord (tp := tp) (w := 15) (by omega) (Or.inr rfl) (by omega) h.2.2.1 hl hp h.1 h.2.1 h6 ?_
        rw [bI_z, isW_c (w := 15) (w' := 69) rfl, nzA]
        refine ⟨fun _ => ?_, fun y => absurd rfl y⟩
        refine C_isWord (tp := tp) (w := 16) (by omega) (Or.inr rfl) (by omega) h.2.2.1 hl hp h.1 h.2.1 h6 ?_
        rw [bI_z, isW_c (w := 16) (w' := 70) rfl, zO]
        refine ⟨fun y => (by cases y), fun _ => ?_⟩
        refine C_isWord (tp := tp) (w := 15) (by omega) (Or.inr rfl) (by omega) h.2.2.1 hl hp h.1 h.2.1 h6 ?_
        rw [bI_z, isW_c (w := 15) (w' := 69) rfl, nzA]
        refine ⟨fun _ => ?_, fun y => absurd rfl y⟩
        have ej : fA a ++ (fO o ++ S) = (fA a ++ fO o) ++ S := by rw [List.append_assoc]
        rw [ej] at h
        have lj : (fA a ++ fO o).length = (fA a).length + (fO o).length := List.length_append
        refine C_join (tp := tp) (a1 := -6) (js := fA a ++ fO o) (S := S) (by omega) hl h6 hp (Or.inr rfl) h5 (fun _ => h6') (fun x hx => ?_) (by omega) (by omega) h fun I1 h1 f1 => ?_
        · rcases List.mem_append.mp hx with u | u
          · cases a with
            | true => exact Or.inl (by simpa [fA] using u)
            | false => simp [fA] at u
          · cases o with
            | true => exact Or.inr ⟨rfl, by simpa [fO] using u⟩
            | false => simp [fO] at u
        have el' : l ++ (fA a ++ fO o) = l0 ++ cc := by rw [← List.append_assoc]; exact el
        rw [el'] at h1
        have ll : l.length + (fA a).length + (fO o).length = (l0 ++ cc).length := by rw [← el', List.length_append, lj]; omega
        rw [nI_1]
        refine iA e _ (t + 1) 0 br (-6 :: S) (l0 ++ cc) I1 he s.2 (by omega) (by omega) h1 (by simp) (by omega) (by show 0 + (S.length + 1) ≤ _; omega) (by show (l0 ++ cc).length + 0 + (S.length + 1) + 2 ≤ _; omega) (fun f ef I2 b5 f2 => kf f (bnd_l ef) I2 b5 (f1.trans f2)) (fun m2 c2 q er I2 t2 h2 ht2 f2 => ?_)
        obtain ⟨a1, a2, a3, a4, a5⟩ := oA _ _ _ _ _ he s.2 er
        have en : l0 ++ cc ++ c2 ++ nots 0 = l0 ++ cc ++ c2 := List.append_nil _
        rw [en] at h2
        have lc : (l0 ++ cc ++ c2).length = (l0 ++ cc).length + c2.length := List.length_append
        refine iB e m2 c2 q t2 false br (-6 :: S) (l0 ++ cc) (l0 ++ cc ++ c2) I2 he a2 (by omega) ht2 h2 (List.append_nil _) (by simp) (by simp) hbr (by show S.length + 1 ≤ _; omega) (by show (l0 ++ cc ++ c2).length + 0 + (S.length + 1) + 1 ≤ q; omega) (a3.mono (by omega)) (fun f ef I3 b5 f3 => kf f ((bnd_r er).trans (bnd_l ef)) I3 b5 (f1.trans (f2.trans f3))) (fun m3 c3 q3 er3 I3 t3 aa l3' h3 el3 nz3 ht3 f3 => ?_)
        obtain ⟨b1, b2, b3, b4, b5⟩ := oB _ _ _ _ _ _ _ he a2 (a3.mono (by omega)) er3
        have ll3 : l3'.length + (fA aa).length = (l0 ++ cc).length + c3.length := by rw [← List.length_append, el3, List.length_append]
        refine iC e (m ++ m3 ++ [(16, 0)]) (cc ++ c3 ++ [-6]) q3 t3 aa true br S l0 l3' I3 he b2 (by omega) ht3 h3 ?_ nz3 h5 h6' h4 hbr hS (by show l3'.length + (fA aa).length + 1 + S.length + 1 ≤ q3; omega) (GB_or hg b3 (by omega) (by omega) (by unfold hA; omega)) (fun f ef I4 b5 f4 => kf f ((bnd_r er).trans ((bnd_r er3).trans ef)) I4 b5 (f1.trans (f2.trans (f3.trans f4)))) (fun m4 c4 q4 er4 I4 t4 a4' o4 l4 h4' el4 nz4 nz5 ht4 f4 => ?_)
        · show l3' ++ fA aa ++ [-6] = _
          rw [el3, List.append_assoc, List.append_assoc, List.append_assoc]
        · exact kt m4 c4 q4 ((bnd_r er).trans ((bnd_r er3).trans er4)) I4 t4 a4' o4 l4 h4' el4 nz4 nz5 ht4 (f1.trans (f2.trans (f3.trans f4)))
/-- a whole condition -/
theorem C_cond {d Ln c s : Nat} {I : Nat → Nat → Int32} {L : Nat → Nat → Int64} {K : Int32 → (Nat → Nat → Int32) → (Nat → Nat → Int64) → Prop} {tp : Nat → Nat} {tl p : Nat} {l : List Int32} (hd : 46 ≤ d) (hl : tl ≤ 400) (h6 : ∀ j, tp j < 256) (hp : p ≤ tl) (ht : TK tp tl 131 I p) (hx : TXc tp I) (hS : STR I) (hc : CL I l) (h5 : I 131 5 = -1) (hm : l.length + 2 ≤ p) (kf : ∀ f, pC tp tl 401 0 p = .inl f → ∀ I', I' 131 5 = nI f → FYl I I' → K 0 I' L) (kt : ∀ m cc q, pC tp tl 401 0 p = .inr (m, cc, q) → ∀ I', TK tp tl 131 I' q → CL I' (l ++ cc) → I' 131 5 = -1 → FYl I I' → K 1 I' L) : dd_Ev d m_X3_readCondition [.ref 131] (sM Ln I L c s) (dd_RI Ln c s K) := by
  refine w_X3_readCondition_0 (by omega) ?_
  simp only [dd_u_u]
  have fy : FYl I (dd_u I 131 (upd (upd (upd (I 131) 8 0) 9 0) 10 0)) := by
    refine ⟨fun k _ z => dd_un z, fun j hj => ?_⟩
    simp only [List.mem_cons, List.not_mem_nil, or_false, not_or] at hj
    rw [dd_us, pk_un (by omega), pk_un (by omega), pk_un (by omega)]
  have g : ∀ j, j < 8 → dd_u I 131 (upd (upd (upd (I 131) 8 0) 9 0) 10 0) 131 j = I 131 j := fun j hj => by rw [dd_us, pk_un (by omega), pk_un (by omega), pk_un (by omega)]
  have h0 : CX tp tl (dd_u I 131 (upd (upd (upd (I 131) 8 0) 9 0) 10 0)) p 0 0 [] l := by
    refine ⟨⟨by rw [g 1 (by decide)]; exact ht.1, by rw [g 2 (by decide)]; exact ht.2.1, by rw [g 3 (by decide)]; exact ht.2.2.1, by rw [g 4 (by decide)]; exact ht.2.2.2⟩, fy.x hx, fy.s hS, ⟨by rw [dd_un (by decide)]; exact hc.1, fun i hi => by rw [dd_un (by decide)]; exact hc.2 i hi⟩, ?_, trivial, ?_, ?_, by rw [g 5 (by decide)]; exact h5⟩
    · rw [dd_us, pk_un (by decide), pk_un (by decide), pk_us]; rfl
    · rw [dd_us, pk_un (by decide), pk_us]; rfl
    · rw [dd_us, pk_us]; rfl
  generalize dd_u I 131 (upd (upd (upd (I 131) 8 0) 9 0) 10 0) = J at *
  obtain ⟨iA, iB, iC⟩ := C_prs (d := d) (Ln := Ln) (c := c) (s := s) (L := L) (K := K) (tp := tp) (by omega) hl h6 401
  obtain ⟨oA, oB, oC⟩ := prs_ok (tp := tp) hl 401
  unfold pC at kf kt
  refine iA 0 p 0 0 0 [] l J (by omega) hp (by omega) (Nat.zero_le _) h0 (by simp) (by omega) (by show 0 + 0 ≤ 2; omega) (by show l.length + 0 + 0 + 2 ≤ p; omega) (fun f ef I2 b5 f2 => kf f (bnd_l ef) I2 b5 (fy.trans f2)) (fun m cc q er I2 t2 h2 ht2 f2 => ?_)
  obtain ⟨a1, a2, a3, a4, a5⟩ := oA _ _ _ _ _ (by omega) hp er
  have en : l ++ cc ++ nots 0 = l ++ cc := List.append_nil _
  rw [en] at h2
  have lc : (l ++ cc).length = l.length + cc.length := List.length_append
  refine iB 0 m cc q t2 false 0 [] l (l ++ cc) I2 (by omega) a2 (by omega) ht2 h2 (List.append_nil _) (by simp) (by simp) (by omega) (by show 0 ≤ _; omega) (by show (l ++ cc).length + 0 + 0 + 1 ≤ q; omega) (a3.mono (by omega)) (fun f ef I3 b5 f3 => kf f ((bnd_r er).trans (bnd_l ef)) I3 b5 (fy.trans (f2.trans f3))) (fun m2 c2 q2 er2 I3 t3 aa l3 h3 el3 nz3 ht3 f3 => ?_)
  obtain ⟨b1, b2, b3, b4, b5⟩ := oB _ _ _ _ _ _ _ (by omega) a2 (a3.mono (by omega)) er2
  have ll3 : l3.length + (fA aa).length = l.length + c2.length := by rw [← List.length_append, el3, List.length_append]
  refine iC 0 m2 c2 q2 t3 aa false 0 [] l l3 I3 (by omega) b2 (by omega) ht3 h3 ((List.append_nil _).trans el3) nz3 (by simp) (by simp) (by simp) (by omega) (by show 0 ≤ _; omega) (by show l3.length + (fA aa).length + 0 + 0 + 1 ≤ q2; omega) (b3.mono (by omega)) (fun f ef I4 b5 f4 => kf f ((bnd_r er).trans ((bnd_r er2).trans ef)) I4 b5 (fy.trans (f2.trans (f3.trans f4)))) (fun m4 c4 q4 er4 I4 t4 a4' o4 l4 h4' el4 nz4 nz5 ht4 f4 => ?_)
  obtain ⟨d1, d2, d3, d4, d5⟩ := oC _ _ _ _ _ _ _ (by omega) b2 (b3.mono (by omega)) er4
  have ll4 : l4.length + (fA a4').length + (fO o4).length = l.length + c4.length := by rw [← List.length_append, ← List.length_append, el4, List.length_append]
  have fl1 := fA_l a4'
  have fl2 := fO_l o4
  refine w_X3_readCondition_19 (by omega) ?_
  rw [li_400, nI_ltI (by omega) (by omega)]
  refine ⟨fun z => absurd z (by omega), fun _ => ⟨fun z => absurd z (by decide), fun _ => ?_⟩⟩
  refine C_isWord (tp := tp) (w := 15) (by omega) (Or.inr rfl) (by omega) h4'.2.2.1 hl d2 h4'.1 h4'.2.1 h6 ?_
  rw [bI_z, isW_c (w := 15) (w' := 69) rfl, nz4]
  refine ⟨fun _ => ?_, fun y => absurd rfl y⟩
  refine C_isWord (tp := tp) (w := 16) (by omega) (Or.inr rfl) (by omega) h4'.2.2.1 hl d2 h4'.1 h4'.2.1 h6 ?_
  rw [bI_z, isW_c (w := 16) (w' := 70) rfl, nz5]
  refine ⟨fun _ => ⟨fun _ => ?_, fun y => absurd h4'.2.2.2.2.2.2.2.1 y⟩, fun y => absurd rfl y⟩
  have ej : fA a4' ++ (fO o4 ++ []) = (fA a4' ++ fO o4) ++ [] := by rw [List.append_assoc]
  rw [ej] at h4'
  have lj : (fA a4' ++ fO o4).length = (fA a4').length + (fO o4).length := List.length_append
  refine w_X3_addJoins_0 (by omega) ?_
  refine C_addJoins (S := []) (by omega) (by show 0 ≤ 21; omega) (Or.inr rfl) (by simp) (fun _ => by simp) (fA a4' ++ fO o4) l4 I4 (fun x hx => ?_) (by show _ + 0 ≤ 21; omega) (by omega) h4' fun I5 h5' f5 => dd_qi ?_
  · rcases List.mem_append.mp hx with u | u
    · cases a4' with
      | true => exact Or.inl (by simpa [fA] using u)
      | false => simp [fA] at u
    · cases o4 with
      | true => exact Or.inr ⟨rfl, by simpa [fO] using u⟩
      | false => simp [fO] at u
  · have eL : l4 ++ (fA a4' ++ fO o4) = l ++ c4 := by rw [← List.append_assoc]; exact el4
    rw [eL] at h5'
    exact kt m4 c4 q4 ((bnd_r er).trans ((bnd_r er2).trans er4)) I5 h5'.1 h5'.2.2.2.1 h5'.2.2.2.2.2.2.2.2 (fy.trans (f2.trans (f3.trans (f4.trans f5))))
