/-! What holds between two calls -/
def opF (w : Nat → Nat) : Prop := ¬ w (11 + w 4) = 1 ∧ ∀ b, b < w 1 → ¬ w (11 + w (187 + 5 * b)) = 1
def okL (w : Nat → Nat) : Prop := ∀ a, a < w 9 → w (222 + 5 * a) ≤ 9999 ∧ w (222 + 5 * a + 1) < 8 ∧ w (222 + 5 * a + 2) < 8 ∧ w (222 + 5 * a + 3) ≤ 1 ∧ w (222 + 5 * a + 4) < 64
def zbs (w : Nat → Nat) : Prop := ∀ b, w 1 ≤ b → b < 6 → ¬ w (187 + 5 * b + 3) = 1
def GOOD (w : Nat → Nat) : Prop := OKW w ∧ inbs w ∧ opF w ∧ okL w ∧ zbs w
def RLk (w : Nat → Nat) (I : Nat → Nat → Int32) (k : Nat) : Prop := I k 2 = (if w 3 = 1 then nI (w 522) else -1) ∧ ∃ n, n ≤ 400 ∧ I k 1 = nI n ∧ ∀ (F : Nat → Nat) (sil fer : Bool), (∀ i, i < 8 → F i ≤ 999) → (wgA (I (k + 1)) F sil fer n).2.2.2.1 = nI (sumL w F sil fer 0) - nI (sumL w F sil fer 1) ∧ (wgA (I (k + 1)) F sil fer n).2.2.2.2 = decide (0 < sumL w F sil fer 2)
theorem RLk.w {w : Nat → Nat} {I : Nat → Nat → Int32} (h : RLk w I 25) : RLw w I := h
theorem RLw.k {w : Nat → Nat} {I : Nat → Nat → Int32} (h : RLw w I) : RLk w I 25 := h
def byt (n : Nat) : Int32 := (nI n).toInt8.toInt32
def ivI (im : Option (Nat → Nat)) (I : Nat → Nat → Int32) (L : Nat → Nat → Int64) : Prop := I 148 6 = bI im.isSome ∧ I 0 6 = bI im.isSome ∧ ∀ wi, im = some wi → GOOD wi ∧ (∀ j, j < 1371 → I 150 j = nI (wi j)) ∧ RW wi I L 17 ∧ RLk wi I 29
def ivA (w : Nat → Nat) (na od : Nat) (A : Nat → Nat → Nat) (I : Nat → Nat → Int32) (L : Nat → Nat → Int64) : Prop := na ≤ 12 ∧ od < 12 ∧ I 148 7 = nI na ∧ I 31 2 = nI na ∧ I 31 1 = nI od ∧ ∀ i, i < na → GOOD (A i) ∧ sameL w (A i) ∧ (∀ j, j < 522 → I 153 (522 * i + j) = nI (A i j)) ∧ RW (A i) I L (33 + 8 * ((od + i) % 12))
def ivT (tp : Nat → Nat) (tl : Nat) (I : Nat → Nat → Int32) : Prop := tl ≤ 400 ∧ (∀ j, tp j < 256) ∧ I 148 9 = nI tl ∧ I 0 9 = nI tl ∧ ∀ j, j < 400 → I 129 j = nI (tp j) ∧ I 154 j = byt (tp j)
def ivF (fa : Option Nat) (I : Nat → Nat → Int32) : Prop := I 148 14 = oI fa ∧ I 0 10 = oI fa
def ivS (I0 I : Nat → Nat → Int32) : Prop := ∀ k, 1000000 ≤ k → I k = I0 k
def INV (I0 : Nat → Nat → Int32) (w : Nat → Nat) (im : Option (Nat → Nat)) (na od : Nat) (A : Nat → Nat → Nat) (tp : Nat → Nat) (tl : Nat) (fa : Option Nat) (I : Nat → Nat → Int32) (L : Nat → Nat → Int64) : Prop := GOOD w ∧ RM w I ∧ RC w I L ∧ RLw w I ∧ ivI im I L ∧ ivA w na od A I L ∧ ivT tp tl I ∧ ivF fa I ∧ ivS I0 I
def INVx (I0 I : Nat → Nat → Int32) (L : Nat → Nat → Int64) : Prop := ∃ w im na od A tp tl fa, INV I0 w im na od A tp tl fa I L
/-- what a question to the class may change -/
def FC (I I' : Nat → Nat → Int32) (L L' : Nat → Nat → Int64) : Prop := (∀ k, (k < 9 ∨ (17 ≤ k ∧ k < 25) ∨ k = 26 ∨ (29 ≤ k ∧ k < 130) ∨ 148 ≤ k) → I' k = I k) ∧ I' 25 1 = I 25 1 ∧ I' 25 2 = I 25 2 ∧ (∀ k, k ≠ 9 → k ≠ 142 → k ≠ 143 → k ≠ 163 → L' k = L k)
/-- what a question to the model may change -/
def FM (I I' : Nat → Nat → Int32) : Prop := (∀ k, (k < 148 ∨ k = 150 ∨ k = 153 ∨ k = 154 ∨ 163 ≤ k) → I' k = I k) ∧ I' 148 6 = I 148 6 ∧ I' 148 7 = I 148 7 ∧ I' 148 9 = I 148 9 ∧ I' 148 14 = I 148 14
theorem FM.refl (I : Nat → Nat → Int32) : FM I I := ⟨fun _ _ => rfl, rfl, rfl, rfl, rfl⟩
theorem FM.trans {I J K : Nat → Nat → Int32} (h : FM I J) (h2 : FM J K) : FM I K := ⟨fun k q => (h2.1 k q).trans (h.1 k q), h2.2.1.trans h.2.1, h2.2.2.1.trans h.2.2.1, h2.2.2.2.1.trans h.2.2.2.1, h2.2.2.2.2.trans h.2.2.2.2⟩
theorem FC.refl (I : Nat → Nat → Int32) (L : Nat → Nat → Int64) : FC I I L L := ⟨fun _ _ => rfl, rfl, rfl, fun _ _ _ _ _ => rfl⟩
theorem FC.trans {I J K : Nat → Nat → Int32} {L M N : Nat → Nat → Int64} (h : FC I J L M) (h2 : FC J K M N) : FC I K L N := ⟨fun k q => (h2.1 k q).trans (h.1 k q), h2.2.1.trans h.2.1, h2.2.2.1.trans h.2.2.1, fun k a b c e => (h2.2.2.2 k a b c e).trans (h.2.2.2 k a b c e)⟩
abbrev SM : List Nat := [149, 151, 152, 155, 156, 157, 158, 159, 160, 161, 162]
abbrev BM : List Nat := [0, 10, 11, 12, 13, 16, 18, 21]
theorem FM.fr {A B : List Nat} {I I' : Nat → Nat → Int32} (h : FR 148 A B I I') (hA : ∀ x, x ∈ A → x ∈ SM) (hB : ∀ x, x ∈ B → x ∈ BM) : FM I I' := by
  have nb : ∀ j, j ∉ BM → j ∉ B := fun j hj q => hj (hB j q)
  refine ⟨fun k hk => h.1 k (fun q => ?_) (by omega), h.2 6 (nb 6 (by decide)), h.2 7 (nb 7 (by decide)), h.2 9 (nb 9 (by decide)), h.2 14 (nb 14 (by decide))⟩
  have := hA k q
  simp only [List.mem_cons, List.not_mem_nil, or_false] at this
  omega
theorem FM.th (I : Nat → Nat → Int32) (v : Int32) : FM I (dd_u I 148 (upd (I 148) 0 v)) := FM.fr (A := []) (B := [0]) ((FR.refl I).v (by decide)) (by decide) (by decide)
abbrev SC : List Nat := [9, 10, 11, 12, 13, 14, 15, 16, 27, 28, 130, 131, 132, 133, 134, 135, 136, 137, 138, 139, 140, 141, 142, 143, 144, 145, 146, 147]
theorem FC.fr {A : List Nat} {I I' : Nat → Nat → Int32} {L : Nat → Nat → Int64} (h : FR 25 A [3, 4] I I') (hA : ∀ x, x ∈ A → x ∈ SC) : FC I I' L L := by
  refine ⟨fun k hk => h.1 k (fun q => ?_) (by omega), h.2 1 (by decide), h.2 2 (by decide), fun _ _ _ _ _ => rfl⟩
  have := hA k q
  simp only [List.mem_cons, List.not_mem_nil, or_false] at this
  omega
theorem FC.out {I : Nat → Nat → Int32} {L : Nat → Nat → Int64} {f : Nat → Int64} : FC I I L (dd_u L 163 f) := ⟨fun _ _ => rfl, rfl, rfl, fun k _ _ _ h => dd_un h⟩
theorem INV.qM {I0 : Nat → Nat → Int32} {w : Nat → Nat} {im : Option (Nat → Nat)} {na od : Nat} {A : Nat → Nat → Nat} {tp : Nat → Nat} {tl : Nat} {fa : Option Nat} {I I' : Nat → Nat → Int32} {L : Nat → Nat → Int64} (h : INV I0 w im na od A tp tl fa I L) (f : FM I I') (r : RM w I') : INV I0 w im na od A tp tl fa I' L := by
  obtain ⟨h1, h2, h3, h4, ⟨i1, i2, i3⟩, ⟨a1, a2, a3, a4, a5, a6⟩, ⟨t1, t2, t3, t4, t5⟩, ⟨f1, f2⟩, h9⟩ := h
  obtain ⟨g1, g2, g3, g4, g5⟩ := f
  refine ⟨h1, r, h3.of (fun j _ _ => g1 j (by omega)) rfl, ?_, ⟨?_, ?_, ?_⟩, ⟨a1, a2, ?_, ?_, ?_, ?_⟩, ⟨t1, t2, ?_, ?_, ?_⟩, ⟨?_, ?_⟩, ?_⟩
  · exact h4.of (by rw [g1 25 (by omega)]) (by rw [g1 25 (by omega)]) (g1 26 (by omega))
  · rw [g2]; exact i1
  · rw [g1 0 (by omega)]; exact i2
  · intro wi hw
    obtain ⟨j1, j2, j3, j4⟩ := i3 wi hw
    refine ⟨j1, fun j hj => by rw [g1 150 (by omega)]; exact j2 j hj, j3.of (fun j _ _ => g1 j (by omega)) rfl, ?_⟩
    unfold RLk
    rw [g1 29 (by omega), g1 (29 + 1) (by omega)]
    exact j4
  · rw [g3]; exact a3
  · rw [g1 31 (by omega)]; exact a4
  · rw [g1 31 (by omega)]; exact a5
  · intro i hi
    obtain ⟨j1, j2, j3, j4⟩ := a6 i hi
    exact ⟨j1, j2, fun j hj => by rw [g1 153 (by omega)]; exact j3 j hj, j4.of (fun j _ _ => g1 j (by omega)) rfl⟩
  · rw [g4]; exact t3
  · rw [g1 0 (by omega)]; exact t4
  · intro j hj
    rw [g1 129 (by omega), g1 154 (by omega)]
    exact t5 j hj
  · rw [g5]; exact f1
  · rw [g1 0 (by omega)]; exact f2
  · intro k hk
    rw [g1 k (by omega)]
    exact h9 k hk
theorem INV.qC {I0 : Nat → Nat → Int32} {w : Nat → Nat} {im : Option (Nat → Nat)} {na od : Nat} {A : Nat → Nat → Nat} {tp : Nat → Nat} {tl : Nat} {fa : Option Nat} {I I' : Nat → Nat → Int32} {L L' : Nat → Nat → Int64} (h : INV I0 w im na od A tp tl fa I L) (f : FC I I' L L') : INV I0 w im na od A tp tl fa I' L' := by
  obtain ⟨h1, h2, h3, h4, ⟨i1, i2, i3⟩, ⟨a1, a2, a3, a4, a5, a6⟩, ⟨t1, t2, t3, t4, t5⟩, ⟨f1, f2⟩, h9⟩ := h
  obtain ⟨g1, g2, g3, gL⟩ := f
  refine ⟨h1, h2.of (g1 149 (by omega)), h3.of (fun j _ _ => g1 j (by omega)) (gL 1 (by omega) (by omega) (by omega) (by omega)), h4.of g2 g3 (g1 26 (by omega)), ⟨?_, ?_, ?_⟩, ⟨a1, a2, ?_, ?_, ?_, ?_⟩, ⟨t1, t2, ?_, ?_, ?_⟩, ⟨?_, ?_⟩, ?_⟩
  · rw [g1 148 (by omega)]; exact i1
  · rw [g1 0 (by omega)]; exact i2
  · intro wi hw
    obtain ⟨j1, j2, j3, j4⟩ := i3 wi hw
    refine ⟨j1, fun j hj => by rw [g1 150 (by omega)]; exact j2 j hj, j3.of (fun j _ _ => g1 j (by omega)) (gL 17 (by omega) (by omega) (by omega) (by omega)), ?_⟩
    unfold RLk
    rw [g1 29 (by omega), g1 (29 + 1) (by omega)]
    exact j4
  · rw [g1 148 (by omega)]; exact a3
  · rw [g1 31 (by omega)]; exact a4
  · rw [g1 31 (by omega)]; exact a5
  · intro i hi
    obtain ⟨j1, j2, j3, j4⟩ := a6 i hi
    exact ⟨j1, j2, fun j hj => by rw [g1 153 (by omega)]; exact j3 j hj, j4.of (fun j _ _ => g1 j (by omega)) (gL _ (by omega) (by omega) (by omega) (by omega))⟩
  · rw [g1 148 (by omega)]; exact t3
  · rw [g1 0 (by omega)]; exact t4
  · intro j hj
    rw [g1 129 (by omega), g1 154 (by omega)]
    exact t5 j hj
  · rw [g1 148 (by omega)]; exact f1
  · rw [g1 0 (by omega)]; exact f2
  · intro k hk
    rw [g1 k (by omega)]
    exact h9 k hk
/-- one call more may have been thrown -/
def cs1 (c s c' s' : Nat) : Prop := (c' = c ∧ s' = s) ∨ (c' = c + 1 ∧ s' = s + 6)
/-- what the class's call behind its wrapper is to show, if it only asks -/
def CQw (d mC : Nat) (aC : List Value) (k v : Int32) (Ln c s : Nat) (I : Nat → Nat → Int32) (L : Nat → Nat → Int64) : Prop :=
  ∀ K : Int32 → (Nat → Nat → Int32) → (Nat → Nat → Int64) → Nat → Nat → Prop, (∀ I1 L1 c1 s1, cs1 c s c1 s1 → FC I I1 L L1 → (k = 0 → L1 163 0 = v.toInt64) → K k I1 L1 c1 s1) → dd_Ev d mC aC (sM Ln I L c s) (dd_RJ Ln c s K)
def MQw (d mM : Nat) (aM : List Value) (w : Nat → Nat) (k v : Int32) (Ln c s : Nat) (I : Nat → Nat → Int32) (L : Nat → Nat → Int64) : Prop :=
  ∀ K : Int32 → (Nat → Nat → Int32) → (Nat → Nat → Int64) → Prop, (∀ I2 x2, RM w I2 → FM I I2 → I2 148 0 = k → (k = 0 → x2 = v) → K x2 I2 L) → dd_Ev d mM aM (sM Ln I L c s) (dd_RI Ln c s K)
/-- both calls of a case of the law -/
def PW (d mC : Nat) (aC : List Value) (mM : Nat) (aM : List Value) (I0 : Nat → Nat → Int32) (Ln c s : Nat) (I : Nat → Nat → Int32) (L : Nat → Nat → Int64) : Prop :=
  ∀ G : Int32 → Int32 → (Nat → Nat → Int32) → (Nat → Nat → Int64) → Nat → Nat → Prop, (∀ x1 x2 I2 L2 c2 s2, cs1 c s c2 s2 → I2 148 0 = x1 → (x1 = 0 → L2 163 0 = x2.toInt64) → INVx I0 I2 L2 → G x1 x2 I2 L2 c2 s2) → dd_Ev d mC aC (sM Ln I L c s) (dd_RJ Ln c s (fun x1 I1 L1 c1 s1 => ivS I0 I1 ∧ dd_Ev d mM aM (sM Ln I1 L1 c1 s1) (dd_RI Ln c1 s1 (fun x2 I2 L2 => G x1 x2 I2 L2 c1 s1))))
theorem PW.q {d mC : Nat} {aC : List Value} {mM : Nat} {aM : List Value} {I0 : Nat → Nat → Int32} {Ln c s : Nat} {I : Nat → Nat → Int32} {L : Nat → Nat → Int64} {w : Nat → Nat} {im : Option (Nat → Nat)} {na od : Nat} {A : Nat → Nat → Nat} {tp : Nat → Nat} {tl : Nat} {fa : Option Nat} (h : INV I0 w im na od A tp tl fa I L) (k v : Int32) (hC : CQw d mC aC k v Ln c s I L) (hM : ∀ I1 L1 c1 s1, INV I0 w im na od A tp tl fa I1 L1 → MQw d mM aM w k v Ln c1 s1 I1 L1) : PW d mC aC mM aM I0 Ln c s I L := by
  intro G g
  refine hC _ fun I1 L1 c1 s1 e1 f1 o1 => ?_
  have h1 := h.qC f1
  refine ⟨h1.2.2.2.2.2.2.2.2, ?_⟩
  refine hM I1 L1 c1 s1 h1 _ fun I2 x2 r2 f2 t2 v2 => ?_
  refine g k x2 I2 L1 c1 s1 e1 t2 (fun q => ?_) ⟨w, im, na, od, A, tp, tl, fa, h1.qM f2 r2⟩
  rw [v2 q]
  exact o1 q
/-- the same for calls that throw nothing, whose answers are ints -/
def CQi (d mC : Nat) (aC : List Value) (v : Int32) (Ln c s : Nat) (I : Nat → Nat → Int32) (L : Nat → Nat → Int64) : Prop :=
  ∀ K : Int32 → (Nat → Nat → Int32) → (Nat → Nat → Int64) → Prop, (∀ I1 L1, FC I I1 L L1 → K v I1 L1) → dd_Ev d mC aC (sM Ln I L c s) (dd_RI Ln c s K)
def PIw (d mC : Nat) (aC : List Value) (mM : Nat) (aM : List Value) (I0 : Nat → Nat → Int32) (Ln c s : Nat) (I : Nat → Nat → Int32) (L : Nat → Nat → Int64) : Prop :=
  ∀ G : Int32 → Int32 → (Nat → Nat → Int32) → (Nat → Nat → Int64) → Prop, (∀ x I2 L2, INVx I0 I2 L2 → G x x I2 L2) → dd_Ev d mC aC (sM Ln I L c s) (dd_RI Ln c s (fun x1 I1 L1 => ivS I0 I1 ∧ dd_Ev d mM aM (sM Ln I1 L1 c s) (dd_RI Ln c s (fun x2 I2 L2 => G x1 x2 I2 L2))))
theorem PIw.q {d mC : Nat} {aC : List Value} {mM : Nat} {aM : List Value} {I0 : Nat → Nat → Int32} {Ln c s : Nat} {I : Nat → Nat → Int32} {L : Nat → Nat → Int64} {w : Nat → Nat} {im : Option (Nat → Nat)} {na od : Nat} {A : Nat → Nat → Nat} {tp : Nat → Nat} {tl : Nat} {fa : Option Nat} (h : INV I0 w im na od A tp tl fa I L) (v : Int32) (hC : CQi d mC aC v Ln c s I L) (hM : ∀ I1 L1, INV I0 w im na od A tp tl fa I1 L1 → MQw d mM aM w 0 v Ln c s I1 L1) : PIw d mC aC mM aM I0 Ln c s I L := by
  intro G g
  refine hC _ fun I1 L1 f1 => ?_
  have h1 := h.qC f1
  refine ⟨h1.2.2.2.2.2.2.2.2, ?_⟩
  refine hM I1 L1 h1 _ fun I2 x2 r2 f2 _ v2 => ?_
  rw [v2 rfl]
  exact g v I2 L1 ⟨w, im, na, od, A, tp, tl, fa, h1.qM f2 r2⟩
theorem dd_qJ {Ln c s : Nat} {I : Nat → Nat → Int32} {L : Nat → Nat → Int64} {v : Int32} {K : Int32 → (Nat → Nat → Int32) → (Nat → Nat → Int64) → Nat → Nat → Prop} (k : K v I L c s) : dd_RJ Ln c s K (none, .int v, sM Ln I L c s) := ⟨v, I, L, Or.inl ⟨rfl, k⟩⟩
theorem dd_qJt {Ln c s : Nat} {I : Nat → Nat → Int32} {L : Nat → Nat → Int64} {v : Int32} {K : Int32 → (Nat → Nat → Int32) → (Nat → Nat → Int64) → Nat → Nat → Prop} (k : K v I L (c + 1) (s + 6)) : dd_RJ Ln c s K (none, .int v, sM Ln I L (c + 1) (s + 6)) := ⟨v, I, L, Or.inr ⟨rfl, k⟩⟩
theorem dd_qT {Ln c s : Nat} {I : Nat → Nat → Int32} {L : Nat → Nat → Int64} {v : Int32} {K : Int32 → (Nat → Nat → Int32) → (Nat → Nat → Int64) → Prop} {T : Nat → (Nat → Nat → Int32) → (Nat → Nat → Int64) → Prop} (k : K v I L) : dd_TI Ln c s K T (none, .int v, sM Ln I L c s) := Or.inl ⟨v, I, L, rfl, k⟩
theorem dd_qX {Ln c s : Nat} {I : Nat → Nat → Int32} {L : Nat → Nat → Int64} {E : Nat} {K : Int32 → (Nat → Nat → Int32) → (Nat → Nat → Int64) → Prop} {T : Nat → (Nat → Nat → Int32) → (Nat → Nat → Int64) → Prop} (k : T E I L) : dd_TI Ln c s K T (some E, .null, sM Ln I L (c + 1) (s + 6)) := Or.inr ⟨E, I, L, rfl, k⟩
