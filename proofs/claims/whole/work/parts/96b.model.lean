/-! law: the model reads -/
def ML (I : Nat → Nat → Int32) (m : List (Nat × Nat)) : Prop := I 148 16 = nI m.length ∧ ∀ i, i < m.length → I 149 (1420 + 2 * i) = nI (m.getD i (0, 0)).1 ∧ I 149 (1420 + 2 * i + 1) = nI (m.getD i (0, 0)).2
def AT (tp : Nat → Nat) (tl : Nat) (I : Nat → Nat → Int32) (p : Nat) : Prop := ∃ p', p' ≤ tl ∧ I 148 10 = nI p' ∧ sk tp tl p' = sk tp tl p
/-- what reading a condition may change -/
def FZ (I I' : Nat → Nat → Int32) : Prop := FR 148 [149] [10, 12, 13, 16] I I' ∧ ∀ j, j < 1420 → I' 149 j = I 149 j
theorem FZ.refl (I : Nat → Nat → Int32) : FZ I I := ⟨FR.refl I, fun _ _ => rfl⟩
theorem FZ.trans {I J K : Nat → Nat → Int32} (h : FZ I J) (h2 : FZ J K) : FZ I K := ⟨h.1.trans h2.1, fun j hj => (h2.2 j hj).trans (h.2 j hj)⟩
theorem FZ.r {I J : Nat → Nat → Int32} (h : FR 148 [] [10, 12] I J) : FZ I J := ⟨h.mono (by decide) (by decide), fun j _ => by rw [h.1 149 List.not_mem_nil (by decide)]⟩
theorem FZ.d {I : Nat → Nat → Int32} (v : Int32) : FZ I (dd_u I 148 (upd (I 148) 13 v)) := ⟨(FR.refl I).v (by decide), fun j _ => by rw [dd_un (by decide)]⟩
theorem ML.r {I J : Nat → Nat → Int32} {m : List (Nat × Nat)} (h : ML I m) (f : FR 148 [] [10, 12] I J) : ML J m := ⟨by rw [f.2 16 (by decide)]; exact h.1, fun i hi => by rw [f.1 149 List.not_mem_nil (by decide)]; exact h.2 i hi⟩
theorem ML.d {I : Nat → Nat → Int32} {m : List (Nat × Nat)} (h : ML I m) (v : Int32) : ML (dd_u I 148 (upd (I 148) 13 v)) m := ⟨by rw [dd_us, pk_un (by decide)]; exact h.1, fun i hi => by rw [dd_un (by decide)]; exact h.2 i hi⟩
theorem AT.d {tp : Nat → Nat} {tl p : Nat} {I : Nat → Nat → Int32} (h : AT tp tl I p) (v : Int32) : AT tp tl (dd_u I 148 (upd (I 148) 13 v)) p := by
  obtain ⟨q, a, b, e⟩ := h
  exact ⟨q, a, by rw [dd_us, pk_un (by decide)]; exact b, e⟩
theorem AT.at {tp : Nat → Nat} {tl p : Nat} {I : Nat → Nat → Int32} (hp : p ≤ tl) (h : I 148 10 = nI p) : AT tp tl I p := ⟨p, hp, h, rfl⟩
theorem AT.sk {tp : Nat → Nat} {tl p : Nat} {I : Nat → Nat → Int32} (hp : p ≤ tl) (h : I 148 10 = nI (sk tp tl p)) : AT tp tl I p := ⟨_, sk_tl hp, h, rn_n (rn_end (p := isB tp) (tl := tl) p)⟩
/-- the model about to read at p, so many deep, the codes m out -/
def MX (tp : Nat → Nat) (tl : Nat) (I : Nat → Nat → Int32) (p e : Nat) (m : List (Nat × Nat)) : Prop := AT tp tl I p ∧ I 148 11 = nI tl ∧ I 148 13 = nI e ∧ TXm tp I ∧ STR I ∧ ML I m
theorem FZ.s {I J : Nat → Nat → Int32} (f : FZ I J) (h : STR I) : STR J := h.f f.1 (by decide)
theorem MX.z {tp : Nat → Nat} {tl : Nat} {I J : Nat → Nat → Int32} {p e e' q : Nat} {m m' : List (Nat × Nat)} (h : MX tp tl I p e m) (f : FZ I J) (a : AT tp tl J q) (d : J 148 13 = nI e') (l : ML J m') : MX tp tl J q e' m' := ⟨a, by rw [f.1.2 11 (by decide)]; exact h.2.1, d, h.2.2.2.1.f f.1 (by decide), f.s h.2.2.2.2.1, l⟩
theorem MX.r {tp : Nat → Nat} {tl : Nat} {I J : Nat → Nat → Int32} {p e q : Nat} {m : List (Nat × Nat)} (h : MX tp tl I p e m) (f : FR 148 [] [10, 12] I J) (a : AT tp tl J q) : MX tp tl J q e m := h.z (FZ.r f) a (by rw [f.2 13 (by decide)]; exact h.2.2.1) (h.2.2.2.2.2.r f)
theorem MX.d {tp : Nat → Nat} {tl : Nat} {I : Nat → Nat → Int32} {p e : Nat} {m : List (Nat × Nat)} (h : MX tp tl I p e m) (v : Nat) : MX tp tl (dd_u I 148 (upd (I 148) 13 (nI v))) p v m := h.z (FZ.d _) (h.1.d _) (by rw [dd_us, pk_us]) (h.2.2.2.2.2.d _)
/-! the primitives, at such a place -/
theorem M_lettersA {d Ln c s : Nat} {I : Nat → Nat → Int32} {L : Nat → Nat → Int64} {K : (Nat → Nat → Int32) → (Nat → Nat → Int64) → Prop} {tp : Nat → Nat} {tl p e : Nat} {m : List (Nat × Nat)} (hd : 30 ≤ d) (hl : tl ≤ 400) (h6 : ∀ j, tp j < 256) (h : MX tp tl I p e m) (kk : ∀ I', I' 148 10 = nI (le tp tl (sk tp tl p)) → I' 148 12 = nI (sk tp tl p) → FR 148 [] [10, 12] I I' → K I' L) : dd_Ev d m_X11_letters [.ref 148] (sM Ln I L c s) (dd_RV Ln c s K) := by
  obtain ⟨q, a, b, e⟩ := h.1
  refine M_letters (tp := tp) (p := q) hd hl a b h.2.1 h.2.2.2.1 h6 fun I' h1 h2 f => ?_
  rw [e] at h1 h2
  exact kk I' h1 h2 f
theorem M_passesA {d Ln c s : Nat} {I : Nat → Nat → Int32} {L : Nat → Nat → Int64} {K : Int32 → (Nat → Nat → Int32) → (Nat → Nat → Int64) → Prop} {tp : Nat → Nat} {tl p w e : Nat} {m : List (Nat × Nat)} (hd : 31 ≤ d) (hw : w < 71) (hl : tl ≤ 400) (hp : p ≤ tl) (h6 : ∀ j, tp j < 256) (h : MX tp tl I p e m) (kf : isW tp tl (sk tp tl p) w = false → ∀ I', MX tp tl I' p e m → I' 148 12 = nI (sk tp tl p) → FZ I I' → K 0 I' L) (kt : isW tp tl (sk tp tl p) w = true → ∀ I', MX tp tl I' (ek tp tl (sk tp tl p)) e m → I' 148 12 = nI (sk tp tl p) → FZ I I' → K 1 I' L) : dd_Ev d m_X11_passes [.ref 148, .ref (1000000 + w)] (sM Ln I L c s) (dd_RI Ln c s K) := by
  obtain ⟨q, a, b, e⟩ := h.1
  refine M_passes (tp := tp) (p := q) hd hw h.2.2.2.2.1 hl a b h.2.1 h.2.2.2.1 h6 (fun z I' h1 h2 f => ?_) (fun z I' h1 h2 f => ?_)
  · rw [e] at h1 h2 z
    exact kf z I' (h.r f (AT.sk hp h1)) h2 (FZ.r f)
  · rw [e] at h1 h2 z
    exact kt z I' (h.r f (AT.at (ek_tl tp tl _ (sk_tl hp)) h1)) h2 (FZ.r f)
theorem M_signA {d Ln c s : Nat} {I : Nat → Nat → Int32} {L : Nat → Nat → Int64} {K : Int32 → (Nat → Nat → Int32) → (Nat → Nat → Int64) → Prop} {tp : Nat → Nat} {tl p v e : Nat} {m : List (Nat × Nat)} (hd : 31 ≤ d) (hv : sgn v) (hv1 : 1 ≤ v) (hl : tl ≤ 400) (hp : p ≤ tl) (h6 : ∀ j, tp j < 256) (h : MX tp tl I p e m) (kf : isS tp tl (sk tp tl p) v = false → ∀ I', MX tp tl I' p e m → I' 148 12 = nI (sk tp tl p) → FZ I I' → K 0 I' L) (kt : isS tp tl (sk tp tl p) v = true → ∀ I', MX tp tl I' (ek tp tl (sk tp tl p)) e m → I' 148 12 = nI (sk tp tl p) → FZ I I' → K 1 I' L) : dd_Ev d m_X11_sign [.ref 148, .int (nI v)] (sM Ln I L c s) (dd_RI Ln c s K) := by
  obtain ⟨q, a, b, e⟩ := h.1
  refine M_sign (tp := tp) (p := q) hd hv hv1 hl a b h.2.1 h.2.2.2.1 h6 (fun z I' h1 h2 f => ?_) (fun z I' h1 h2 f => ?_)
  · rw [e] at h1 h2 z
    exact kf z I' (h.r f (AT.sk hp h1)) h2 (FZ.r f)
  · rw [e] at h1 h2 z
    exact kt z I' (h.r f (AT.at (ek_tl tp tl _ (sk_tl hp)) h1)) h2 (FZ.r f)
theorem M_emits {d Ln c s : Nat} {I : Nat → Nat → Int32} {L : Nat → Nat → Int64} {K : (Nat → Nat → Int32) → (Nat → Nat → Int64) → Prop} {n : Nat} {a1 a2 : Int32} (hd : 28 ≤ d) (h16 : I 148 16 = nI n) (hn : n < 400) (kk : ∀ I', I' 148 16 = nI (n + 1) → I' 149 (1420 + 2 * n) = a1 → I' 149 (1420 + 2 * n + 1) = a2 → (∀ j, j < 1420 + 2 * n → I' 149 j = I 149 j) → (∀ j, j ≠ 16 → I' 148 j = I 148 j) → FZ I I' → K I' L) : dd_Ev d m_X11_emits [.ref 148, .int a1, .int a2] (sM Ln I L c s) (dd_RV Ln c s K) := by
  refine w_X11_emits_0 hd ?_
  have e0 : (1420 : Int32) + 2 * nI n = nI (1420 + 2 * n) := by rw [li_1420, li_2, pk_mul, nI_add]
  have t0 : tn (nI (1420 + 2 * n)) = 1420 + 2 * n := nI_clamp (by omega)
  have t1 : tn (nI (1420 + 2 * n + 1)) = 1420 + 2 * n + 1 := nI_clamp (by omega)
  rw [h16, e0]
  simp only [nI_1, dd_u_u]
  rw [t0, t1]
  refine ⟨⟨nI_pos' (by omega), by omega⟩, ⟨nI_pos' (by omega), by omega⟩, dd_qV (kk _ ?_ ?_ ?_ ?_ ?_ ⟨⟨?_, ?_⟩, ?_⟩)⟩
  · rw [dd_us, pk_us]
  · rw [dd_un (by decide), dd_us, pk_un (by omega), pk_us]
  · rw [dd_un (by decide), dd_us, pk_us]
  · intro j hj
    rw [dd_un (by decide), dd_us, pk_un (by omega), pk_un (by omega)]
  · intro j hj
    rw [dd_us, pk_un hj]
  · intro k hk k8
    rw [dd_un k8, dd_un (fun e => hk (by rw [e]; decide))]
  · intro j hj
    simp only [List.mem_cons, List.not_mem_nil, or_false, not_or] at hj
    rw [dd_us, pk_un hj.2.2.2]
  · intro j hj
    rw [dd_un (by decide), dd_us, pk_un (by omega), pk_un (by omega)]
theorem getD_app {α : Type} {d x : α} : ∀ (l : List α), (l ++ [x]).getD l.length d = x := by
  intro l
  induction l with
  | nil => rfl
  | cons a l ih => exact ih
theorem getD_app' {α : Type} {d x : α} : ∀ (l : List α) (i : Nat), i < l.length → (l ++ [x]).getD i d = l.getD i d := by
  intro l
  induction l with
  | nil => intro i h; exact absurd h (Nat.not_lt_zero i)
  | cons a l ih =>
    intro i h
    cases i with
    | zero => rfl
    | succ i => exact ih i (by simpa using h)
/-- one code more -/
theorem M_emitsA {d Ln c s : Nat} {I : Nat → Nat → Int32} {L : Nat → Nat → Int64} {K : (Nat → Nat → Int32) → (Nat → Nat → Int64) → Prop} {tp : Nat → Nat} {tl p e a b : Nat} {m : List (Nat × Nat)} (hd : 28 ≤ d) (h : MX tp tl I p e m) (hm : m.length < 400) (kk : ∀ I', MX tp tl I' p e (m ++ [(a, b)]) → FZ I I' → K I' L) : dd_Ev d m_X11_emits [.ref 148, .int (nI a), .int (nI b)] (sM Ln I L c s) (dd_RV Ln c s K) := by
  refine M_emits hd h.2.2.2.2.2.1 hm fun I' c16 ca cb cj c8 f => ?_
  refine kk I' (h.z f ?_ ?_ ⟨?_, ?_⟩) f
  · obtain ⟨q, x, y, z⟩ := h.1
    exact ⟨q, x, by rw [c8 10 (by decide)]; exact y, z⟩
  · rw [c8 13 (by decide)]; exact h.2.2.1
  · rw [c16, List.length_append]; rfl
  · intro i hi
    rw [List.length_append] at hi
    have hi : i < m.length + 1 := hi
    by_cases q : i = m.length
    · subst q
      rw [getD_app, ca, cb]
      exact ⟨rfl, rfl⟩
    · rw [getD_app' m i (by omega), cj _ (by omega), cj _ (by omega)]
      exact h.2.2.2.2.2.2 i (by omega)
theorem M_wordOfPart {d Ln c s : Nat} {I : Nat → Nat → Int32} {L : Nat → Nat → Int64} {K : Int32 → (Nat → Nat → Int32) → (Nat → Nat → Int64) → Prop} {tp : Nat → Nat} {tl b : Nat} (hd : 30 ≤ d) (hS : STR I) (hl : tl ≤ 400) (hb : b ≤ tl) (h10 : I 148 10 = nI (le tp tl b)) (h12 : I 148 12 = nI b) (hx : TXm tp I) (h6 : ∀ j, tp j < 256) (kk : K (oI (tmW tp tl b)) I L) : dd_Ev d m_X11_wordOfPart [.ref 148] (sM Ln I L c s) (dd_RI Ln c s K) := by
  refine w_X11_wordOfPart_0 (by omega) ?_
  unfold tmW at kk
  refine M_isWord (tp := tp) (w := 47) (by omega) (by omega) hS hl hb h10 h12 hx h6 ?_
  rw [bI_z]
  cases e1 : isW tp tl b 47 with
  | true => rw [if_pos e1] at kk; exact ⟨fun z => (by cases z), fun _ => dd_qi kk⟩
  | false =>
  rw [if_neg (by rw [e1]; decide)] at kk
  refine ⟨fun _ => ?_, fun z => absurd rfl z⟩
  refine M_isWord (tp := tp) (w := 46) (by omega) (by omega) hS hl hb h10 h12 hx h6 ?_
  rw [bI_z]
  cases e2 : isW tp tl b 46 with
  | true => rw [if_pos e2] at kk; exact ⟨fun z => (by cases z), fun _ => dd_qi kk⟩
  | false =>
  rw [if_neg (by rw [e2]; decide)] at kk
  refine ⟨fun _ => ?_, fun z => absurd rfl z⟩
  refine M_isWord (tp := tp) (w := 50) (by omega) (by omega) hS hl hb h10 h12 hx h6 ?_
  rw [bI_z]
  cases e3 : isW tp tl b 50 with
  | true => rw [if_pos e3] at kk; exact ⟨fun z => (by cases z), fun _ => dd_qi kk⟩
  | false =>
  rw [if_neg (by rw [e3]; decide)] at kk
  refine ⟨fun _ => ?_, fun z => absurd rfl z⟩
  refine M_isWord (tp := tp) (w := 65) (by omega) (by omega) hS hl hb h10 h12 hx h6 ?_
  rw [bI_z]
  cases e4 : isW tp tl b 65 with
  | true => rw [if_pos e4] at kk; exact ⟨fun z => (by cases z), fun _ => dd_qi kk⟩
  | false =>
  rw [if_neg (by rw [e4]; decide)] at kk
  refine ⟨fun _ => ?_, fun z => absurd rfl z⟩
  refine M_isWord (tp := tp) (w := 66) (by omega) (by omega) hS hl hb h10 h12 hx h6 ?_
  rw [bI_z]
  cases e5 : isW tp tl b 66 with
  | true => rw [if_pos e5] at kk; exact ⟨fun z => (by cases z), fun _ => dd_qi kk⟩
  | false =>
  rw [if_neg (by rw [e5]; decide)] at kk
  refine ⟨fun _ => ?_, fun z => absurd rfl z⟩
  refine M_isWord (tp := tp) (w := 67) (by omega) (by omega) hS hl hb h10 h12 hx h6 ?_
  rw [bI_z]
  cases e6 : isW tp tl b 67 with
  | true => rw [if_pos e6] at kk; exact ⟨fun z => (by cases z), fun _ => dd_qi kk⟩
  | false =>
  rw [if_neg (by rw [e6]; decide)] at kk
  refine ⟨fun _ => ?_, fun z => absurd rfl z⟩
  refine M_isWord (tp := tp) (w := 68) (by omega) (by omega) hS hl hb h10 h12 hx h6 ?_
  rw [bI_z]
  cases e7 : isW tp tl b 68 with
  | true => rw [if_pos e7] at kk; exact ⟨fun z => (by cases z), fun _ => dd_qi kk⟩
  | false =>
  rw [if_neg (by rw [e7]; decide)] at kk
  refine ⟨fun _ => ?_, fun z => absurd rfl z⟩
  refine M_isWord (tp := tp) (w := 56) (by omega) (by omega) hS hl hb h10 h12 hx h6 ?_
  rw [bI_z]
  cases e8 : isW tp tl b 56 with
  | true => rw [if_pos e8] at kk; exact ⟨fun z => (by cases z), fun _ => dd_qi kk⟩
  | false =>
  rw [if_neg (by rw [e8]; decide)] at kk
  exact ⟨fun _ => dd_qi kk, fun z => absurd rfl z⟩
theorem kd1_le {tp : Nat → Nat} {tl b : Nat} : le tp tl b = b ↔ ¬ kd tp tl b = 1 := by
  constructor
  · intro h k
    rcases kd_c tp tl b with ⟨_, e⟩ | ⟨z, y, e⟩ | ⟨_, _, e⟩ | ⟨_, _, _, e⟩ <;> try omega
    have h1 : le tp tl b = le tp tl (b + 1) := rn_y z y
    have h2 := rn_le (p := isL tp) (tl := tl) (b + 1)
    unfold le at *
    omega
  · intro h
    refine rn_n fun z => h (kd_1 z.1 z.2)
theorem tmA_n {tp : Nat → Nat} {tl b : Nat} (k : ¬ kd tp tl b = 1) (e : numA tp tl b 1000 = none) : tmA tp tl b = none := by unfold tmA; rw [if_neg k, e]
theorem tmA_v {tp : Nat → Nat} {tl b v : Nat} (k : ¬ kd tp tl b = 1) (e : numA tp tl b 1000 = some v) : tmA tp tl b = some ((10, v), nI v) := by unfold tmA; rw [if_neg k, e]
theorem tmA_0 {tp : Nat → Nat} {tl b : Nat} (k : kd tp tl b = 1) (e : tmW tp tl b = none) : tmA tp tl b = none := by unfold tmA; rw [if_pos k, e]
theorem tmA_i {tp : Nat → Nat} {tl b i : Nat} (k : kd tp tl b = 1) (e : tmW tp tl b = some i) : tmA tp tl b = some ((i, 0), -20 - nI i) := by unfold tmA; rw [if_pos k, e]
theorem M_readPartL {d Ln c s : Nat} {I : Nat → Nat → Int32} {L : Nat → Nat → Int64} {K : Int32 → (Nat → Nat → Int32) → (Nat → Nat → Int64) → Prop} {tp : Nat → Nat} {tl p e : Nat} {m : List (Nat × Nat)} (hd : 32 ≤ d) (hl : tl ≤ 400) (hp : p ≤ tl) (h6 : ∀ j, tp j < 256) (h : MX tp tl I p e m) (hm : m.length < 400) (kf : tmA tp tl (sk tp tl p) = none → ∀ I', I' 148 12 = nI (sk tp tl p) → FZ I I' → K 0 I' L) (kt : ∀ t x, tmA tp tl (sk tp tl p) = some (t, x) → ∀ I', MX tp tl I' (ek tp tl (sk tp tl p)) e (m ++ [t]) → FZ I I' → K 1 I' L) : dd_Ev d m_X11_readPart [.ref 148] (sM Ln I L c s) (dd_RI Ln c s K) := by
  have hb := sk_tl (tp := tp) hp
  have hle : le tp tl (sk tp tl p) ≤ tl := rn_tl (p := isL tp) (tl := tl) _ hb
  refine w_X11_readPart_0 (by omega) ?_
  refine M_lettersA (tp := tp) (p := p) (by omega) hl h6 h fun J j10 j12 fj => ?_
  rw [j10, j12, nI_eq (by omega) (by omega)]
  refine ⟨fun z => ?_, fun z => ?_⟩
  · have k1 := kd1_le.mp z
    have hJ : MX tp tl J p e m := h.r fj (AT.sk hp (by rw [j10, z]))
    have sk2 : sk tp tl (sk tp tl p) = sk tp tl p := rn_n (rn_end (p := isB tp) (tl := tl) p)
    refine M_number (tp := tp) (p := sk tp tl p) (m := 1000) (by omega) (by omega) rfl hl hb (by rw [j10, z]) hJ.2.1 hJ.2.2.2.1 h6 (fun en I1 b12 f1 => ?_) (fun v en I1 b10 b12 f1 => ?_)
    · rw [sk2] at en b12
      refine M_emits (n := m.length) (by omega) (by rw [f1.2 16 (by decide)]; exact hJ.2.2.2.2.2.1) hm fun I2 _ _ _ _ c8 f2 => ?_
      exact ⟨fun _ => dd_qi (kf (tmA_n k1 en) I2 (by rw [c8 12 (by decide)]; exact b12) ((FZ.r fj).trans ((FZ.r f1).trans f2))), fun y => absurd (by decide) y⟩
    · rw [sk2] at en b10 b12
      have hv := numA_s en
      have h1 : MX tp tl I1 (ek tp tl (sk tp tl p)) e m := hJ.r f1 (AT.at (ek_tl tp tl _ hb) b10)
      refine M_emitsA (a := 10) (b := v) (by omega) h1 hm fun I2 h2 f2 => ?_
      exact ⟨fun y => absurd y (nneg (by omega)), fun _ => dd_qi (kt (10, v) (nI v) (tmA_v k1 en) I2 h2 ((FZ.r fj).trans ((FZ.r f1).trans f2)))⟩
  · have k1 : kd tp tl (sk tp tl p) = 1 := Classical.byContradiction fun y => z (kd1_le.mpr y)
    have eE : ek tp tl (sk tp tl p) = le tp tl (sk tp tl p) := by unfold ek; rw [k1]; rfl
    have hJ : MX tp tl J (ek tp tl (sk tp tl p)) e m := h.r fj (AT.at (ek_tl tp tl _ hb) (by rw [j10, eE]))
    refine M_wordOfPart (tp := tp) (by omega) hJ.2.2.2.2.1 hl hb j10 j12 hJ.2.2.2.1 h6 ?_
    cases ew : tmW tp tl (sk tp tl p) with
    | none =>
      refine M_emits (n := m.length) (by omega) hJ.2.2.2.2.2.1 hm fun I2 _ _ _ _ c8 f2 => ?_
      exact ⟨fun _ => dd_qi (kf (tmA_0 k1 ew) I2 (by rw [c8 12 (by decide)]; exact j12) ((FZ.r fj).trans f2)), fun y => absurd (by decide) y⟩
    | some i =>
      have hi := tmW_lt ew
      refine M_emitsA (a := i) (b := 0) (by omega) hJ hm fun I2 h2 f2 => ?_
      exact ⟨fun y => absurd y (nneg (by omega)), fun _ => dd_qi (kt (i, 0) (-20 - nI i) (tmA_i k1 ew) I2 h2 ((FZ.r fj).trans f2))⟩
/-- both ends of what is read: m0 was out before -/
def MR (tp : Nat → Nat) (tl e : Nat) (m0 : List (Nat × Nat)) (r : PR) (I : Nat → Nat → Int32) (L : Nat → Nat → Int64) (K : Int32 → (Nat → Nat → Int32) → (Nat → Nat → Int64) → Prop) : Prop :=
  (∀ f, r = .inl f → ∀ I', I' 148 12 = nI f → FZ I I' → K 0 I' L) ∧ (∀ m cc q, r = .inr (m, cc, q) → ∀ I', MX tp tl I' q e (m0 ++ m) → FZ I I' → K 1 I' L)
theorem MR.g {tp : Nat → Nat} {tl e : Nat} {m0 : List (Nat × Nat)} {r : PR} {I J : Nat → Nat → Int32} {L : Nat → Nat → Int64} {K : Int32 → (Nat → Nat → Int32) → (Nat → Nat → Int64) → Prop} (h : MR tp tl e m0 r I L K) (f : FZ I J) : MR tp tl e m0 r J L K :=
  ⟨fun a x I' h5 g => h.1 a x I' h5 (f.trans g), fun m cc q x I' mx g => h.2 m cc q x I' mx (f.trans g)⟩
theorem M_sumLoop {K : Int32 → (Nat → Nat → Int32) → (Nat → Nat → Int64) → Prop} {Ln c s : Nat} {L : Nat → Nat → Int64} {tp : Nat → Nat} {tl e : Nat} (hl : tl ≤ 400) (h6 : ∀ j, tp j < 256) {m0 : List (Nat × Nat)} : ∀ n d m cc p I, 36 ≤ d → p ≤ tl → tl < p + n → MX tp tl I p e (m0 ++ m) → (m0 ++ m).length + 1 ≤ p → MR tp tl e m0 (pS tp tl n m cc p) I L K → dd_Rn d m_X11_readSum (9, [.ref 148], [], sM Ln I L c s) (dd_RI Ln c s K) := by
  intro n
  induction n with
  | zero => intro d m cc p I hd hp ht; omega
  | succ n ih =>
    intro d m cc p I hd hp ht h hm mr
    rw [pS] at mr
    refine w_X11_readSum_9 (by omega) ?_
    refine M_signA (tp := tp) (p := p) (v := 43) (by omega) (by omega) (by omega) hl hp h6 h (fun z I1 h1 _ f1 => ?_) (fun z I1 h1 _ f1 => ?_)
    · rw [if_neg (by rw [z]; decide)] at mr
      exact ⟨fun _ => dd_qi (mr.2 m cc p rfl I1 h1 f1), fun y => absurd rfl y⟩
    · rw [if_pos z] at mr
      have s1 := stepS hp (by omega) z
      refine ⟨fun y => absurd y (by decide), fun _ => ?_⟩
      refine M_readPartL (tp := tp) (by omega) hl s1.2 h6 h1 (by omega) (fun et I2 b12 f2 => ?_) (fun t x et I2 h2 f2 => ?_)
      · rw [et] at mr
        exact ⟨fun _ => dd_qi (mr.1 _ rfl I2 b12 (f1.trans f2)), fun y => absurd rfl y⟩
      · rw [et] at mr
        have ok := tmA_ok et
        have s2 := stepP s1.2 (show ¬ kd tp tl (sk tp tl (ek tp tl (sk tp tl p))) = 0 by omega)
        refine ⟨fun y => absurd y (by decide), fun _ => ?_⟩
        have l1 : (m0 ++ m ++ [t]).length = (m0 ++ m).length + 1 := by rw [List.length_append]; rfl
        refine M_emitsA (a := 11) (b := 0) (by omega) h2 (by omega) fun I3 h3 f3 => ?_
        have eL : m0 ++ m ++ [t] ++ [(11, 0)] = m0 ++ (m ++ [t, (11, 0)]) := by rw [List.append_assoc, List.append_assoc]; rfl
        rw [eL] at h3
        refine ih d _ _ _ I3 hd s2.2 (by omega) h3 ?_ (mr.g (f1.trans (f2.trans f3)))
        rw [← eL, List.length_append, l1]
        show (m0 ++ m).length + 1 + 1 + 1 ≤ _
        omega
theorem M_sum {d Ln c s : Nat} {I : Nat → Nat → Int32} {L : Nat → Nat → Int64} {K : Int32 → (Nat → Nat → Int32) → (Nat → Nat → Int64) → Prop} {tp : Nat → Nat} {tl e p : Nat} {m0 : List (Nat × Nat)} (hd : 37 ≤ d) (hl : tl ≤ 400) (h6 : ∀ j, tp j < 256) (hp : p ≤ tl) (h : MX tp tl I p e m0) (hm : m0.length + 1 ≤ p) (mr : MR tp tl e m0 (pM tp tl p) I L K) : dd_Ev d m_X11_readSum [.ref 148] (sM Ln I L c s) (dd_RI Ln c s K) := by
  unfold pM at mr
  refine w_X11_readSum_0 (by omega) ?_
  refine M_readPartL (tp := tp) (by omega) hl hp h6 h (by omega) (fun et I2 b12 f2 => ?_) (fun t x et I2 h2 f2 => ?_)
  · rw [et] at mr
    exact ⟨fun _ => dd_qi (mr.1 _ rfl I2 b12 f2), fun y => absurd rfl y⟩
  · rw [et] at mr
    have ok := tmA_ok et
    have s2 := stepP hp (show ¬ kd tp tl (sk tp tl p) = 0 by omega)
    refine ⟨fun y => absurd y (by decide), fun _ => ?_⟩
    have l1 : (m0 ++ [t]).length = m0.length + 1 := by rw [List.length_append]; rfl
    exact M_sumLoop (tp := tp) hl h6 401 d [t] [x] _ I2 (by omega) s2.2 (by omega) h2 (by omega) (mr.g f2)
theorem M_tag {d Ln c s : Nat} {I : Nat → Nat → Int32} {L : Nat → Nat → Int64} {K : Int32 → (Nat → Nat → Int32) → (Nat → Nat → Int64) → Prop} {tp : Nat → Nat} {tl p e : Nat} {m : List (Nat × Nat)} (hd : 32 ≤ d) (hl : tl ≤ 400) (hp : p ≤ tl) (h6 : ∀ j, tp j < 256) (h : MX tp tl I p e m) (hm : m.length < 400) (k8 : isW tp tl (sk tp tl p) 63 = true → ∀ I', MX tp tl I' (ek tp tl (sk tp tl p)) e (m ++ [(8, 0)]) → FZ I I' → K 1 I' L) (k9 : isW tp tl (sk tp tl p) 63 = false → isW tp tl (sk tp tl p) 64 = true → ∀ I', MX tp tl I' (ek tp tl (sk tp tl p)) e (m ++ [(9, 0)]) → FZ I I' → K 1 I' L) (kn : isW tp tl (sk tp tl p) 63 = false → isW tp tl (sk tp tl p) 64 = false → ∀ I', MX tp tl I' p e m → FZ I I' → K 0 I' L) : dd_Ev d m_X11_readTag [.ref 148] (sM Ln I L c s) (dd_RI Ln c s K) := by
  have hb := sk_tl (tp := tp) hp
  refine w_X11_readTag_0 (by omega) ?_
  refine M_lettersA (tp := tp) (p := p) (by omega) hl h6 h fun J j10 j12 fj => ?_
  have hS := (FZ.r fj).s h.2.2.2.2.1
  have hx := h.2.2.2.1.f fj (by decide)
  refine M_isWord (tp := tp) (w := 63) (by omega) (by omega) hS hl hb j10 j12 hx h6 ?_
  rw [bI_z]
  cases e1 : isW tp tl (sk tp tl p) 63 with
  | true =>
    refine ⟨fun z => (by cases z), fun _ => ?_⟩
    have hJ : MX tp tl J (ek tp tl (sk tp tl p)) e m := h.r fj (AT.at (ek_tl tp tl _ hb) (by rw [j10, (isW_k (by omega) e1).2]))
    exact M_emitsA (a := 8) (b := 0) (by omega) hJ hm fun I2 h2 f2 => dd_qi (k8 e1 I2 h2 ((FZ.r fj).trans f2))
  | false =>
  refine ⟨fun _ => ?_, fun z => absurd rfl z⟩
  refine M_isWord (tp := tp) (w := 64) (by omega) (by omega) hS hl hb j10 j12 hx h6 ?_
  rw [bI_z]
  cases e2 : isW tp tl (sk tp tl p) 64 with
  | true =>
    refine ⟨fun z => (by cases z), fun _ => ?_⟩
    have hJ : MX tp tl J (ek tp tl (sk tp tl p)) e m := h.r fj (AT.at (ek_tl tp tl _ hb) (by rw [j10, (isW_k (by omega) e2).2]))
    exact M_emitsA (a := 9) (b := 0) (by omega) hJ hm fun I2 h2 f2 => dd_qi (k9 e1 e2 I2 h2 ((FZ.r fj).trans f2))
  | false =>
  refine ⟨fun _ => dd_qi ?_, fun z => absurd rfl z⟩
  have f2 : FR 148 [] [10, 12] I (dd_u J 148 (upd (J 148) 10 (J 148 12))) := fj.v (by decide)
  exact kn e1 e2 _ (h.r f2 (AT.sk hp (by rw [dd_us, pk_us]; exact j12))) (FZ.r f2)
/-- an atom without not and bracket -/
theorem M_leaf {d Ln c s : Nat} {I I3 : Nat → Nat → Int32} {L : Nat → Nat → Int64} {K : Int32 → (Nat → Nat → Int32) → (Nat → Nat → Int64) → Prop} {tp : Nat → Nat} {tl p e : Nat} {m0 : List (Nat × Nat)} (hd : 40 ≤ d) (hl : tl ≤ 400) (hp : p ≤ tl) (h6 : ∀ j, tp j < 256) (h : MX tp tl I p e m0) (hm : m0.length + 1 ≤ p) (mr : MR tp tl e m0 (pF tp tl p) I L K) : dd_Ev (d - 1) m_X11_readTag [.ref 148] (sM Ln I L c s) (dd_RI Ln c s (fun x3 I3 L3 => ((x3 = 0 → dd_Ev (d - 1) m_X11_readSum [.ref 148] (sM Ln I3 L3 c s) (dd_RI Ln c s (fun x4 I4 L4 => ((x4 = 0 → dd_RI Ln c s K (none, .int 0, sM Ln I4 L4 c s)) ∧ (¬ (x4 = 0) → dd_Ev (d - 1) m_X11_sign [.ref 148, .int 60] (sM Ln I4 L4 c s) (dd_RI Ln c s (fun x5 I5 L5 => ((x5 = 0 → dd_Ev (d - 1) m_X11_sign [.ref 148, .int 62] (sM Ln I5 L5 c s) (dd_RI Ln c s (fun x6 I6 L6 => ((x6 = 0 → dd_RI Ln c s K (none, .int 0, sM Ln I6 L6 c s)) ∧ (¬ (x6 = 0) → dd_Ev (d - 1) m_X11_readSum [.ref 148] (sM Ln I6 L6 c s) (dd_RI Ln c s (fun x7 I7 L7 => ((x7 = 0 → dd_RI Ln c s K (none, .int 0, sM Ln I7 L7 c s)) ∧ (¬ (x7 = 0) → ((x5 = 0 → dd_Ev (d - 1) m_X11_emits [.ref 148, .int 13, .int 0] (sM Ln I7 L7 c s) (dd_RV Ln c s (fun I8 L8 => dd_RI Ln c s K (none, .int 1, sM Ln I8 L8 c s)))) ∧ (¬ (x5 = 0) → dd_Ev (d - 1) m_X11_emits [.ref 148, .int 12, .int 0] (sM Ln I7 L7 c s) (dd_RV Ln c s (fun I9 L9 => dd_RI Ln c s K (none, .int 1, sM Ln I9 L9 c s)))))))))))))) ∧ (¬ (x5 = 0) → dd_Ev (d - 1) m_X11_readSum [.ref 148] (sM Ln I5 L5 c s) (dd_RI Ln c s (fun x10 I10 L10 => ((x10 = 0 → dd_RI Ln c s K (none, .int 0, sM Ln I10 L10 c s)) ∧ (¬ (x10 = 0) → ((x5 = 0 → dd_Ev (d - 1) m_X11_emits [.ref 148, .int 13, .int 0] (sM Ln I10 L10 c s) (dd_RV Ln c s (fun I11 L11 => dd_RI Ln c s K (none, .int 1, sM Ln I11 L11 c s)))) ∧ (¬ (x5 = 0) → dd_Ev (d - 1) m_X11_emits [.ref 148, .int 12, .int 0] (sM Ln I10 L10 c s) (dd_RV Ln c s (fun I12 L12 => dd_RI Ln c s K (none, .int 1, sM Ln I12 L12 c s)))))))))))))))))) ∧ (¬ (x3 = 0) → dd_RI Ln c s K (none, .int 1, sM Ln I3 L3 c s))))) := by
  unfold pF at mr
  refine M_tag (tp := tp) (by omega) hl hp h6 h (by omega) (fun e1 I1 h1 f1 => ?_) (fun e1 e2 I1 h1 f1 => ?_) (fun e1 e2 I1 h1 f1 => ?_)
  · rw [if_pos e1] at mr
    exact ⟨fun z => absurd z (by decide), fun _ => dd_qi (mr.2 _ _ _ rfl I1 h1 f1)⟩
  · rw [if_neg (by rw [e1]; decide), if_pos e2] at mr
    exact ⟨fun z => absurd z (by decide), fun _ => dd_qi (mr.2 _ _ _ rfl I1 h1 f1)⟩
  rw [if_neg (by rw [e1]; decide), if_neg (by rw [e2]; decide)] at mr
  refine ⟨fun _ => ?_, fun z => absurd rfl z⟩
  refine M_sum (tp := tp) (by omega) hl h6 hp h1 hm ⟨fun f ef I2 b12 f2 => ?_, fun m cc q er I2 h2 f2 => ?_⟩
  · exact ⟨fun _ => dd_qi (mr.1 f (bnd_l ef) I2 b12 (f1.trans f2)), fun z => absurd rfl z⟩
  rw [bnd_r er] at mr
  obtain ⟨a1, a2, a3, a4, a5⟩ := pM_ok hp er
  have lm : (m0 ++ m).length = m0.length + m.length := List.length_append
  refine ⟨fun z => absurd z (by decide), fun _ => ?_⟩
  refine M_signA (tp := tp) (p := q) (v := 60) (by omega) (by omega) (by omega) hl a2 h6 h2 (fun z I3 h3 b12 f3 => ?_) (fun z I3 h3 b12 f3 => ?_)
  · rw [if_neg (by rw [z]; decide)] at mr
    refine ⟨fun _ => ?_, fun y => absurd rfl y⟩
    refine M_signA (tp := tp) (p := q) (v := 62) (by omega) (by omega) (by omega) hl a2 h6 h3 (fun z I4 h4 b12 f4 => ?_) (fun z I4 h4 b12 f4 => ?_)
    · rw [if_neg (by rw [z]; decide)] at mr
      exact ⟨fun _ => dd_qi (mr.1 _ rfl I4 b12 (f1.trans (f2.trans (f3.trans f4)))), fun y => absurd rfl y⟩
    · rw [if_pos z] at mr
      have s1 := stepS a2 (by omega) z
      refine ⟨fun y => absurd y (by decide), fun _ => ?_⟩
      refine M_sum (tp := tp) (by omega) hl h6 s1.2 h4 (by omega) ⟨fun f ef I5 b12 f5 => ?_, fun m2 c2 q2 er2 I5 h5 f5 => ?_⟩
      · exact ⟨fun _ => dd_qi (mr.1 f (bnd_l ef) I5 b12 (f1.trans (f2.trans (f3.trans (f4.trans f5))))), fun z => absurd rfl z⟩
      rw [bnd_r er2] at mr
      obtain ⟨b1, b2, b3, b4, b5⟩ := pM_ok s1.2 er2
      refine ⟨fun y => absurd y (by decide), fun _ => ⟨fun _ => ?_, fun y => absurd rfl y⟩⟩
      have lm2 : (m0 ++ m ++ m2).length = m0.length + m.length + m2.length := by rw [List.length_append, List.length_append]
      refine M_emitsA (a := 13) (b := 0) (by omega) h5 (by omega) fun I6 h6' f6 => dd_qi ?_
      have eL : m0 ++ m ++ m2 ++ [(13, 0)] = m0 ++ (m ++ m2 ++ [(13, 0)]) := by rw [List.append_assoc, List.append_assoc, List.append_assoc]
      rw [eL] at h6'
      exact mr.2 _ _ _ rfl I6 h6' (f1.trans (f2.trans (f3.trans (f4.trans (f5.trans f6)))))
  · rw [if_pos z] at mr
    have s1 := stepS a2 (by omega) z
    refine ⟨fun y => absurd y (by decide), fun _ => ?_⟩
    refine M_sum (tp := tp) (by omega) hl h6 s1.2 h3 (by omega) ⟨fun f ef I5 b12 f5 => ?_, fun m2 c2 q2 er2 I5 h5 f5 => ?_⟩
    · exact ⟨fun _ => dd_qi (mr.1 f (bnd_l ef) I5 b12 (f1.trans (f2.trans (f3.trans f5)))), fun z => absurd rfl z⟩
    rw [bnd_r er2] at mr
    obtain ⟨b1, b2, b3, b4, b5⟩ := pM_ok s1.2 er2
    refine ⟨fun y => absurd y (by decide), fun _ => ⟨fun y => absurd y (by decide), fun _ => ?_⟩⟩
    have lm2 : (m0 ++ m ++ m2).length = m0.length + m.length + m2.length := by rw [List.length_append, List.length_append]
    refine M_emitsA (a := 12) (b := 0) (by omega) h5 (by omega) fun I6 h6' f6 => dd_qi ?_
    have eL : m0 ++ m ++ m2 ++ [(12, 0)] = m0 ++ (m ++ m2 ++ [(12, 0)]) := by rw [List.append_assoc, List.append_assoc, List.append_assoc]
    rw [eL] at h6'
    exact mr.2 _ _ _ rfl I6 h6' (f1.trans (f2.trans (f3.trans (f5.trans f6))))
/-- the model reads as prs does -/
theorem M_prs {Ln c s : Nat} {L : Nat → Nat → Int64} {tp : Nat → Nat} {tl : Nat} (hl : tl ≤ 400) (h6 : ∀ j, tp j < 256) : ∀ n,
    (∀ d e p I m0 K, 42 + 4 * (7 - e) ≤ d → e ≤ 6 → p ≤ tl → tl < p + n → MX tp tl I p e m0 → m0.length + 1 ≤ p → MR tp tl e m0 ((prs tp tl n).1 e p) I L K → dd_Ev d m_X11_readAtom [.ref 148] (sM Ln I L c s) (dd_RI Ln c s K))
    ∧ (∀ d e m cc p I m0 K, 43 + 4 * (7 - e) ≤ d → e ≤ 6 → p ≤ tl → tl < p + n → MX tp tl I p e (m0 ++ m) → (m0 ++ m).length + 1 ≤ p → MR tp tl e m0 ((prs tp tl n).2.1 e m cc p) I L K → dd_Rn d m_X11_readAllOf (9, [.ref 148], [], sM Ln I L c s) (dd_RI Ln c s K))
    ∧ (∀ d e m cc p I m0 K, 44 + 4 * (7 - e) ≤ d → e ≤ 6 → p ≤ tl → tl < p + n → MX tp tl I p e (m0 ++ m) → (m0 ++ m).length + 1 ≤ p → MR tp tl e m0 ((prs tp tl n).2.2 e m cc p) I L K → dd_Rn d m_X11_readCond (9, [.ref 148], [], sM Ln I L c s) (dd_RI Ln c s K)) := by
  intro n
  induction n with
  | zero => exact ⟨fun d e p I m0 K _ _ hp ht => by omega, fun d e m cc p I m0 K _ _ hp ht => by omega, fun d e m cc p I m0 K _ _ hp ht => by omega⟩
  | succ n ih =>
    obtain ⟨iA, iB, iC⟩ := ih
    obtain ⟨oA, oB, oC⟩ := prs_ok (tp := tp) hl n
    refine ⟨?_, ?_, ?_⟩
    · intro d e p I m0 K hd he hp ht h hm mr
      rw [prs] at mr
      simp only at mr
      refine w_X11_readAtom_0 (by omega) ?_
      refine M_signA (tp := tp) (p := p) (v := 40) (by omega) (by omega) (by omega) hl hp h6 h (fun z1 I1 h1 b12 f1 => ?_) (fun z1 I1 h1 b12 f1 => ?_)
      · rw [if_neg (by rw [z1]; decide)] at mr
        have mr := mr.g f1
        refine ⟨fun _ => ?_, fun z => absurd rfl z⟩
        refine M_passesA (tp := tp) (p := p) (w := 62) (by omega) (by omega) hl hp h6 h1 (fun z2 I2 h2 b12 f2 => ?_) (fun z2 I2 h2 b12 f2 => ?_)
        · rw [if_neg (by rw [z2]; decide)] at mr
          refine ⟨fun _ => ?_, fun z => absurd rfl z⟩
          exact M_leaf (I3 := I2) (by omega) hl hp h6 h2 hm (mr.g f2)
        · rw [if_pos z2] at mr
          refine ⟨fun z => absurd z (by decide), fun _ => ?_⟩
          rw [h2.2.2.1, li_6, nI_eq (by omega) (by omega)]
          refine ⟨fun z => ?_, fun z => ?_⟩
          · rw [if_pos z] at mr
            exact dd_qi (mr.1 _ rfl I2 b12 f2)
          · rw [if_neg z] at mr
            have s := stepW hp (by omega) z2
            have l3 : (wdL 62).length = 3 := by decide
            rw [nI_1]
            have h3 := h2.d (e + 1)
            refine iA (d - 1) (e + 1) _ _ m0 _ (by omega) (by omega) s.2 (by omega) h3 (by omega) ⟨fun f ef I4 b12 f4 => ?_, fun m cc q er I4 h4 f4 => ?_⟩
            · exact ⟨fun _ => dd_qi (mr.1 f (bnd_l ef) I4 b12 (f2.trans ((FZ.d _).trans f4))), fun z => absurd rfl z⟩
            · rw [bnd_r er] at mr
              obtain ⟨a1, a2, a3, a4, a5⟩ := oA _ _ _ _ _ (by omega) s.2 er
              refine ⟨fun z => absurd z (by decide), fun _ => ?_⟩
              have e1 : I4 148 13 - 1 = nI e := by rw [h4.2.2.1, li_1, pk_sub (by omega)]; rfl
              rw [e1]
              have lm : (m0 ++ m).length = m0.length + m.length := List.length_append
              refine M_emitsA (a := 14) (b := 0) (by omega) (h4.d e) (by omega) fun I5 h5 f5 => dd_qi ?_
              have eL : m0 ++ m ++ [(14, 0)] = m0 ++ (m ++ [(14, 0)]) := by rw [List.append_assoc]
              rw [eL] at h5
              exact mr.2 _ _ _ rfl I5 h5 (f2.trans ((FZ.d _).trans (f4.trans ((FZ.d _).trans f5))))
      · rw [if_pos z1] at mr
        refine ⟨fun z => absurd z (by decide), fun _ => ?_⟩
        rw [h1.2.2.1, li_6, nI_eq (by omega) (by omega)]
        refine ⟨fun z => ?_, fun z => ?_⟩
        · rw [if_pos z] at mr
          exact dd_qi (mr.1 _ rfl I1 b12 f1)
        rw [if_neg z] at mr
        have s := stepS hp (by omega) z1
        rw [nI_1]
        have h2 := h1.d (e + 1)
        have g2 := f1.trans (FZ.d (I := I1) (nI (e + 1)))
        generalize dd_u I1 148 (upd (I1 148) 13 (nI (e + 1))) = I2 at *
        refine w_X11_readCond_0 (by omega) ?_
        refine w_X11_readAllOf_0 (by omega) ?_
        refine iA (d - 1 - 1 - 1) (e + 1) _ _ m0 _ (by omega) (by omega) s.2 (by omega) h2 (by omega) ⟨fun f ef I4 b12 f4 => ?_, fun m cc q er I4 h4 f4 => ?_⟩
        · exact ⟨fun _ => dd_qi ⟨fun _ => dd_qi ⟨fun _ => dd_qi (mr.1 f (bnd_l ef) I4 b12 (g2.trans f4)), fun z => absurd rfl z⟩, fun z => absurd rfl z⟩, fun z => absurd rfl z⟩
        rw [bnd_r er] at mr
        obtain ⟨a1, a2, a3, a4, a5⟩ := oA _ _ _ _ _ (by omega) s.2 er
        have lm : (m0 ++ m).length = m0.length + m.length := List.length_append
        refine ⟨fun z => absurd z (by decide), fun _ => ?_⟩
        refine iB (d - 1 - 1) (e + 1) m cc q _ m0 _ (by omega) (by omega) a2 (by omega) h4 (by omega) ⟨fun f ef I5 b12 f5 => ?_, fun m2 c2 q2 er2 I5 h5 f5 => ?_⟩
        · exact ⟨fun _ => dd_qi ⟨fun _ => dd_qi (mr.1 f (bnd_l ef) I5 b12 (g2.trans (f4.trans f5))), fun z => absurd rfl z⟩, fun z => absurd rfl z⟩
        rw [bnd_r er2] at mr
        obtain ⟨b1, b2, b3, b4, b5⟩ := oB _ _ _ _ _ _ _ (by omega) a2 (a3.mono (by omega)) er2
        have lm2 : (m0 ++ m2).length = m0.length + m2.length := List.length_append
        refine ⟨fun z => absurd z (by decide), fun _ => ?_⟩
        refine iC (d - 1) (e + 1) m2 c2 q2 _ m0 _ (by omega) (by omega) b2 (by omega) h5 (by omega) ⟨fun f ef I6 b12 f6 => ?_, fun m3 c3 q3 er3 I6 h6' f6 => ?_⟩
        · exact ⟨fun _ => dd_qi (mr.1 f (bnd_l ef) I6 b12 (g2.trans (f4.trans (f5.trans f6)))), fun z => absurd rfl z⟩
        rw [bnd_r er3] at mr
        obtain ⟨c1, c2', c3', c4, c5⟩ := oC _ _ _ _ _ _ _ (by omega) b2 (b3.mono (by omega)) er3
        refine ⟨fun z => absurd z (by decide), fun _ => ?_⟩
        have e1 : I6 148 13 - 1 = nI e := by rw [h6'.2.2.1, li_1, pk_sub (by omega)]; rfl
        rw [e1]
        refine M_signA (tp := tp) (p := q3) (v := 41) (by omega) (by omega) (by omega) hl c2' h6 (h6'.d e) (fun z2 I7 h7 b12 f7 => ?_) (fun z2 I7 h7 b12 f7 => ?_)
        · rw [if_neg (by rw [z2]; decide)] at mr
          exact ⟨Or.inl rfl, dd_qi (mr.1 _ rfl I7 b12 (g2.trans (f4.trans (f5.trans (f6.trans ((FZ.d _).trans f7))))))⟩
        · rw [if_pos z2] at mr
          exact ⟨Or.inr rfl, dd_qi (mr.2 _ _ _ rfl I7 h7 (g2.trans (f4.trans (f5.trans (f6.trans ((FZ.d _).trans f7))))))⟩
    · intro d e m cc p I m0 K hd he hp ht h hm mr
      rw [prs] at mr
      simp only at mr
      refine w_X11_readAllOf_9 (by omega) ?_
      refine M_passesA (tp := tp) (p := p) (w := 69) (by omega) (by omega) hl hp h6 h (fun z1 I1 h1 b12 f1 => ?_) (fun z1 I1 h1 b12 f1 => ?_)
      · rw [if_neg (by rw [z1]; decide)] at mr
        exact ⟨fun _ => dd_qi (mr.2 _ _ _ rfl I1 h1 f1), fun z => absurd rfl z⟩
      rw [if_pos z1] at mr
      have s := stepW hp (by omega) z1
      have l3 : (wdL 69).length = 3 := by decide
      refine ⟨fun z => absurd z (by decide), fun _ => ?_⟩
      refine iA (d - 1) e _ _ (m0 ++ m) _ (by omega) he s.2 (by omega) h1 (by omega) ⟨fun f ef I4 b12 f4 => ?_, fun m2 c2 q er I4 h4 f4 => ?_⟩
      · exact ⟨fun _ => dd_qi (mr.1 f (bnd_l ef) I4 b12 (f1.trans f4)), fun z => absurd rfl z⟩
      rw [bnd_r er] at mr
      obtain ⟨a1, a2, a3, a4, a5⟩ := oA _ _ _ _ _ he s.2 er
      have lm : (m0 ++ m ++ m2).length = (m0 ++ m).length + m2.length := List.length_append
      refine ⟨fun z => absurd z (by decide), fun _ => ?_⟩
      refine M_emitsA (a := 15) (b := 0) (by omega) h4 (by omega) fun I5 h5 f5 => ?_
      have eL : m0 ++ m ++ m2 ++ [(15, 0)] = m0 ++ (m ++ m2 ++ [(15, 0)]) := by rw [List.append_assoc, List.append_assoc, List.append_assoc]
      have lm3 : (m0 ++ m ++ m2 ++ [(15, 0)]).length = (m0 ++ m ++ m2).length + 1 := by rw [List.length_append]; rfl
      rw [eL] at h5 lm3
      exact iB d e _ (cc ++ c2 ++ [-5]) q I5 m0 K hd he a2 (by omega) h5 (by omega) (mr.g (f1.trans (f4.trans f5)))
    · intro d e m cc p I m0 K hd he hp ht h hm mr
      rw [prs] at mr
      simp only at mr
      refine w_X11_readCond_9 (by omega) ?_
      refine M_passesA (tp := tp) (p := p) (w := 70) (by omega) (by omega) hl hp h6 h (fun z1 I1 h1 b12 f1 => ?_) (fun z1 I1 h1 b12 f1 => ?_)
      · rw [if_neg (by rw [z1]; decide)] at mr
        exact ⟨fun _ => dd_qi (mr.2 _ _ _ rfl I1 h1 f1), fun z => absurd rfl z⟩
      rw [if_pos z1] at mr
      have s := stepW hp (by omega) z1
      have l3 : (wdL 70).length = 2 := by decide
      refine ⟨fun z => absurd z (by decide), fun _ => ?_⟩
      refine w_X11_readAllOf_0 (by omega) ?_
      refine iA (d - 1 - 1) e _ _ (m0 ++ m) _ (by omega) he s.2 (by omega) h1 (by omega) ⟨fun f ef I4 b12 f4 => ?_, fun m2 c2 q er I4 h4 f4 => ?_⟩
      · exact ⟨fun _ => dd_qi ⟨fun _ => dd_qi (mr.1 f (bnd_l ef) I4 b12 (f1.trans f4)), fun z => absurd rfl z⟩, fun z => absurd rfl z⟩
      rw [bnd_r er] at mr
      obtain ⟨a1, a2, a3, a4, a5⟩ := oA _ _ _ _ _ he s.2 er
      have lm : (m0 ++ m ++ m2).length = (m0 ++ m).length + m2.length := List.length_append
      refine ⟨fun z => absurd z (by decide), fun _ => ?_⟩
      refine iB (d - 1) e m2 c2 q I4 (m0 ++ m) _ (by omega) he a2 (by omega) h4 (by omega) ⟨fun f ef I5 b12 f5 => ?_, fun m3 c3 q3 er3 I5 h5 f5 => ?_⟩
      · exact ⟨fun _ => dd_qi (mr.1 f (bnd_l ef) I5 b12 (f1.trans (f4.trans f5))), fun z => absurd rfl z⟩
      rw [bnd_r er3] at mr
      obtain ⟨b1, b2, b3, b4, b5⟩ := oB _ _ _ _ _ _ _ he a2 (a3.mono (by omega)) er3
      have lm2 : (m0 ++ m ++ m3).length = (m0 ++ m).length + m3.length := List.length_append
      refine ⟨fun z => absurd z (by decide), fun _ => ?_⟩
      refine M_emitsA (a := 16) (b := 0) (by omega) h5 (by omega) fun I6 h6' f6 => ?_
      have eL : m0 ++ m ++ m3 ++ [(16, 0)] = m0 ++ (m ++ m3 ++ [(16, 0)]) := by rw [List.append_assoc, List.append_assoc, List.append_assoc]
      have lm3 : (m0 ++ m ++ m3 ++ [(16, 0)]).length = (m0 ++ m ++ m3).length + 1 := by rw [List.length_append]; rfl
      rw [eL] at h6' lm3
      exact iC d e _ (cc ++ c3 ++ [-6]) q3 I6 m0 K hd he b2 (by omega) h6' (by omega) (mr.g (f1.trans (f4.trans (f5.trans f6))))
/-- a whole condition -/
theorem M_cond {d Ln c s : Nat} {I : Nat → Nat → Int32} {L : Nat → Nat → Int64} {K : Int32 → (Nat → Nat → Int32) → (Nat → Nat → Int64) → Prop} {tp : Nat → Nat} {tl p : Nat} {m0 : List (Nat × Nat)} (hd : 80 ≤ d) (hl : tl ≤ 400) (h6 : ∀ j, tp j < 256) (hp : p ≤ tl) (h : MX tp tl I p 0 m0) (hm : m0.length + 1 ≤ p) (mr : MR tp tl 0 m0 (pC tp tl 401 0 p) I L K) : dd_Ev d m_X11_readCond [.ref 148] (sM Ln I L c s) (dd_RI Ln c s K) := by
  obtain ⟨iA, iB, iC⟩ := M_prs (Ln := Ln) (c := c) (s := s) (L := L) (tp := tp) hl h6 401
  obtain ⟨oA, oB, oC⟩ := prs_ok (tp := tp) hl 401
  unfold pC at mr
  refine w_X11_readCond_0 (by omega) ?_
  refine w_X11_readAllOf_0 (by omega) ?_
  refine iA (d - 1 - 1) 0 p I m0 _ (by omega) (by omega) hp (by omega) h hm ⟨fun f ef I4 b12 f4 => ?_, fun m cc q er I4 h4 f4 => ?_⟩
  · exact ⟨fun _ => dd_qi ⟨fun _ => dd_qi (mr.1 f (bnd_l ef) I4 b12 f4), fun z => absurd rfl z⟩, fun z => absurd rfl z⟩
  rw [bnd_r er] at mr
  obtain ⟨a1, a2, a3, a4, a5⟩ := oA _ _ _ _ _ (by omega) hp er
  have lm : (m0 ++ m).length = m0.length + m.length := List.length_append
  refine ⟨fun z => absurd z (by decide), fun _ => ?_⟩
  refine iB (d - 1) 0 m cc q _ m0 _ (by omega) (by omega) a2 (by omega) h4 (by omega) ⟨fun f ef I5 b12 f5 => ?_, fun m2 c2 q2 er2 I5 h5 f5 => ?_⟩
  · exact ⟨fun _ => dd_qi (mr.1 f (bnd_l ef) I5 b12 (f4.trans f5)), fun z => absurd rfl z⟩
  rw [bnd_r er2] at mr
  obtain ⟨b1, b2, b3, b4, b5⟩ := oB _ _ _ _ _ _ _ (by omega) a2 (a3.mono (by omega)) er2
  have lm2 : (m0 ++ m2).length = m0.length + m2.length := List.length_append
  refine ⟨fun z => absurd z (by decide), fun _ => ?_⟩
  exact iC d 0 m2 c2 q2 _ m0 _ (by omega) (by omega) b2 (by omega) h5 (by omega) (mr.g (f4.trans f5))
