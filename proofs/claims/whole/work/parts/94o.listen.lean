/-! listen -/
def gm (f : Nat → Nat) : Nat → Nat := lpf (fun v m => if m < f v then f v else m) 0
theorem gm_spec {f : Nat → Nat} : ∀ N, (∀ v, v < N → f v ≤ gm f N) ∧ (gm f N = 0 ∨ ∃ v, v < N ∧ f v = gm f N) := by
  intro N
  induction N with
  | zero => exact ⟨fun v hv => absurd hv (Nat.not_lt_zero v), Or.inl rfl⟩
  | succ N ih =>
    obtain ⟨h1, h2⟩ := ih
    have e : gm f (N + 1) = if gm f N < f N then f N else gm f N := rfl
    rw [e]
    by_cases q : gm f N < f N
    · rw [if_pos q]
      refine ⟨fun v hv => ?_, Or.inr ⟨N, by omega, rfl⟩⟩
      by_cases z : v = N
      · subst z; exact Nat.le_refl _
      · have := h1 v (by omega); omega
    · rw [if_neg q]
      refine ⟨fun v hv => ?_, ?_⟩
      · by_cases z : v = N
        · subst z; omega
        · exact h1 v (by omega)
      · rcases h2 with z | ⟨v, v1, v2⟩
        · exact Or.inl z
        · exact Or.inr ⟨v, by omega, v2⟩
theorem gm_un {f : Nat → Nat} {N g : Nat} (h1 : ∀ v, v < N → f v ≤ g) (h2 : g = 0 ∨ ∃ v, v < N ∧ f v = g) : gm f N = g := by
  obtain ⟨a1, a2⟩ := gm_spec (f := f) N
  rcases a2 with z | ⟨v, v1, v2⟩
  · rcases h2 with y | ⟨u, u1, u2⟩
    · omega
    · have := a1 u u1; omega
  · have := h1 v v1
    rcases h2 with y | ⟨u, u1, u2⟩
    · omega
    · have := a1 u u1; omega
theorem gm_cong {f g : Nat → Nat} {N : Nat} (h : ∀ v, v < N → f v = g v) : gm f N = gm g N := by
  obtain ⟨a1, a2⟩ := gm_spec (f := g) N
  refine gm_un (fun v hv => by rw [h v hv]; exact a1 v hv) ?_
  rcases a2 with z | ⟨v, v1, v2⟩
  · exact Or.inl z
  · exact Or.inr ⟨v, v1, by rw [h v v1]; exact v2⟩
/-- of the first i cells those that fit and sound so near at a beat -/
def szA (w tp : Nat → Nat) (tl n v : Nat) : Nat → Nat := cntB (fun x => ftB w tp tl x && decide (nuN w x n = v))
theorem szA_s {w tp : Nat → Nat} {tl n v i : Nat} : szA w tp tl n v (i + 1) = if ftB w tp tl i = true ∧ nuN w i n = v then szA w tp tl n v i + 1 else szA w tp tl n v i := by
  have e : szA w tp tl n v (i + 1) = if (ftB w tp tl i && decide (nuN w i n = v)) = true then szA w tp tl n v i + 1 else szA w tp tl n v i := rfl
  rw [e]
  by_cases q : ftB w tp tl i = true ∧ nuN w i n = v
  · rw [if_pos q, if_pos (by rw [q.1, decide_eq_true q.2]; rfl)]
  · rw [if_neg q, if_neg (fun z => q (by rw [Bool.and_eq_true, decide_eq_true_eq] at z; exact z))]
theorem szA_le {w tp : Nat → Nat} {tl n v : Nat} (i : Nat) : szA w tp tl n v i ≤ i := cntB_le i
def grN (w tp : Nat → Nat) (tl n i : Nat) : Nat := gm (fun v => szA w tp tl n v i) 15
theorem grN_le {w tp : Nat → Nat} {tl n i : Nat} : grN w tp tl n i ≤ i := by
  unfold grN
  rcases (gm_spec (f := fun v => szA w tp tl n v i) 15).2 with z | ⟨v, _, z⟩
  · omega
  · rw [← z]; exact szA_le i
theorem grN_s {w tp : Nat → Nat} (h4 : w 4 < 64) {tl n i : Nat} (hi : i < 64) (hf : ftB w tp tl i = true) : grN w tp tl n (i + 1) = if grN w tp tl n i < szA w tp tl n (nuN w i n) i + 1 then szA w tp tl n (nuN w i n) i + 1 else grN w tp tl n i := by
  have v14 := nu14 (w := w) h4 (x := i) (n := n) hi
  obtain ⟨a1, a2⟩ := gm_spec (f := fun v => szA w tp tl n v i) 15
  have es : ∀ v, szA w tp tl n v (i + 1) = if nuN w i n = v then szA w tp tl n v i + 1 else szA w tp tl n v i := fun v => by
    rw [szA_s]
    by_cases q : nuN w i n = v
    · rw [if_pos ⟨hf, q⟩, if_pos q]
    · rw [if_neg (fun z => q z.2), if_neg q]
  refine gm_un (fun v hv => ?_) ?_
  · show szA w tp tl n v (i + 1) ≤ _
    rw [es]
    have := a1 v hv
    have : szA w tp tl n v i ≤ grN w tp tl n i := this
    by_cases q : nuN w i n = v
    · rw [if_pos q, q]
      split <;> omega
    · rw [if_neg q]
      split <;> omega
  · by_cases q : grN w tp tl n i < szA w tp tl n (nuN w i n) i + 1
    · rw [if_pos q]
      exact Or.inr ⟨nuN w i n, by omega, by show szA w tp tl n (nuN w i n) (i + 1) = _; rw [es, if_pos rfl]⟩
    · rw [if_neg q]
      rcases a2 with z | ⟨v, v1, v2⟩
      · exact Or.inl z
      · refine Or.inr ⟨v, v1, ?_⟩
        show szA w tp tl n v (i + 1) = grN w tp tl n i
        have v2 : szA w tp tl n v i = grN w tp tl n i := v2
        rw [es]
        by_cases y : nuN w i n = v
        · rw [y] at q; omega
        · rw [if_neg y]; exact v2
theorem grN_n {w tp : Nat → Nat} {tl n i : Nat} (hf : ftB w tp tl i = false) : grN w tp tl n (i + 1) = grN w tp tl n i := by
  refine gm_cong (fun v _ => ?_)
  show szA w tp tl n v (i + 1) = szA w tp tl n v i
  rw [szA_s, if_neg (fun z => by rw [hf] at z; cases z.1)]
/-- the first beat with the least -/
def lbA (g : Nat → Nat) : Nat → Option Nat := mnO (fun _ => true) g
theorem C_fill147 {d Ln c s : Nat} {I : Nat → Nat → Int32} {L : Nat → Nat → Int64} {K : (Nat → Nat → Int32) → (Nat → Nat → Int64) → Prop} (hd : 28 ≤ d) (kk : ∀ f, (∀ y, y < 465 → f y = nI 0) → K (dd_u I 147 f) L) : dd_Ev d m_J7_fill_53178 [.ref 147, .int 0] (sM Ln I L c s) (dd_RV Ln c s K) := by
  refine w_J7_fill_53178_147_0 hd ?_
  have key : ∀ f, (∀ y, y < 0 → f y = nI 0) → dd_Rn d m_J7_fill_53178 (5, [.ref 147, .int 0, .int (nI 0), .int 465], [], sM Ln (dd_u I 147 f) L c s) (dd_RV Ln c s K) := by
    refine dd_lp (fun i => ∀ f, (∀ y, y < i → f y = nI 0) → dd_Rn d m_J7_fill_53178 (5, [.ref 147, .int 0, .int (nI i), .int 465], [], sM Ln (dd_u I 147 f) L c s) (dd_RV Ln c s K)) 465 ?_ ?_
    · intro f hf
      refine w_J7_fill_53178_147_5 hd ?_
      rw [show (465 : Int32) = nI 465 from rfl, nI_leI (by omega) (by omega)]
      exact ⟨fun _ => dd_qV (kk f hf), fun z => absurd (Nat.le_refl _) z⟩
    · intro i hi ih f hf
      have ti : tn (nI i) = i := nI_clamp (by omega)
      refine w_J7_fill_53178_147_5 hd ?_
      rw [show (465 : Int32) = nI 465 from rfl] at ih ⊢
      rw [nI_leI (by omega) (by omega), ti, dd_us, dd_u_u, nI_1]
      refine ⟨fun z => absurd z (by omega), fun _ => ⟨⟨nI_pos' (by omega), by omega⟩, ih _ (fun y hy => ?_)⟩⟩
      by_cases q : y = i
      · subst q; rw [pk_us]; rfl
      · rw [pk_un q]; exact hf y (by omega)
  have := key (I 147) (fun y hy => absurd hy (Nat.not_lt_zero y))
  rw [dd_u_id] at this
  exact this
theorem C_leastG {d Ln c s : Nat} {I : Nat → Nat → Int32} {L : Nat → Nat → Int64} {K : Int32 → (Nat → Nat → Int32) → (Nat → Nat → Int64) → Prop} {w tp : Nat → Nat} {tl : Nat} (hd : 28 ≤ d) (hs : ∀ n v, n < 31 → v < 15 → I 147 (15 * n + v) = nI (szA w tp tl n v 64)) (kk : K (oI (lbA (fun n => grN w tp tl n 64) 31)) I L) : dd_Ev d m_X5_leastGreatest [.ref 144] (sM Ln I L c s) (dd_RI Ln c s K) := by
  have gl : ∀ n, grN w tp tl n 64 ≤ 64 := fun n => grN_le
  let lv : Option Nat → Nat := fun o => match o with | none => 65 | some m => grN w tp tl m 64
  have lvb : ∀ o, lv o ≤ 65 := by
    intro o
    cases o with
    | none => exact Nat.le_refl _
    | some m => have := gl m; show grN w tp tl m 64 ≤ 65; omega
  refine w_X5_leastGreatest_0 hd ?_
  have key : ∀ a4 a5, dd_Rn d m_X5_leastGreatest (7, [.ref 144, .int (oI (lbA (fun n => grN w tp tl n 64) 0)), .int (nI (lv (lbA (fun n => grN w tp tl n 64) 0))), .int (nI 0), a4, a5], [], sM Ln I L c s) (dd_RI Ln c s K) := by
    refine dd_lp (fun i => ∀ a4 a5, dd_Rn d m_X5_leastGreatest (7, [.ref 144, .int (oI (lbA (fun n => grN w tp tl n 64) i)), .int (nI (lv (lbA (fun n => grN w tp tl n 64) i))), .int (nI i), a4, a5], [], sM Ln I L c s) (dd_RI Ln c s K)) 31 ?_ ?_
    · intro a4 a5
      refine w_X5_leastGreatest_7 hd ?_
      rw [li_31, nI_leI (by omega) (by omega)]
      exact ⟨fun _ => dd_qi kk, fun z => absurd (Nat.le_refl _) z⟩
    · intro i hi ih a4 a5
      refine w_X5_leastGreatest_7 hd ?_
      rw [li_31, nI_leI (by omega) (by omega)]
      refine ⟨fun z => absurd z (by omega), fun _ => ?_⟩
      have inner : dd_Rn d m_X5_leastGreatest (19, [.ref 144, .int (oI (lbA (fun n => grN w tp tl n 64) i)), .int (nI (lv (lbA (fun n => grN w tp tl n 64) i))), .int (nI i), .int (nI (gm (fun v => szA w tp tl i v 64) 0)), .int (nI 0)], [], sM Ln I L c s) (dd_RI Ln c s K) := by
        refine dd_lp (fun v => dd_Rn d m_X5_leastGreatest (19, [.ref 144, .int (oI (lbA (fun n => grN w tp tl n 64) i)), .int (nI (lv (lbA (fun n => grN w tp tl n 64) i))), .int (nI i), .int (nI (gm (fun v => szA w tp tl i v 64) v)), .int (nI v)], [], sM Ln I L c s) (dd_RI Ln c s K)) 15 ?_ ?_
        · refine w_X5_leastGreatest_19 hd ?_
          have g1 := gl i
          have g2 := lvb (lbA (fun n => grN w tp tl n 64) i)
          have eg : gm (fun v => szA w tp tl i v 64) 15 = grN w tp tl i 64 := rfl
          rw [li_15, nI_leI (by omega) (by omega), eg, nI_leI (by omega) (by omega)]
          simp only [nI_1]
          refine ⟨fun _ => ?_, fun z => absurd (Nat.le_refl _) z⟩
          cases hm : lbA (fun n => grN w tp tl n 64) i with
          | none =>
            have e1 : lbA (fun n => grN w tp tl n 64) (i + 1) = some i := mnO_0 rfl hm
            rw [e1] at ih
            refine ⟨fun z => ?_, fun _ => ih _ _⟩
            have z : 65 ≤ grN w tp tl i 64 := z
            omega
          | some m =>
            have e1 : lbA (fun n => grN w tp tl n 64) (i + 1) = if grN w tp tl i 64 < grN w tp tl m 64 then some i else some m := mnO_m rfl hm
            rw [e1] at ih
            show (grN w tp tl m 64 ≤ grN w tp tl i 64 → _) ∧ (¬ grN w tp tl m 64 ≤ grN w tp tl i 64 → _)
            refine ⟨fun z => ?_, fun z => ?_⟩
            · rw [if_neg (by omega)] at ih
              exact ih _ _
            · rw [if_pos (by omega)] at ih
              exact ih _ _
        · intro v hv ihv
          have es : gm (fun v => szA w tp tl i v 64) (v + 1) = if gm (fun v => szA w tp tl i v 64) v < szA w tp tl i v 64 then szA w tp tl i v 64 else gm (fun v => szA w tp tl i v 64) v := rfl
          have ei : nI i * nI 15 + nI v = nI (15 * i + v) := by rw [pk_mul, nI_add, Nat.mul_comm]
          have et : tn (nI (15 * i + v)) = 15 * i + v := nI_clamp (by omega)
          have s1 := szA_le (w := w) (tp := tp) (tl := tl) (n := i) (v := v) 64
          have s2 : gm (fun v => szA w tp tl i v 64) v ≤ 64 := by
            rcases (gm_spec (f := fun v => szA w tp tl i v 64) v).2 with z | ⟨u, _, z⟩
            · omega
            · rw [← z]; exact szA_le 64
          refine w_X5_leastGreatest_19 hd ?_
          rw [li_15, nI_leI (by omega) (by omega), ei, et, hs i v hi hv]
          simp only [nI_1]
          refine ⟨fun z => absurd z (by omega), fun _ => ⟨⟨nI_pos' (by omega), by omega⟩, ?_⟩⟩
          have em : (if nI (gm (fun v => szA w tp tl i v 64) v) < nI (szA w tp tl i v 64) then nI (szA w tp tl i v 64) else nI (gm (fun v => szA w tp tl i v 64) v)) = nI (gm (fun v => szA w tp tl i v 64) (v + 1)) := by
            rw [es]
            by_cases q : gm (fun v => szA w tp tl i v 64) v < szA w tp tl i v 64
            · rw [if_pos q, if_pos (nI_lt q (by omega))]
            · rw [if_neg q, if_neg (fun z => q (by rw [nI_ltI (by omega) (by omega)] at z; exact z))]
          rw [em]
          exact ihv
      exact inner
  exact key _ _
def lsV (w tp : Nat → Nat) (tl : Nat) : Option Nat := if cntB (ftB w tp tl) 64 < 2 then none else lbA (fun n => grN w tp tl n 64) 31
theorem C_bestBeat {d Ln c s : Nat} {I : Nat → Nat → Int32} {L : Nat → Nat → Int64} {K : Int32 → (Nat → Nat → Int32) → (Nat → Nat → Int64) → Prop} {w tp : Nat → Nat} {tl : Nat} {I1 : Nat → Nat → Int32} (hd : 34 ≤ d) (hO : OKW w) (ha : allN (sdP tp) (tl / 2) = true) (hS : FitS w tp tl I I1 L) (kk : ∀ I', FitS w tp tl I I' L → K (oI (lsV w tp tl)) I' L) : dd_Ev d m_X5_bestBeat [.ref 144] (sM Ln I1 L c s) (dd_RI Ln c s K) := by
  have w4 := hO.1.2.2.2.1
  refine w_X5_bestBeat_0 (by omega) ?_
  refine C_fill147 (by omega) fun f0 hf0 => ?_
  have up : ∀ I' f, FitS w tp tl I I' L → FitS w tp tl I (dd_u I' 147 f) L := fun I' f S => ⟨S.1.of (fun j _ _ => dd_un (by omega)) rfl, S.2.1.of (by rw [dd_un (by decide)]) (by rw [dd_un (by decide)]) (dd_un (by decide)), fun n hn => by rw [dd_un (by decide)]; exact S.2.2.1 n hn, S.2.2.2.u (by decide) (by decide)⟩
  have key : ∀ I' a3, FitS w tp tl I I' L → (∀ n v, n < 31 → v < 15 → I' 147 (15 * n + v) = nI (szA w tp tl n v 0)) → dd_Rn d m_X5_bestBeat (12, [.ref 144, .int (nI (cntB (ftB w tp tl) 0)), .int (nI 0), a3], [], sM Ln I' L c s) (dd_RI Ln c s K) := by
    refine dd_lp (fun i => ∀ I' a3, FitS w tp tl I I' L → (∀ n v, n < 31 → v < 15 → I' 147 (15 * n + v) = nI (szA w tp tl n v i)) → dd_Rn d m_X5_bestBeat (12, [.ref 144, .int (nI (cntB (ftB w tp tl) i)), .int (nI i), a3], [], sM Ln I' L c s) (dd_RI Ln c s K)) 64 ?_ ?_
    · intro I' a3 S m
      have cl := cntB_le (p := ftB w tp tl) 64
      refine w_X5_bestBeat_12 (by omega) ?_
      rw [li_64, nI_leI (by omega) (by omega), li_2, nI_leI (by omega) (by omega)]
      have kx := kk I' S
      unfold lsV at kx
      refine ⟨fun _ => ⟨fun z => ?_, fun z => ?_⟩, fun z => absurd (Nat.le_refl _) z⟩
      · rw [if_neg (by omega)] at kx
        exact C_leastG (w := w) (tp := tp) (tl := tl) (by omega) m (dd_qi kx)
      · rw [if_pos (by omega)] at kx
        exact dd_qi kx
    · intro i hi ih I' a3 S m
      have es : cntB (ftB w tp tl) (i + 1) = if ftB w tp tl i = true then cntB (ftB w tp tl) i + 1 else cntB (ftB w tp tl) i := rfl
      rw [es] at ih
      refine w_X5_bestBeat_12 (by omega) ?_
      rw [li_64, nI_leI (by omega) (by omega)]
      simp only [nI_1]
      refine ⟨fun z => absurd z (by omega), fun _ => ?_⟩
      refine C_fits (w := w) (tp := tp) (tl := tl) (by omega) S.1 hO S.2.1 hi ha S.2.2.1 fun I2 f2 t2 => ?_
      have S2 := S.next f2
      have m2 : ∀ n v, n < 31 → v < 15 → I2 147 (15 * n + v) = nI (szA w tp tl n v i) := fun n v h1 h2 => by rw [f2.1 147 (by decide) (by decide)]; exact m n v h1 h2
      rw [bI_z]
      refine ⟨fun z => ?_, fun z => ?_⟩
      · rw [if_neg (by rw [z]; decide)] at ih
        refine ih I2 _ S2 (fun n v h1 h2 => ?_)
        rw [m2 n v h1 h2, szA_s, if_neg (fun q => by rw [z] at q; cases q.1)]
      · have zt : ftB w tp tl i = true := by
          cases hz : ftB w tp tl i with
          | true => rfl
          | false => exact absurd hz z
        rw [if_pos zt] at ih
        have tr := t2 zt
        have inner : ∀ f, (∀ n v, n < 31 → v < 15 → f (15 * n + v) = nI (if n < 0 then szA w tp tl n v (i + 1) else szA w tp tl n v i)) → dd_Rn d m_X5_bestBeat (31, [.ref 144, .int (nI (cntB (ftB w tp tl) i + 1)), .int (nI i), .int (nI 0)], [], sM Ln (dd_u I2 147 f) L c s) (dd_RI Ln c s K) := by
          refine dd_lp (fun t => ∀ f, (∀ n v, n < 31 → v < 15 → f (15 * n + v) = nI (if n < t then szA w tp tl n v (i + 1) else szA w tp tl n v i)) → dd_Rn d m_X5_bestBeat (31, [.ref 144, .int (nI (cntB (ftB w tp tl) i + 1)), .int (nI i), .int (nI t)], [], sM Ln (dd_u I2 147 f) L c s) (dd_RI Ln c s K)) 31 ?_ ?_
          · intro f hf
            refine w_X5_bestBeat_31 (by omega) ?_
            rw [li_31, nI_leI (by omega) (by omega)]
            simp only [nI_1]
            refine ⟨fun _ => ih _ _ (up I2 f S2) (fun n v h1 h2 => ?_), fun z => absurd (Nat.le_refl _) z⟩
            rw [dd_us, hf n v h1 h2, if_pos h1]
          · intro t ht iht f hf
            have tt : tn (nI t) = t := nI_clamp (by omega)
            have v14 := nu14 (w := w) w4 (x := i) (n := t) hi
            have ei : nI t * 15 + nI (nuN w i t) = nI (15 * t + nuN w i t) := by rw [li_15, pk_mul, nI_add, Nat.mul_comm]
            have et : tn (nI (15 * t + nuN w i t)) = 15 * t + nuN w i t := nI_clamp (by omega)
            have e46 : dd_u I2 147 f 146 t = nI (nuN w i t) := by rw [dd_un (by decide)]; exact tr t ht
            refine w_X5_bestBeat_31 (by omega) ?_
            rw [li_31, nI_leI (by omega) (by omega), tt, e46, ei, et, dd_us, dd_u_u, hf t _ ht (by omega), if_neg (Nat.lt_irrefl t)]
            simp only [nI_1]
            refine ⟨fun z => absurd z (by omega), fun _ => ⟨⟨nI_pos' (by omega), by omega⟩, ⟨nI_pos' (by omega), by omega⟩, ⟨nI_pos' (by omega), by omega⟩, iht _ (fun n v h1 h2 => ?_)⟩⟩
            by_cases e : n = t
            · subst e
              rw [if_pos (Nat.lt_succ_self n), szA_s]
              by_cases ev : nuN w i n = v
              · rw [if_pos ⟨zt, ev⟩, ← ev, pk_us]
              · rw [if_neg (fun q => ev q.2), pk_un (by omega), hf n v h1 h2, if_neg (Nat.lt_irrefl n)]
            · rw [pk_un (by omega), hf n v h1 h2]
              by_cases e2 : n < t
              · rw [if_pos e2, if_pos (by omega)]
              · rw [if_neg e2, if_neg (by omega)]
        have := inner (I2 147) (fun n v h1 h2 => by rw [if_neg (Nat.not_lt_zero n)]; exact m2 n v h1 h2)
        rw [dd_u_id] at this
        exact this
  exact key _ _ (up I1 f0 hS) (fun n v h1 h2 => by rw [dd_us, hf0 _ (by omega)]; rfl)
theorem M_partBy {d Ln c s : Nat} {I : Nat → Nat → Int32} {L : Nat → Nat → Int64} {K : Int32 → (Nat → Nat → Int32) → (Nat → Nat → Int64) → Prop} {w tp : Nat → Nat} {tl n : Nat} (hd : 30 ≤ d) (hR : RM w I) (hO : OKW w) (hs : sdB w tp tl = true) (h256 : ∀ j, tp j < 256) (hn : n < 31) (h11 : I 148 11 = nI tl) (ht : ∀ j, j < 400 → I 154 j = byt (tp j)) (h61 : ∀ x n, x < 64 → n < 31 → I 161 (31 * x + n) = nI (nuN w x n)) (k : ∀ f, K (nI (grN w tp tl n 64)) (dd_u I 162 f) L) : dd_Ev d m_X11_partBy [.ref 148, .int (nI n)] (sM Ln I L c s) (dd_RI Ln c s K) := by
  have w4 := hO.1.2.2.2.1
  refine w_X11_partBy_0 (by omega) ?_
  have main : ∀ f a4, (∀ v, v < 15 → f v = nI (szA w tp tl n v 0)) → dd_Rn d m_X11_partBy (25, [.ref 148, .int (nI n), .int (nI (grN w tp tl n 0)), .int (nI 0), a4], [], sM Ln (dd_u I 162 f) L c s) (dd_RI Ln c s K) := by
    refine dd_lp (fun i => ∀ f a4, (∀ v, v < 15 → f v = nI (szA w tp tl n v i)) → dd_Rn d m_X11_partBy (25, [.ref 148, .int (nI n), .int (nI (grN w tp tl n i)), .int (nI i), a4], [], sM Ln (dd_u I 162 f) L c s) (dd_RI Ln c s K)) 64 ?_ ?_
    · intro f a4 hf
      refine w_X11_partBy_25 (by omega) ?_
      rw [li_64, nI_leI (by omega) (by omega)]
      exact ⟨fun _ => dd_qi (k f), fun z => absurd (Nat.le_refl _) z⟩
    · intro i hi ih f a4 hf
      have v14 := nu14 (w := w) w4 (x := i) (n := n) hi
      have tv : tn (nI (nuN w i n)) = nuN w i n := nI_clamp (by omega)
      have ei : (31 : Int32) * nI i + nI n = nI (31 * i + n) := by rw [li_31, pk_mul, nI_add]
      have et : tn (nI (31 * i + n)) = 31 * i + n := nI_clamp (by omega)
      have e61 : dd_u I 162 f 161 (31 * i + n) = nI (nuN w i n) := by rw [dd_un (by decide)]; exact h61 i n hi hn
      have g1 := grN_le (w := w) (tp := tp) (tl := tl) (n := n) (i := i)
      have s1 := szA_le (w := w) (tp := tp) (tl := tl) (n := n) (v := nuN w i n) i
      refine w_X11_partBy_25 (by omega) ?_
      rw [li_64, nI_leI (by omega) (by omega)]
      simp only [nI_1]
      refine ⟨fun z => absurd z (by omega), fun _ => ?_⟩
      refine M_fits (w := w) (tp := tp) (tl := tl) (by omega) (hR.of (dd_un (by decide))) hO hs h256 hi (by rw [dd_un (by decide)]; exact h11) (fun j hj => by rw [dd_un (by decide)]; exact ht j hj) (fun x n h1 h2 => by rw [dd_un (by decide)]; exact h61 x n h1 h2) ?_
      rw [bI_z, ei, et, e61, tv, dd_us, dd_u_u, pk_us, hf _ (by omega), nI_1]
      refine ⟨fun z => ?_, fun z => ?_⟩
      · rw [grN_n z] at ih
        refine ih f _ (fun v hv => ?_)
        rw [hf v hv, szA_s, if_neg (fun q => by rw [z] at q; cases q.1)]
      · have zt : ftB w tp tl i = true := by
          cases hz : ftB w tp tl i with
          | true => rfl
          | false => exact absurd hz z
        refine ⟨⟨nI_pos' (by omega), by omega⟩, ⟨nI_pos' (by omega), by omega⟩, ⟨nI_pos' (by omega), by omega⟩, ⟨nI_pos' (by omega), by omega⟩, ?_⟩
        rw [grN_s w4 hi zt] at ih
        have em : (if nI (grN w tp tl n i) < nI (szA w tp tl n (nuN w i n) i + 1) then nI (szA w tp tl n (nuN w i n) i + 1) else nI (grN w tp tl n i)) = nI (if grN w tp tl n i < szA w tp tl n (nuN w i n) i + 1 then szA w tp tl n (nuN w i n) i + 1 else grN w tp tl n i) := by
          by_cases q : grN w tp tl n i < szA w tp tl n (nuN w i n) i + 1
          · rw [if_pos q, if_pos (nI_lt q (by omega))]
          · rw [if_neg q, if_neg (fun z => q (by rw [nI_ltI (by omega) (by omega)] at z; exact z))]
        rw [em]
        refine ih _ _ (fun v hv => ?_)
        rw [szA_s]
        by_cases ev : nuN w i n = v
        · rw [if_pos ⟨zt, ev⟩, ← ev, pk_us]
        · rw [if_neg (fun q => ev q.2), pk_un (fun q => ev q.symm)]; exact hf v hv
  have g0 : grN w tp tl n 0 = 0 := by have := grN_le (w := w) (tp := tp) (tl := tl) (n := n) (i := 0); omega
  have zero : ∀ f, (∀ v, v < 0 → f v = nI 0) → dd_Rn d m_X11_partBy (4, [.ref 148, .int (nI n), .int 0, .int (nI 0), .null], [], sM Ln (dd_u I 162 f) L c s) (dd_RI Ln c s K) := by
    refine dd_lp (fun i => ∀ f, (∀ v, v < i → f v = nI 0) → dd_Rn d m_X11_partBy (4, [.ref 148, .int (nI n), .int 0, .int (nI i), .null], [], sM Ln (dd_u I 162 f) L c s) (dd_RI Ln c s K)) 15 ?_ ?_
    · intro f hf
      refine w_X11_partBy_4 (by omega) ?_
      rw [li_14, nI_ltI (by omega) (by omega)]
      refine ⟨fun _ => ?_, fun z => absurd (by omega) z⟩
      have := main f .null (fun v hv => by rw [hf v hv]; rfl)
      rw [g0] at this
      exact this
    · intro i hi ih f hf
      have ti : tn (nI i) = i := nI_clamp (by omega)
      refine w_X11_partBy_4 (by omega) ?_
      rw [li_14, nI_ltI (by omega) (by omega), ti, dd_us, dd_u_u, nI_1]
      refine ⟨fun z => absurd z (by omega), fun _ => ⟨⟨nI_pos' (by omega), by omega⟩, ih _ (fun v hv => ?_)⟩⟩
      by_cases q : v = i
      · subst q; rw [pk_us]; rfl
      · rw [pk_un q]; exact hf v (by omega)
  have := zero (I 162) (fun y hy => absurd hy (Nat.not_lt_zero y))
  rw [dd_u_id] at this
  exact this
theorem A_listen {d Ln c s : Nat} {I0 I : Nat → Nat → Int32} {L : Nat → Nat → Int64} {w : Nat → Nat} {im : Option (Nat → Nat)} {na od : Nat} {A : Nat → Nat → Nat} {tp : Nat → Nat} {tl : Nat} {fa : Option Nat} (hd : 60 ≤ d) (h : INV I0 w im na od A tp tl fa I L) : PW d m_L_listen [.ref 0, .ref 163] m_X11_listen [.ref 148] I0 Ln c s I L := by
  have hO := h.1.1
  obtain ⟨t1, t2, t3, t4, t5⟩ := h.2.2.2.2.2.2.1
  cases hs : sdB w tp tl with
  | true =>
    have ha := sdB_a hs
    refine PW.tp h 0 (oI (lsV w tp tl)) ?_ ?_
    · intro K g
      refine w_L_listen_0 (by omega) ?_
      refine w_X10_listen_0 (by omega) ?_
      refine C_hearTold (by omega) h (fun _ I1 S1 => ?_) (fun q => by rw [hs] at q; cases q)
      refine C_bestBeat (w := w) (tp := tp) (tl := tl) (by omega) hO ha S1 fun I2 S2 => ?_
      exact dd_qT (dd_qJ (g _ _ c s (cs1r c s) (FC.trans (FC.fr S2.2.2.2 (by decide)) FC.out) (fun _ => outL)))
    · intro I1 L1 c1 s1 hR t9 t54 K g
      refine w_X11_listen_0 (by omega) ?_
      rw [TJ_e]
      have rJ : RM w (TJ I1) := hR.of (TJ_o (by decide))
      have k0 : TJ I1 148 0 = 0 := TJ_0
      have k11 : TJ I1 148 11 = nI tl := by rw [TJ_11]; exact t9
      have k54 : ∀ j, j < 400 → TJ I1 154 j = byt (tp j) := fun j hj => by rw [TJ_o (by decide)]; exact t54 j hj
      generalize TJ I1 = J at *
      refine M_isSounding (w := w) (tp := tp) (tl := tl) (by omega) rJ hO t1 t2 k11 k54 ?_
      rw [hs]
      refine ⟨fun z => absurd z (by decide), fun _ => ?_⟩
      refine M_laysNears (w := w) (by omega) rJ hO fun I2 r2 f2 n2 => ?_
      have m11 : I2 148 11 = nI tl := by rw [f2.2 11 (by decide)]; exact k11
      have m54 : ∀ j, j < 400 → I2 154 j = byt (tp j) := fun j hj => by rw [f2.1 154 (by decide) (by decide)]; exact k54 j hj
      have cl := cntB_le (p := ftB w tp tl) 64
      have gl : ∀ n, grN w tp tl n 64 ≤ 64 := fun n => grN_le
      let lv : Option Nat → Nat := fun o => match o with | none => 1000000 | some m => grN w tp tl m 64
      have lvb : ∀ o, lv o ≤ 1000000 := by
        intro o
        cases o with
        | none => exact Nat.le_refl _
        | some m => have := gl m; show grN w tp tl m 64 ≤ 1000000; omega
      have FF : ∀ f, FS2 J (dd_u I2 162 f) := fun f => (f2.mono (by decide) (by decide)).u (by decide) (by decide)
      have fin : ∀ f v, v = oI (lsV w tp tl) → dd_RI Ln c1 s1 K (none, .int v, sM Ln (dd_u I2 162 f) L1 c1 s1) := fun f v ev => mqJ (r2.of (dd_un (by decide))) (FM.fr (FF f) (by decide) (by decide)) (by rw [(FF f).2 0 (by decide)]; exact k0) ev g
      have last : ∀ f a5, dd_Rn d m_X11_listen (71, [.ref 148, .int (nI (cntB (ftB w tp tl) 64)), .int (-1), .int 1000000, .int 0, a5], [], sM Ln (dd_u I2 162 f) L1 c1 s1) (dd_RI Ln c1 s1 K) := by
        by_cases few : cntB (ftB w tp tl) 64 < 2
        · intro f a5
          refine w_X11_listen_71 (by omega) ?_
          rw [li_1, nI_leI (by omega) (by omega)]
          refine ⟨fun z => absurd z (by decide), fun _ => ⟨fun _ => fin f _ ?_, fun z => absurd (by omega) z⟩⟩
          unfold lsV
          rw [if_pos few]; rfl
        · have key : ∀ f a5, dd_Rn d m_X11_listen (71, [.ref 148, .int (nI (cntB (ftB w tp tl) 64)), .int (oI (lbA (fun n => grN w tp tl n 64) 0)), .int (nI (lv (lbA (fun n => grN w tp tl n 64) 0))), .int (nI 0), a5], [], sM Ln (dd_u I2 162 f) L1 c1 s1) (dd_RI Ln c1 s1 K) := by
            refine dd_lp (fun i => ∀ f a5, dd_Rn d m_X11_listen (71, [.ref 148, .int (nI (cntB (ftB w tp tl) 64)), .int (oI (lbA (fun n => grN w tp tl n 64) i)), .int (nI (lv (lbA (fun n => grN w tp tl n 64) i))), .int (nI i), a5], [], sM Ln (dd_u I2 162 f) L1 c1 s1) (dd_RI Ln c1 s1 K)) 31 ?_ ?_
            · intro f a5
              refine w_X11_listen_71 (by omega) ?_
              rw [li_30, nI_ltI (by omega) (by omega)]
              refine ⟨fun _ => fin f _ ?_, fun z => absurd (by omega) z⟩
              unfold lsV
              rw [if_neg few]
            · intro i hi ih f a5
              have gi := gl i
              have lo := lvb (lbA (fun n => grN w tp tl n 64) i)
              have nl : ∀ a b : Nat, a ≤ 1000000 → b ≤ 1000000 → ((if nI a < nI b then nI a else nI b) = if a < b then nI a else nI b) := by
                intro a b ha hb
                by_cases q : a < b
                · rw [if_pos q, if_pos (nI_lt q (by omega))]
                · rw [if_neg q, if_neg (fun z => q (by rw [nI_ltI (by omega) (by omega)] at z; exact z))]
              refine w_X11_listen_71 (by omega) ?_
              rw [li_30, nI_ltI (by omega) (by omega), li_1, nI_leI (by omega) (by omega)]
              refine ⟨fun z => absurd z (by omega), fun _ => ⟨fun z => absurd z (by omega), fun _ => ?_⟩⟩
              refine M_partBy (w := w) (tp := tp) (tl := tl) (by omega) (r2.of (dd_un (by decide))) hO hs t2 hi (by rw [dd_un (by decide)]; exact m11) (fun j hj => by rw [dd_un (by decide)]; exact m54 j hj) (fun x n h1 h2 => by rw [dd_un (by decide)]; exact n2 x n h1 h2) fun f' => ?_
              rw [dd_u_u, nI_leI (by omega) (by omega), nl _ _ (by omega) lo, ← li_1]
              simp only [nI_1]
              cases hm : lbA (fun n => grN w tp tl n 64) i with
              | none =>
                have e1 : lbA (fun n => grN w tp tl n 64) (i + 1) = some i := mnO_0 rfl hm
                rw [e1] at ih
                refine ⟨fun z => ?_, fun _ => ?_⟩
                · have z : 1000000 ≤ grN w tp tl i 64 := z
                  omega
                · show dd_Rn d m_X11_listen (71, [.ref 148, .int (nI (cntB (ftB w tp tl) 64)), .int (nI i), .int (if grN w tp tl i 64 < 1000000 then nI (grN w tp tl i 64) else nI 1000000), .int (nI (i + 1)), .int (nI (grN w tp tl i 64))], [], sM Ln (dd_u I2 162 f') L1 c1 s1) (dd_RI Ln c1 s1 K)
                  rw [if_pos (by omega)]
                  exact ih f' _
              | some m =>
                have gm' := gl m
                have e1 : lbA (fun n => grN w tp tl n 64) (i + 1) = if grN w tp tl i 64 < grN w tp tl m 64 then some i else some m := mnO_m rfl hm
                rw [e1] at ih
                show (grN w tp tl m 64 ≤ grN w tp tl i 64 → dd_Rn d m_X11_listen (71, [.ref 148, .int (nI (cntB (ftB w tp tl) 64)), .int (nI m), .int (if grN w tp tl i 64 < grN w tp tl m 64 then nI (grN w tp tl i 64) else nI (grN w tp tl m 64)), .int (nI (i + 1)), .int (nI (grN w tp tl i 64))], [], sM Ln (dd_u I2 162 f') L1 c1 s1) (dd_RI Ln c1 s1 K)) ∧ (¬ grN w tp tl m 64 ≤ grN w tp tl i 64 → dd_Rn d m_X11_listen (71, [.ref 148, .int (nI (cntB (ftB w tp tl) 64)), .int (nI i), .int (if grN w tp tl i 64 < grN w tp tl m 64 then nI (grN w tp tl i 64) else nI (grN w tp tl m 64)), .int (nI (i + 1)), .int (nI (grN w tp tl i 64))], [], sM Ln (dd_u I2 162 f') L1 c1 s1) (dd_RI Ln c1 s1 K))
                refine ⟨fun z => ?_, fun z => ?_⟩
                · rw [if_neg (by omega)] at ih ⊢
                  exact ih f' _
                · rw [if_pos (by omega)] at ih ⊢
                  exact ih f' _
          exact key
      have cnt : dd_Rn d m_X11_listen (34, [.ref 148, .int (nI (cntB (ftB w tp tl) 0)), .int (nI 0), .null, .null, .null], [], sM Ln I2 L1 c1 s1) (dd_RI Ln c1 s1 K) := by
        refine dd_lp (fun i => dd_Rn d m_X11_listen (34, [.ref 148, .int (nI (cntB (ftB w tp tl) i)), .int (nI i), .null, .null, .null], [], sM Ln I2 L1 c1 s1) (dd_RI Ln c1 s1 K)) 64 ?_ ?_
        · refine w_X11_listen_34 (by omega) ?_
          rw [li_64, nI_leI (by omega) (by omega)]
          refine ⟨fun _ => ?_, fun z => absurd (Nat.le_refl _) z⟩
          have := last (I2 162) .null
          rw [dd_u_id] at this
          exact this
        · intro i hi ih
          have es : cntB (ftB w tp tl) (i + 1) = if ftB w tp tl i = true then cntB (ftB w tp tl) i + 1 else cntB (ftB w tp tl) i := rfl
          rw [es] at ih
          refine w_X11_listen_34 (by omega) ?_
          rw [li_64, nI_leI (by omega) (by omega)]
          simp only [nI_1]
          have z0 : nI (cntB (ftB w tp tl) i) + 0 = nI (cntB (ftB w tp tl) i) := Int32.add_zero _
          rw [z0]
          refine ⟨fun z => absurd z (by omega), fun _ => ?_⟩
          refine M_fits (w := w) (tp := tp) (tl := tl) (by omega) r2 hO hs t2 hi m11 m54 n2 ?_
          rw [bI_z]
          refine ⟨fun z => ?_, fun z => ?_⟩
          · rw [if_neg (by rw [z]; decide)] at ih
            exact ih
          · rw [if_pos (by cases hz : ftB w tp tl i with
              | true => rfl
              | false => exact absurd hz z)] at ih
            exact ih
      exact cnt
  | false =>
    refine PW.tp h 1 0 ?_ ?_
    · intro K g
      refine w_L_listen_0 (by omega) ?_
      refine w_X10_listen_0 (by omega) ?_
      refine C_hearTold (by omega) h (fun q => by rw [hs] at q; cases q) (fun _ I1 f1 => ?_)
      exact dd_qX ⟨rfl, dd_qJt (g _ _ _ _ (cs1t c s) (FC.fr (FRm f1) (by decide)) (fun q => absurd q (by decide)))⟩
    · intro I1 L1 c1 s1 hR t9 t54 K g
      refine w_X11_listen_0 (by omega) ?_
      rw [TJ_e]
      have rJ : RM w (TJ I1) := hR.of (TJ_o (by decide))
      have k11 : TJ I1 148 11 = nI tl := by rw [TJ_11]; exact t9
      have k54 : ∀ j, j < 400 → TJ I1 154 j = byt (tp j) := fun j hj => by rw [TJ_o (by decide)]; exact t54 j hj
      generalize TJ I1 = J at *
      refine M_isSounding (w := w) (tp := tp) (tl := tl) (by omega) rJ hO t1 t2 k11 k54 ?_
      rw [hs]
      exact ⟨fun _ => mqT rJ (by decide) g, fun z => absurd rfl z⟩
