/-! The law's loop -/
def LQ (Ln cm sm : Nat) (o : dd_O) : Prop := ∃ I L c s, o = (none, .int 1, sM Ln I L c s) ∧ c ≤ cm ∧ s ≤ sm
theorem law_loop {d Ln c0 s0 : Nat} {I0 : Nat → Nat → Int32} (hd : 61 ≤ d) (hL : Ln ≤ 3072) (hw : ∀ {c s p : Nat} {I : Nat → Nat → Int32} {L : Nat → Nat → Int64} {a5 a6 : Value}, p + 6 ≤ Ln → INVx I0 I L → KL d Ln c s p I0 (LQ Ln (c0 + Ln / 6) (s0 + 6 * (Ln / 6))) → dd_Rn d m_L_law_ (LF 394 p a5 a6 (sM Ln I L c s)) (LQ Ln (c0 + Ln / 6) (s0 + 6 * (Ln / 6)))) (hl : ∀ {c s p : Nat} {I : Nat → Nat → Int32} {L : Nat → Nat → Int64} {a5 a6 : Value}, p + 6 ≤ Ln → INVx I0 I L → KL d Ln c s p I0 (LQ Ln (c0 + Ln / 6) (s0 + 6 * (Ln / 6))) → dd_Rn d m_L_law_ (LF 438 p a5 a6 (sM Ln I L c s)) (LQ Ln (c0 + Ln / 6) (s0 + 6 * (Ln / 6)))) : ∀ I L c s a5 a6, c ≤ c0 + 0 → s ≤ s0 + 6 * 0 → INVx I0 I L → dd_Rn d m_L_law_ (LF 23 (6 * 0) a5 a6 (sM Ln I L c s)) (LQ Ln (c0 + Ln / 6) (s0 + 6 * (Ln / 6))) := by
  refine dd_lp (fun i => ∀ I L c s a5 a6, c ≤ c0 + i → s ≤ s0 + 6 * i → INVx I0 I L → dd_Rn d m_L_law_ (LF 23 (6 * i) a5 a6 (sM Ln I L c s)) (LQ Ln (c0 + Ln / 6) (s0 + 6 * (Ln / 6)))) (Ln / 6) ?_ ?_
  · intro I L c s a5 a6 hc hs hi
    refine w_L_law__23 (by omega) ⟨fun _ => ⟨I, L, c, s, rfl, hc, hs⟩, fun z => absurd ?_ z⟩
    show nI Ln - 6 < nI (6 * (Ln / 6))
    rw [Int32.lt_iff_toInt_lt, li_6, pk_sub_toInt (by omega) (by omega), nI_toInt (by omega)]
    omega
  · intro i hi' ih I L c s a5 a6 hc hs hi
    have t6 : tn (nI (6 * i)) = 6 * i := nI_clamp (by omega)
    have nz : ¬ nI Ln - 6 < nI (6 * i) := by
      rw [Int32.lt_iff_toInt_lt, li_6, pk_sub_toInt (by omega) (by omega), nI_toInt (by omega)]
      omega
    have kk : KL d Ln c s (6 * i) I0 (LQ Ln (c0 + Ln / 6) (s0 + 6 * (Ln / 6))) := by
      intro I2 L2 c2 s2 a5 a6 e i2
      refine w_L_law__3009 (by omega) ?_
      have e6 : nI (6 * i) + 6 = nI (6 * (i + 1)) := by rw [li_6, nI_add]; congr 1
      rw [e6]
      have : c2 ≤ c0 + (i + 1) ∧ s2 ≤ s0 + 6 * (i + 1) := by
        rcases e with ⟨e1, e2⟩ | ⟨e1, e2⟩ <;> omega
      exact ih I2 L2 c2 s2 a5 a6 this.1 this.2 i2
    refine w_L_law__23 (by omega) ⟨fun z => absurd z nz, fun _ => ⟨by rw [t6]; exact ⟨nI_pos' (by omega), by omega⟩, fun _ => kk I L c s a5 a6 (cs1r c s) hi,
      fun _ => LC_feed hd (by omega) hL hi kk,
      fun _ => LC_end hd (by omega) hL hi kk,
      fun _ => hw (by omega) hi kk,
      fun _ => hl (by omega) hi kk,
      fun _ => LC_fault hd (by omega) hL hi kk,
      fun _ => LC_cell hd (by omega) hL hi kk,
      fun _ => LC_note hd (by omega) hL hi kk,
      fun _ => LC_boy hd (by omega) hL hi kk,
      fun _ => LC_sing hd (by omega) hL hi kk,
      fun _ => LC_fire hd (by omega) hL hi kk,
      fun _ => LC_plant hd (by omega) hL hi kk,
      fun _ => LC_part hd (by omega) hL hi kk,
      fun _ => LC_tune hd (by omega) hL hi kk,
      fun _ => LC_call hd (by omega) hL hi kk,
      fun _ => LC_send hd (by omega) hL hi kk,
      fun _ => LC_loud hd (by omega) hL hi kk,
      fun _ => LC_path hd (by omega) hL hi kk,
      fun _ => LC_soon hd (by omega) hL hi kk,
      fun _ => LC_by hd (by omega) hL hi kk,
      fun _ => LC_best hd (by omega) hL hi kk,
      fun _ => LC_all hd (by omega) hL hi kk,
      fun _ => LC_should hd (by omega) hL hi kk,
      fun _ => LC_calls hd (by omega) hL hi kk,
      fun _ => LC_first hd (by omega) hL hi kk,
      fun _ => LC_can hd (by omega) hL hi kk,
      fun _ => LC_lost hd (by omega) hL hi kk,
      fun _ => LC_sounds hd (by omega) hL hi kk,
      fun _ => LC_listen hd (by omega) hL hi kk,
      fun _ => LC_ears hd (by omega) hL hi kk,
      fun _ => LC_code hd (by omega) hL hi kk,
      fun _ => LC_shifted hd (by omega) hL hi kk,
      fun _ => LC_silence hd (by omega) hL hi kk,
      fun _ => LC_hush hd (by omega) hL hi kk,
      fun _ => LC_quiet hd (by omega) hL hi kk,
      fun _ => LC_mends hd (by omega) hL hi kk,
      fun _ => LC_meet hd (by omega) hL hi kk,
      fun _ => LC_sooner hd (by omega) hL hi kk,
      fun _ => LC_loudest hd (by omega) hL hi kk,
      fun _ => LC_watch hd (by omega) hL hi kk,
      fun _ => LC_clearings hd (by omega) hL hi kk,
      fun _ => LC_splits hd (by omega) hL hi kk,
      fun _ => LC_rests hd (by omega) hL hi kk,
      fun _ => LC_hearing hd (by omega) hL hi kk,
      fun _ => LC_dense hd (by omega) hL hi kk,
      fun _ => LC_ferny hd (by omega) hL hi kk,
      fun _ => LC_out hd (by omega) hL hi kk,
      fun _ => LC_far hd (by omega) hL hi kk,
      fun _ => LC_worst hd (by omega) hL hi kk,
      fun _ => LC_odds hd (by omega) hL hi kk,
      fun _ => LC_twins hd (by omega) hL hi kk,
      fun _ => LC_ahead hd (by omega) hL hi kk,
      fun _ => LC_trial hd (by omega) hL hi kk,
      fun _ => LC_span hd (by omega) hL hi kk,
      fun _ => LC_led hd (by omega) hL hi kk,
      fun _ => LC_log hd (by omega) hL hi kk,
      fun _ => LC_seed hd (by omega) hL hi kk,
      fun _ => LC_undo hd (by omega) hL hi kk,
      fun _ => LC_image hd (by omega) hL hi kk,
      fun _ => LC_back hd (by omega) hL hi kk,
      fun _ => LC_count hd (by omega) hL hi kk⟩⟩
