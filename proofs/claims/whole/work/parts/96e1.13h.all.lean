set_option maxHeartbeats 4000000 in
/-- EVERY RUN -/
theorem dd_snd {l : Launch} (hl : l.stackTraces = false) (hAll : ∀ x, x < dd_NM → dd_okY x) (hT3 : dd_ThrOK 3) (hCI : dd_CI l) : ∀ n, dd_Snd l n := by
  intro n
  induction n with
  | zero => intro d y pc ls st M o h; simp [dd_run] at h
  | succ n ih =>
    intro d y pc ls st M o h hy p e R s m args below meth c D A Ln fI ad0 Q c0 s0 ad tA H locs lsC hC hnm htab hfr hlo hRR hc0 hS hL hRet hThM hThX
    have hle := dd_run_le dd_mt _ _ _ _ _ h
    have hle : dd_le M o.2.2 := hle
    rw [dd_run] at h
    split at h
    · cases h
    · rename_i en hen
      obtain ⟨rfl, e2, e3⟩ := (hAll y hy).2.2.2.2.2.2 pc en hen
      split at h
      · -- a step
        rename_i h0
        rw [h0] at e3
        obtain ⟨pl, k1, k2⟩ := e3
        split at h
        · cases h
        · rename_i cf hs
          obtain ⟨pc', ls', st', M'⟩ := cf
          have l1 : dd_le M M' := dd_stp_le hs
          have l2 : dd_le M' o.2.2 := dd_run_le dd_mt _ _ _ _ _ h
          have a1 := l1.2.1
          have a2 := l1.2.2
          have a3 := l2.2.1
          have a4 := l2.2.2
          refine dd_snd1 hC hnm k1 k2 e2 hs ⟨by show dd_nc M' - c0 ≤ _; omega, by show dd_ns M' - s0 ≤ _; omega⟩ hc0 hS hL ?_
          intro ad' tA' H' locs' lsC' hS' hL' hE'
          exact ih d y pc' ls' st' M' o h hy p e R s m args below meth c D A Ln fI ad0 Q c0 s0 ad' tA' H' locs' lsC' hC hnm htab hfr hlo hRR ⟨by omega, by omega⟩ hS' hL' (hRet.next hE' l1 l2) (hThM.next hE' l1) (hThX.next hE' l1 l2)
      · -- a return
        rename_i h1
        rw [h1] at e3
        obtain ⟨r1, r2⟩ := dd_rt_M h
        rw [e3.1] at e2
        have K := hRet en.1 en.2.1 st ad tA H locs lsC e2 e3.2 (by rw [r2]; exact h) (by rw [r2]; exact hS) (by rw [r2]; exact dd_Ext.rf _ _ _ _)
        rw [r2] at K
        exact K
      · -- a call
        rename_i h2
        rw [h2] at e3
        split at h
        · cases h
        · rename_i d'
          split at h
          · cases h
          · rename_i x as rest hcl
            have hsp := dd_cl_spec hcl
            have hlen : en.2.2.1 = 3 := by
              obtain ⟨pc', i, len, x0, ny, z, kq⟩ := en
              exact e3.1
            have hxN : ∀ o1, dd_run dd_mt n d' x (0, dd_ent (dd_mt x).2.1 as, [], M) = some o1 → x < dd_NC := by
              intro o1 hc1
              rcases dd_clN e3 hcl with q | q
              · exact q
              · subst q; exact absurd (dd_no999 hc1) id
            obtain ⟨hA1, -⟩ := dd_Bw.of hC hS
            split at h
            · cases h
            · -- it returns
              rename_i v M1 hcall
              have hx := hxN _ hcall
              have l1 : dd_le M M1 := dd_run_le dd_mt _ _ _ _ _ hcall
              have hv := dd_run_v dd_mt _ _ _ _ _ hcall rfl
              split at h
              · rename_i hokv
                have l2 : dd_le M1 o.2.2 := dd_run_le dd_mt _ _ _ _ _ h
                have a1 := l1.2.1
                have a2 := l1.2.2
                have a3 := l2.2.1
                have a4 := l2.2.2
                have hM := dd_toMet (dd_ofR hl hAll hT3 ih hcall (Nat.lt_trans hx (by decide)) hsp.2.2.2.1 D Ln fI ad0 ad tA H.size) (fun E st t hX => by
                  obtain ⟨⟨k, hk, -⟩, -⟩ := hX
                  cases hk)
                have hrun := dd_crun (R := R) (e := e) (below := below) (meth := meth) (cells := dd_nc M - c0) (slots := dd_ns M - s0) (lsC := lsC) hAll hC hS e3 e2 hcl hx hfr hlo hL.1 hM ⟨by show dd_nc M - c0 + (dd_nc M1 - dd_nc M) ≤ _; omega, by show dd_ns M - s0 + (dd_ns M1 - dd_ns M) ≤ _; omega⟩
                refine dd_goOn hrun hS.2.2.2.2.1 hA1 ?_
                intro H1 locs1 ad' tA' g1 g2 g3 g4 g5 g6 g7 g8
                have hS' : dd_St D A s Ln fI ad0 ad' tA' M1 H1 locs1 := ⟨g2, g3, g4, g5, g8, g6, g7⟩
                have eq1 : dd_nc M - c0 + (dd_nc M1 - dd_nc M) = dd_nc M1 - c0 := by omega
                have eq2 : dd_ns M - s0 + (dd_ns M1 - dd_ns M) = dd_ns M1 - s0 := by omega
                have keep : rest.map (dd_cv ad') = rest.map (dd_cv ad) ∧ dd_LV ad' ls (dd_mt y).2.1 lsC := by
                  simp only [Bool.or_eq_true, Bool.and_eq_true] at hokv
                  rcases hokv with q | ⟨q1, q2⟩
                  · obtain ⟨r1, r2⟩ := g1.2 (Nat.eq_of_beq_eq_true q)
                    rw [r1]
                    exact ⟨rfl, hL⟩
                  · refine ⟨dd_okv_mapE g1.1 rest q2, ?_⟩
                    unfold dd_LV
                    rw [dd_okv_lvE g1.1 ls 0 q1]
                    exact hL
                have K := ih (d' + 1) y (en.1 + en.2.2.1) ls (dd_pu v rest) M1 o h hy p e R s m args below meth c D A Ln fI ad0 Q c0 s0 ad' tA' H1 locs1 lsC hC hnm htab hfr hlo hRR ⟨by omega, by omega⟩ hS' keep.2 (hRet.next g1 l1 l2) (hThM.next g1 l1) (hThX.next g1 l1 l2)
                have est : (dd_pu v rest).map (dd_cv ad') = (dd_ov v).toList ++ rest.map (dd_cv ad) := by
                  rw [← keep.1]
                  rcases hv with q | ⟨w, q⟩ | ⟨w, q⟩
                  · have q : v = .null := q
                    subst q; rfl
                  · have q : v = .int w := q
                    subst q; rfl
                  · have q : v = .long w := q
                    subst q; rfl
                rw [est, hlen] at K
                show W p l e R s m args below meth c H1 locs1 (dd_nc M - c0 + (dd_nc M1 - dd_nc M)) (dd_ns M - s0 + (dd_ns M1 - dd_ns M)) Q _
                rw [eq1, eq2]
                exact K
              · cases h
            · -- it throws
              rename_i E v M1 hcall
              have hx := hxN _ hcall
              have l1 : dd_le M M1 := dd_run_le dd_mt _ _ _ _ _ hcall
              have hE5 : E < 5 := dd_run_E hAll _ _ _ _ _ hcall (Nat.lt_trans hx (by decide)) E rfl
              have a1 := l1.2.1
              have a2 := l1.2.2
              split at h
              · cases h
              · rename_i hV
                have hM := dd_ofR hl hAll hT3 ih hcall (Nat.lt_trans hx (by decide)) hsp.2.2.2.1 D Ln fI ad0 ad tA H.size
                have fit : dd_le M1 o.2.2 → dd_nc M - c0 + (dd_nc M1 - dd_nc M) ≤ R.cells ∧ dd_ns M - s0 + (dd_ns M1 - dd_ns M) ≤ R.slots := by
                  intro l2
                  have a3 := l2.2.1
                  have a4 := l2.2.2
                  exact ⟨by omega, by omega⟩
                have eq1 : dd_nc M - c0 + (dd_nc M1 - dd_nc M) = dd_nc M1 - c0 := by omega
                have eq2 : dd_ns M - s0 + (dd_ns M1 - dd_ns M) = dd_ns M1 - s0 := by omega
                split at h
                · split at h
                  · -- on to the caller
                    rename_i hh
                    cases h
                    have hrun := dd_crunX (R := R) (e := e) (below := below) (meth := meth) (cells := dd_nc M - c0) (slots := dd_ns M - s0) (lsC := lsC) hAll hC hS e3 e2 hV hcl hx hfr hlo hL.1 hM (fit (dd_le.rf _))
                    refine dd_goX (by simp) hrun hS.2.2.2.2.1 hA1 ?_
                    intro k ce q9 H1 locs1 ad' tA' hk g1 g2 g3 g4 g5 g6 g7 g8 c1 c2 c3
                    have hS' : dd_St D A s Ln fI ad0 ad' tA' M1 H1 locs1 := ⟨g2, g3, g4, g5, g8, g6, g7⟩
                    have K := hThX k ce q9 en.1 (rest.map (dd_cv ad)) ad' tA' H1 locs1 lsC hk hh hS' g1 c1 c2 c3
                    show vx_W p l e R s m args below meth c H1 locs1 (dd_nc M - c0 + (dd_nc M1 - dd_nc M)) (dd_ns M - s0 + (dd_ns M1 - dd_ns M)) Q _ q9
                    rw [eq1, eq2]
                    exact K
                  · cases h
                · -- caught here
                  rename_i hp kl hhd
                  split at h
                  · rename_i hsame
                    have hsame : M1.1 = M.1 := Nat.eq_of_beq_eq_true hsame
                    have l2 : dd_le M1 o.2.2 := dd_run_le dd_mt _ _ _ _ _ h
                    have hrun := dd_crunX (R := R) (e := e) (below := below) (meth := meth) (cells := dd_nc M - c0) (slots := dd_ns M - s0) (lsC := lsC) hAll hC hS e3 e2 hV hcl hx hfr hlo hL.1 hM (fit l2)
                    refine dd_goX (by simp) hrun hS.2.2.2.2.1 hA1 ?_
                    intro k ce q9 H1 locs1 ad' tA' hk g1 g2 g3 g4 g5 g6 g7 g8 c1 c2 c3
                    cases hk
                    obtain ⟨rfl, rfl⟩ := g1.2 hsame
                    have hS' : dd_St D A s Ln fI ad0 ad' tA' M1 H1 locs1 := ⟨g2, g3, g4, g5, g8, g6, g7⟩
                    obtain ⟨hx0, hb0, hml0, hown0, hts0, hK0, hA0, hF0⟩ := id hC
                    obtain ⟨pre, xe, suf, t1, t2, t3, t4, t5, t6, t7⟩ := dd_hd_split (own := (dd_nm y).cls) (cc := dd_cc y) (maxL := (dd_mt y).2.1) hts0 hF0.2.2.2.2.2.2.2.2.2.1 hE5 _ _ (hAll y hy).2.2.2.2.2.1 hhd
                    have a3 := l2.2.1
                    have a4 := l2.2.2
                    have K := fun lsC' (hLL : dd_LV ad' (dd_s1 ls kl .null) (dd_mt y).2.1 lsC') => ih (d' + 1) y hp (dd_s1 ls kl .null) [] M1 o h hy p e R s m args below meth c D A Ln fI ad0 Q c0 s0 ad' tA' H1 locs1 lsC' hC hnm htab hfr hlo hRR ⟨by omega, by omega⟩ hS' hLL (hRet.next g1 l1 l2) (hThM.next g1 l1) (hThX.next g1 l1 l2)
                    have sub : ∀ ls' : Array Slot, lv_has ls' (dd_mt y).2.1 ((kl, Value.ref q9) :: (dd_lv ad' 0 ls).filter (fun q => !(q.1 == kl) && !(q.1 + 1 == kl && q.2.category == 2))) → dd_LV ad' (dd_s1 ls kl .null) (dd_mt y).2.1 ls' := by
                      intro ls' hl'
                      refine ⟨hl'.1, hl'.2.1, fun q hq => hl'.2.2 q (List.mem_cons_of_mem _ ?_)⟩
                      obtain ⟨m0, w, b1, b2, rfl⟩ := (dd_lv_mem _ 0 q).mp hq
                      rw [Nat.zero_add]
                      rcases dd_s1_get b1 b2 with ⟨rfl, rfl⟩ | ⟨b3, b4, b5⟩
                      · exact absurd b2 (by decide)
                      · refine List.mem_filter.mpr ⟨(dd_lv_mem ls 0 _).mpr ⟨m0, w, b4, b2, by rw [Nat.zero_add]⟩, ?_⟩
                        simp [b3, dd_cv_cat]
                        exact Classical.not_and_iff_not_or_not.mp b5
                    show vx_W p l e R s m args below meth c H1 locs1 (dd_nc M - c0 + (dd_nc M1 - dd_nc M)) (dd_ns M - s0 + (dd_ns M1 - dd_ns M)) Q _ q9
                    rw [eq1, eq2]
                    refine vx_catch (E := dd_exn E) (name := dd_exn E) hown0 pre xe suf (by rw [htab]; exact t1) t2 t3 t4 t5 ((hF0.2.2.2.2.2.2.2.2.2.2.1 E hE5).use rfl) c1 c2 c3 ?_
                    rcases t7 with ⟨j, d1, d2, rfl⟩ | ⟨d1, rfl⟩
                    · exact lv_astore_n hx0 hb0 d1 d2 hL t6 rfl (fun ls' hl' => K ls' (sub ls' hl'))
                    · exact lv_astore hx0 hb0 d1 hL t6 rfl (fun ls' hl' => K ls' (sub ls' hl'))
                  · cases h
      · -- a method of the JDK that is no code here
        rename_i h3
        rw [h3] at e3
        split at h
        · rename_i h12
          have h12 : 12 ≤ d := Nat.le_of_ble_eq_true h12
          split at h
          · cases h
          · rename_i cf hs
            obtain ⟨pc', ls', st', M'⟩ := cf
            have l1 : dd_le M M' := dd_bi_le hs
            have l2 : dd_le M' o.2.2 := dd_run_le dd_mt _ _ _ _ _ h
            have a1 := l1.2.1
            have a2 := l1.2.2
            have a3 := l2.2.1
            have a4 := l2.2.2
            refine dd_snd3 hCI hC e3 e2 hs (by omega) (by omega) ⟨by omega, by omega⟩ hS hL ?_
            intro ad' tA' H' locs' lsC' hS' hL' hE'
            exact ih d y pc' ls' st' M' o h hy p e R s m args below meth c D A Ln fI ad0 Q c0 s0 ad' tA' H' locs' lsC' hC hnm htab hfr hlo hRR ⟨by omega, by omega⟩ hS' hL' (hRet.next hE' l1 l2) (hThM.next hE' l1) (hThX.next hE' l1 l2)
        · cases h
      · -- a throw
        rename_i n0 n1 n2 n3
        split at h
        · rename_i h12 hcat
          have h12 : 12 ≤ d := Nat.le_of_ble_eq_true h12
          have hcat : dd_cat st ≤ 8 := Nat.le_of_ble_eq_true hcat
          cases h
          revert e3
          split
          · rename_i q; exact absurd q n0
          · rename_i q; exact absurd q n1
          · rename_i q; exact absurd q n2
          · rename_i q; exact absurd q n3
          · rintro ⟨h9, h10⟩
            exact hThM en st ad tA H locs lsC M e2 h9 h10 rfl hcat (by omega) (by omega) (dd_le.rf M) hL.1 hS (dd_Ext.rf _ _ _ _)
        · cases h
