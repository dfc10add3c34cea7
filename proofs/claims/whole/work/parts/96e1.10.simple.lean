abbrev dd_nc (M : dd_M) : Nat := M.2.2.2.2.2.1
abbrev dd_ns (M : dd_M) : Nat := M.2.2.2.2.2.2
/-- the run goes on from cf' -/
def dd_K1 (p : Program) (l : Launch) (e : Env) (R : Room) (s : State) (m : MethodId) (args : Array Value) (below : List Frame) (meth : Method) (c : Code) (D : va_G) (A : Nat → Prop) (Ln : Nat) (fI : Nat → Nat → Int32) (ad0 : Nat → Nat) (nL c0 s0 : Nat) (Q : State → Prop) (ad : Nat → Nat) (tA : Nat → ClassId) (M : dd_M) (cf' : dd_C) : Prop :=
  ∀ (ad' : Nat → Nat) (tA' : Nat → ClassId) (H' : Heap) (locs' : List Loc) (lsC' : Array Slot), dd_St D A s Ln fI ad0 ad' tA' cf'.2.2.2 H' locs' → dd_LV ad' cf'.2.1 nL lsC' → dd_Ext ad ad' tA tA' M cf'.2.2.2 → W p l e R s m args below meth c H' locs' (dd_nc cf'.2.2.2 - c0) (dd_ns cf'.2.2.2 - s0) Q (F0 m cf'.1 lsC' (cf'.2.2.1.map (dd_cv ad')))
section DSI
variable {p : Program} {l : Launch} {e : Env} {R : Room} {s : State} {m : MethodId} {args : Array Value} {below : List Frame} {meth : Method} {c : Code} {cc : ByteArray} {own : String} {nL : Nat} {D : va_G} {A : Nat → Prop} {Ln : Nat} {fI : Nat → Nat → Int32} {ad0 : Nat → Nat} {Q : State → Prop} {c0 s0 : Nat}
variable {ls st : List Value} {M : dd_M} {cf' : dd_C} {ad : Nat → Nat} {tA : Nat → ClassId} {H : Heap} {locs : List Loc} {lsC : Array Slot} {pc len x y z : Nat} {k : Int32} {pl : List Nat}

theorem dd_i_iconst (n : Int) (hC : dd_Cx p s m args c cc own nL D A Ln fI ad0) (hk : dd_chk1 own nL (pc, (.iconst n), len, x, y, z, k) pl = true) (hd : decode cc pc = .ok ((.iconst n), len)) (hs : dd_stp (pc, (.iconst n), len, x, y, z, k) ls st M = some cf') (hS : dd_St D A s Ln fI ad0 ad tA M H locs) (hL : dd_LV ad ls nL lsC) (kk : dd_K1 p l e R s m args below meth c D A Ln fI ad0 nL c0 s0 Q ad tA M cf') : W p l e R s m args below meth c H locs (dd_nc M - c0) (dd_ns M - s0) Q (F0 m pc lsC (st.map (dd_cv ad))) := by
  obtain ⟨hx, hb, hml, hown, hts, hK, hA, hF⟩ := hC
  simp only [dd_chk1, decide_eq_true_eq, Bool.and_eq_true] at hk
  simp only [dd_stp] at hs
  obtain ⟨rfl, h2⟩ := hk
  cases hs
  exact lv_iconst hx hb hd h2 (kk ad tA H locs lsC hS hL (dd_Ext.rf ad tA M M))

theorem dd_i_bipush (n : Int) (hC : dd_Cx p s m args c cc own nL D A Ln fI ad0) (hk : dd_chk1 own nL (pc, (.bipush n), len, x, y, z, k) pl = true) (hd : decode cc pc = .ok ((.bipush n), len)) (hs : dd_stp (pc, (.bipush n), len, x, y, z, k) ls st M = some cf') (hS : dd_St D A s Ln fI ad0 ad tA M H locs) (hL : dd_LV ad ls nL lsC) (kk : dd_K1 p l e R s m args below meth c D A Ln fI ad0 nL c0 s0 Q ad tA M cf') : W p l e R s m args below meth c H locs (dd_nc M - c0) (dd_ns M - s0) Q (F0 m pc lsC (st.map (dd_cv ad))) := by
  obtain ⟨hx, hb, hml, hown, hts, hK, hA, hF⟩ := hC
  simp only [dd_chk1, decide_eq_true_eq, Bool.and_eq_true] at hk
  simp only [dd_stp] at hs
  obtain ⟨rfl, h2⟩ := hk
  cases hs
  exact lv_bipush hx hb hd h2 (kk ad tA H locs lsC hS hL (dd_Ext.rf ad tA M M))

theorem dd_i_sipush (n : Int) (hC : dd_Cx p s m args c cc own nL D A Ln fI ad0) (hk : dd_chk1 own nL (pc, (.sipush n), len, x, y, z, k) pl = true) (hd : decode cc pc = .ok ((.sipush n), len)) (hs : dd_stp (pc, (.sipush n), len, x, y, z, k) ls st M = some cf') (hS : dd_St D A s Ln fI ad0 ad tA M H locs) (hL : dd_LV ad ls nL lsC) (kk : dd_K1 p l e R s m args below meth c D A Ln fI ad0 nL c0 s0 Q ad tA M cf') : W p l e R s m args below meth c H locs (dd_nc M - c0) (dd_ns M - s0) Q (F0 m pc lsC (st.map (dd_cv ad))) := by
  obtain ⟨hx, hb, hml, hown, hts, hK, hA, hF⟩ := hC
  simp only [dd_chk1, decide_eq_true_eq, Bool.and_eq_true] at hk
  simp only [dd_stp] at hs
  obtain ⟨rfl, h2⟩ := hk
  cases hs
  exact lv_sipush hx hb hd h2 (kk ad tA H locs lsC hS hL (dd_Ext.rf ad tA M M))

theorem dd_i_lconst (n : Fin 2) (hC : dd_Cx p s m args c cc own nL D A Ln fI ad0) (hk : dd_chk1 own nL (pc, (.lconst n), len, x, y, z, k) pl = true) (hd : decode cc pc = .ok ((.lconst n), len)) (hs : dd_stp (pc, (.lconst n), len, x, y, z, k) ls st M = some cf') (hS : dd_St D A s Ln fI ad0 ad tA M H locs) (hL : dd_LV ad ls nL lsC) (kk : dd_K1 p l e R s m args below meth c D A Ln fI ad0 nL c0 s0 Q ad tA M cf') : W p l e R s m args below meth c H locs (dd_nc M - c0) (dd_ns M - s0) Q (F0 m pc lsC (st.map (dd_cv ad))) := by
  obtain ⟨hx, hb, hml, hown, hts, hK, hA, hF⟩ := hC
  simp only [dd_chk1, decide_eq_true_eq, Bool.and_eq_true] at hk
  simp only [dd_stp] at hs
  obtain ⟨rfl, h2⟩ := hk
  cases hs
  exact lv_lconst hx hb hd h2 (kk ad tA H locs lsC hS hL (dd_Ext.rf ad tA M M))

theorem dd_i_iload (n : Nat) (hC : dd_Cx p s m args c cc own nL D A Ln fI ad0) (hk : dd_chk1 own nL (pc, (.iload n), len, x, y, z, k) pl = true) (hd : decode cc pc = .ok ((.iload n), len)) (hs : dd_stp (pc, (.iload n), len, x, y, z, k) ls st M = some cf') (hS : dd_St D A s Ln fI ad0 ad tA M H locs) (hL : dd_LV ad ls nL lsC) (kk : dd_K1 p l e R s m args below meth c D A Ln fI ad0 nL c0 s0 Q ad tA M cf') : W p l e R s m args below meth c H locs (dd_nc M - c0) (dd_ns M - s0) Q (F0 m pc lsC (st.map (dd_cv ad))) := by
  obtain ⟨hx, hb, hml, hown, hts, hK, hA, hF⟩ := hC
  simp only [dd_chk1, decide_eq_true_eq, Bool.and_eq_true] at hk
  simp only [dd_stp] at hs
  obtain ⟨rfl, rfl⟩ := hk
  split at hs
  · rename_i v hv
    cases hs
    exact lv_iload hx hb hd (hL.get hv rfl) (kk ad tA H locs lsC hS hL (dd_Ext.rf ad tA M M))
  · cases hs

theorem dd_i_iload_n (n : Fin 4) (hC : dd_Cx p s m args c cc own nL D A Ln fI ad0) (hk : dd_chk1 own nL (pc, (.iload_n n), len, x, y, z, k) pl = true) (hd : decode cc pc = .ok ((.iload_n n), len)) (hs : dd_stp (pc, (.iload_n n), len, x, y, z, k) ls st M = some cf') (hS : dd_St D A s Ln fI ad0 ad tA M H locs) (hL : dd_LV ad ls nL lsC) (kk : dd_K1 p l e R s m args below meth c D A Ln fI ad0 nL c0 s0 Q ad tA M cf') : W p l e R s m args below meth c H locs (dd_nc M - c0) (dd_ns M - s0) Q (F0 m pc lsC (st.map (dd_cv ad))) := by
  obtain ⟨hx, hb, hml, hown, hts, hK, hA, hF⟩ := hC
  simp only [dd_chk1, decide_eq_true_eq, Bool.and_eq_true] at hk
  simp only [dd_stp] at hs
  obtain ⟨rfl, h2⟩ := hk
  split at hs
  · rename_i v hv
    cases hs
    exact lv_iload_n hx hb hd h2 (hL.get hv rfl) (kk ad tA H locs lsC hS hL (dd_Ext.rf ad tA M M))
  · cases hs

theorem dd_i_lload (n : Nat) (hC : dd_Cx p s m args c cc own nL D A Ln fI ad0) (hk : dd_chk1 own nL (pc, (.lload n), len, x, y, z, k) pl = true) (hd : decode cc pc = .ok ((.lload n), len)) (hs : dd_stp (pc, (.lload n), len, x, y, z, k) ls st M = some cf') (hS : dd_St D A s Ln fI ad0 ad tA M H locs) (hL : dd_LV ad ls nL lsC) (kk : dd_K1 p l e R s m args below meth c D A Ln fI ad0 nL c0 s0 Q ad tA M cf') : W p l e R s m args below meth c H locs (dd_nc M - c0) (dd_ns M - s0) Q (F0 m pc lsC (st.map (dd_cv ad))) := by
  obtain ⟨hx, hb, hml, hown, hts, hK, hA, hF⟩ := hC
  simp only [dd_chk1, decide_eq_true_eq, Bool.and_eq_true] at hk
  simp only [dd_stp] at hs
  obtain ⟨rfl, rfl⟩ := hk
  split at hs
  · rename_i v hv
    cases hs
    exact lv_lload hx hb hd (hL.get hv rfl) (kk ad tA H locs lsC hS hL (dd_Ext.rf ad tA M M))
  · cases hs

theorem dd_i_lload_n (n : Fin 4) (hC : dd_Cx p s m args c cc own nL D A Ln fI ad0) (hk : dd_chk1 own nL (pc, (.lload_n n), len, x, y, z, k) pl = true) (hd : decode cc pc = .ok ((.lload_n n), len)) (hs : dd_stp (pc, (.lload_n n), len, x, y, z, k) ls st M = some cf') (hS : dd_St D A s Ln fI ad0 ad tA M H locs) (hL : dd_LV ad ls nL lsC) (kk : dd_K1 p l e R s m args below meth c D A Ln fI ad0 nL c0 s0 Q ad tA M cf') : W p l e R s m args below meth c H locs (dd_nc M - c0) (dd_ns M - s0) Q (F0 m pc lsC (st.map (dd_cv ad))) := by
  obtain ⟨hx, hb, hml, hown, hts, hK, hA, hF⟩ := hC
  simp only [dd_chk1, decide_eq_true_eq, Bool.and_eq_true] at hk
  simp only [dd_stp] at hs
  obtain ⟨rfl, h2⟩ := hk
  split at hs
  · rename_i v hv
    cases hs
    exact lv_lload_n hx hb hd h2 (hL.get hv rfl) (kk ad tA H locs lsC hS hL (dd_Ext.rf ad tA M M))
  · cases hs

theorem dd_i_aload (n : Nat) (hC : dd_Cx p s m args c cc own nL D A Ln fI ad0) (hk : dd_chk1 own nL (pc, (.aload n), len, x, y, z, k) pl = true) (hd : decode cc pc = .ok ((.aload n), len)) (hs : dd_stp (pc, (.aload n), len, x, y, z, k) ls st M = some cf') (hS : dd_St D A s Ln fI ad0 ad tA M H locs) (hL : dd_LV ad ls nL lsC) (kk : dd_K1 p l e R s m args below meth c D A Ln fI ad0 nL c0 s0 Q ad tA M cf') : W p l e R s m args below meth c H locs (dd_nc M - c0) (dd_ns M - s0) Q (F0 m pc lsC (st.map (dd_cv ad))) := by
  obtain ⟨hx, hb, hml, hown, hts, hK, hA, hF⟩ := hC
  simp only [dd_chk1, decide_eq_true_eq, Bool.and_eq_true] at hk
  simp only [dd_stp] at hs
  obtain ⟨rfl, rfl⟩ := hk
  split at hs
  · rename_i v hv
    cases hs
    exact lv_aload hx hb hd (hL.get hv rfl) (kk ad tA H locs lsC hS hL (dd_Ext.rf ad tA M M))
  · cases hs

theorem dd_i_aload_n (n : Fin 4) (hC : dd_Cx p s m args c cc own nL D A Ln fI ad0) (hk : dd_chk1 own nL (pc, (.aload_n n), len, x, y, z, k) pl = true) (hd : decode cc pc = .ok ((.aload_n n), len)) (hs : dd_stp (pc, (.aload_n n), len, x, y, z, k) ls st M = some cf') (hS : dd_St D A s Ln fI ad0 ad tA M H locs) (hL : dd_LV ad ls nL lsC) (kk : dd_K1 p l e R s m args below meth c D A Ln fI ad0 nL c0 s0 Q ad tA M cf') : W p l e R s m args below meth c H locs (dd_nc M - c0) (dd_ns M - s0) Q (F0 m pc lsC (st.map (dd_cv ad))) := by
  obtain ⟨hx, hb, hml, hown, hts, hK, hA, hF⟩ := hC
  simp only [dd_chk1, decide_eq_true_eq, Bool.and_eq_true] at hk
  simp only [dd_stp] at hs
  obtain ⟨rfl, h2⟩ := hk
  split at hs
  · rename_i v hv
    cases hs
    exact lv_aload_n hx hb hd h2 (hL.get hv rfl) (kk ad tA H locs lsC hS hL (dd_Ext.rf ad tA M M))
  · cases hs

theorem dd_i_istore (n : Nat) (hC : dd_Cx p s m args c cc own nL D A Ln fI ad0) (hk : dd_chk1 own nL (pc, (.istore n), len, x, y, z, k) pl = true) (hd : decode cc pc = .ok ((.istore n), len)) (hs : dd_stp (pc, (.istore n), len, x, y, z, k) ls st M = some cf') (hS : dd_St D A s Ln fI ad0 ad tA M H locs) (hL : dd_LV ad ls nL lsC) (kk : dd_K1 p l e R s m args below meth c D A Ln fI ad0 nL c0 s0 Q ad tA M cf') : W p l e R s m args below meth c H locs (dd_nc M - c0) (dd_ns M - s0) Q (F0 m pc lsC (st.map (dd_cv ad))) := by
  obtain ⟨hx, hb, hml, hown, hts, hK, hA, hF⟩ := hC
  simp only [dd_chk1, decide_eq_true_eq, Bool.and_eq_true] at hk
  simp only [dd_stp] at hs
  obtain ⟨⟨rfl, rfl⟩, h3⟩ := hk
  split at hs
  · cases hs
    exact lv_istore hx hb hd hL h3 rfl (fun ls' hl => kk ad tA H locs ls' hS (dd_LV.st1 hl) (dd_Ext.rf ad tA M M))
  · cases hs

theorem dd_i_istore_n (n : Fin 4) (hC : dd_Cx p s m args c cc own nL D A Ln fI ad0) (hk : dd_chk1 own nL (pc, (.istore_n n), len, x, y, z, k) pl = true) (hd : decode cc pc = .ok ((.istore_n n), len)) (hs : dd_stp (pc, (.istore_n n), len, x, y, z, k) ls st M = some cf') (hS : dd_St D A s Ln fI ad0 ad tA M H locs) (hL : dd_LV ad ls nL lsC) (kk : dd_K1 p l e R s m args below meth c D A Ln fI ad0 nL c0 s0 Q ad tA M cf') : W p l e R s m args below meth c H locs (dd_nc M - c0) (dd_ns M - s0) Q (F0 m pc lsC (st.map (dd_cv ad))) := by
  obtain ⟨hx, hb, hml, hown, hts, hK, hA, hF⟩ := hC
  simp only [dd_chk1, decide_eq_true_eq, Bool.and_eq_true] at hk
  simp only [dd_stp] at hs
  obtain ⟨⟨rfl, h2⟩, h3⟩ := hk
  split at hs
  · cases hs
    exact lv_istore_n hx hb hd h2 hL h3 rfl (fun ls' hl => kk ad tA H locs ls' hS (dd_LV.st1 hl) (dd_Ext.rf ad tA M M))
  · cases hs

theorem dd_i_lstore (n : Nat) (hC : dd_Cx p s m args c cc own nL D A Ln fI ad0) (hk : dd_chk1 own nL (pc, (.lstore n), len, x, y, z, k) pl = true) (hd : decode cc pc = .ok ((.lstore n), len)) (hs : dd_stp (pc, (.lstore n), len, x, y, z, k) ls st M = some cf') (hS : dd_St D A s Ln fI ad0 ad tA M H locs) (hL : dd_LV ad ls nL lsC) (kk : dd_K1 p l e R s m args below meth c D A Ln fI ad0 nL c0 s0 Q ad tA M cf') : W p l e R s m args below meth c H locs (dd_nc M - c0) (dd_ns M - s0) Q (F0 m pc lsC (st.map (dd_cv ad))) := by
  obtain ⟨hx, hb, hml, hown, hts, hK, hA, hF⟩ := hC
  simp only [dd_chk1, decide_eq_true_eq, Bool.and_eq_true] at hk
  simp only [dd_stp] at hs
  obtain ⟨⟨rfl, rfl⟩, h3⟩ := hk
  split at hs
  · cases hs
    exact lv_lstore hx hb hd hL h3 rfl (fun ls' hl => kk ad tA H locs ls' hS (dd_LV.st2 hl) (dd_Ext.rf ad tA M M))
  · cases hs

theorem dd_i_lstore_n (n : Fin 4) (hC : dd_Cx p s m args c cc own nL D A Ln fI ad0) (hk : dd_chk1 own nL (pc, (.lstore_n n), len, x, y, z, k) pl = true) (hd : decode cc pc = .ok ((.lstore_n n), len)) (hs : dd_stp (pc, (.lstore_n n), len, x, y, z, k) ls st M = some cf') (hS : dd_St D A s Ln fI ad0 ad tA M H locs) (hL : dd_LV ad ls nL lsC) (kk : dd_K1 p l e R s m args below meth c D A Ln fI ad0 nL c0 s0 Q ad tA M cf') : W p l e R s m args below meth c H locs (dd_nc M - c0) (dd_ns M - s0) Q (F0 m pc lsC (st.map (dd_cv ad))) := by
  obtain ⟨hx, hb, hml, hown, hts, hK, hA, hF⟩ := hC
  simp only [dd_chk1, decide_eq_true_eq, Bool.and_eq_true] at hk
  simp only [dd_stp] at hs
  obtain ⟨⟨rfl, h2⟩, h3⟩ := hk
  split at hs
  · cases hs
    exact lv_lstore_n hx hb hd h2 hL h3 rfl (fun ls' hl => kk ad tA H locs ls' hS (dd_LV.st2 hl) (dd_Ext.rf ad tA M M))
  · cases hs

theorem dd_i_astore (n : Nat) (hC : dd_Cx p s m args c cc own nL D A Ln fI ad0) (hk : dd_chk1 own nL (pc, (.astore n), len, x, y, z, k) pl = true) (hd : decode cc pc = .ok ((.astore n), len)) (hs : dd_stp (pc, (.astore n), len, x, y, z, k) ls st M = some cf') (hS : dd_St D A s Ln fI ad0 ad tA M H locs) (hL : dd_LV ad ls nL lsC) (kk : dd_K1 p l e R s m args below meth c D A Ln fI ad0 nL c0 s0 Q ad tA M cf') : W p l e R s m args below meth c H locs (dd_nc M - c0) (dd_ns M - s0) Q (F0 m pc lsC (st.map (dd_cv ad))) := by
  obtain ⟨hx, hb, hml, hown, hts, hK, hA, hF⟩ := hC
  simp only [dd_chk1, decide_eq_true_eq, Bool.and_eq_true] at hk
  simp only [dd_stp] at hs
  obtain ⟨⟨rfl, rfl⟩, h3⟩ := hk
  split at hs
  · cases hs
    exact lv_astore hx hb hd hL h3 rfl (fun ls' hl => kk ad tA H locs ls' hS (dd_LV.st1 hl) (dd_Ext.rf ad tA M M))
  · cases hs

theorem dd_i_astore_n (n : Fin 4) (hC : dd_Cx p s m args c cc own nL D A Ln fI ad0) (hk : dd_chk1 own nL (pc, (.astore_n n), len, x, y, z, k) pl = true) (hd : decode cc pc = .ok ((.astore_n n), len)) (hs : dd_stp (pc, (.astore_n n), len, x, y, z, k) ls st M = some cf') (hS : dd_St D A s Ln fI ad0 ad tA M H locs) (hL : dd_LV ad ls nL lsC) (kk : dd_K1 p l e R s m args below meth c D A Ln fI ad0 nL c0 s0 Q ad tA M cf') : W p l e R s m args below meth c H locs (dd_nc M - c0) (dd_ns M - s0) Q (F0 m pc lsC (st.map (dd_cv ad))) := by
  obtain ⟨hx, hb, hml, hown, hts, hK, hA, hF⟩ := hC
  simp only [dd_chk1, decide_eq_true_eq, Bool.and_eq_true] at hk
  simp only [dd_stp] at hs
  obtain ⟨⟨rfl, h2⟩, h3⟩ := hk
  split at hs
  · cases hs
    exact lv_astore_n hx hb hd h2 hL h3 rfl (fun ls' hl => kk ad tA H locs ls' hS (dd_LV.st1 hl) (dd_Ext.rf ad tA M M))
  · cases hs

theorem dd_i_iinc (j : Nat) (n : Int) (hC : dd_Cx p s m args c cc own nL D A Ln fI ad0) (hk : dd_chk1 own nL (pc, (.iinc j n), len, x, y, z, k) pl = true) (hd : decode cc pc = .ok ((.iinc j n), len)) (hs : dd_stp (pc, (.iinc j n), len, x, y, z, k) ls st M = some cf') (hS : dd_St D A s Ln fI ad0 ad tA M H locs) (hL : dd_LV ad ls nL lsC) (kk : dd_K1 p l e R s m args below meth c D A Ln fI ad0 nL c0 s0 Q ad tA M cf') : W p l e R s m args below meth c H locs (dd_nc M - c0) (dd_ns M - s0) Q (F0 m pc lsC (st.map (dd_cv ad))) := by
  obtain ⟨hx, hb, hml, hown, hts, hK, hA, hF⟩ := hC
  simp only [dd_chk1, decide_eq_true_eq, Bool.and_eq_true] at hk
  simp only [dd_stp] at hs
  obtain ⟨⟨⟨rfl, rfl⟩, h3⟩, h4⟩ := hk
  split at hs
  · rename_i v hv
    cases hs
    obtain ⟨q, hq⟩ := List.getElem?_of_mem ((dd_lv_mem (ad := ad) ls 0 (j, .int v)).mpr ⟨j, .int v, hv, rfl, by rw [Nat.zero_add]; rfl⟩)
    exact lv_iinc hx hb hd hL hq (by rw [h3]) h4 rfl (fun ls' hl => kk ad tA H locs ls' hS (dd_LV.st1 hl) (dd_Ext.rf ad tA M M))
  · cases hs

theorem dd_i_iadd  (hC : dd_Cx p s m args c cc own nL D A Ln fI ad0) (hk : dd_chk1 own nL (pc, .iadd, len, x, y, z, k) pl = true) (hd : decode cc pc = .ok (.iadd, len)) (hs : dd_stp (pc, .iadd, len, x, y, z, k) ls st M = some cf') (hS : dd_St D A s Ln fI ad0 ad tA M H locs) (hL : dd_LV ad ls nL lsC) (kk : dd_K1 p l e R s m args below meth c D A Ln fI ad0 nL c0 s0 Q ad tA M cf') : W p l e R s m args below meth c H locs (dd_nc M - c0) (dd_ns M - s0) Q (F0 m pc lsC (st.map (dd_cv ad))) := by
  obtain ⟨hx, hb, hml, hown, hts, hK, hA, hF⟩ := hC
  simp only [dd_chk1, decide_eq_true_eq, Bool.and_eq_true] at hk
  simp only [dd_stp] at hs
  subst hk
  split at hs
  · cases hs
    exact lv_iadd hx hb hd (kk ad tA H locs lsC hS hL (dd_Ext.rf ad tA M M))
  · cases hs

theorem dd_i_isub  (hC : dd_Cx p s m args c cc own nL D A Ln fI ad0) (hk : dd_chk1 own nL (pc, .isub, len, x, y, z, k) pl = true) (hd : decode cc pc = .ok (.isub, len)) (hs : dd_stp (pc, .isub, len, x, y, z, k) ls st M = some cf') (hS : dd_St D A s Ln fI ad0 ad tA M H locs) (hL : dd_LV ad ls nL lsC) (kk : dd_K1 p l e R s m args below meth c D A Ln fI ad0 nL c0 s0 Q ad tA M cf') : W p l e R s m args below meth c H locs (dd_nc M - c0) (dd_ns M - s0) Q (F0 m pc lsC (st.map (dd_cv ad))) := by
  obtain ⟨hx, hb, hml, hown, hts, hK, hA, hF⟩ := hC
  simp only [dd_chk1, decide_eq_true_eq, Bool.and_eq_true] at hk
  simp only [dd_stp] at hs
  subst hk
  split at hs
  · cases hs
    exact lv_isub hx hb hd (kk ad tA H locs lsC hS hL (dd_Ext.rf ad tA M M))
  · cases hs

theorem dd_i_imul  (hC : dd_Cx p s m args c cc own nL D A Ln fI ad0) (hk : dd_chk1 own nL (pc, .imul, len, x, y, z, k) pl = true) (hd : decode cc pc = .ok (.imul, len)) (hs : dd_stp (pc, .imul, len, x, y, z, k) ls st M = some cf') (hS : dd_St D A s Ln fI ad0 ad tA M H locs) (hL : dd_LV ad ls nL lsC) (kk : dd_K1 p l e R s m args below meth c D A Ln fI ad0 nL c0 s0 Q ad tA M cf') : W p l e R s m args below meth c H locs (dd_nc M - c0) (dd_ns M - s0) Q (F0 m pc lsC (st.map (dd_cv ad))) := by
  obtain ⟨hx, hb, hml, hown, hts, hK, hA, hF⟩ := hC
  simp only [dd_chk1, decide_eq_true_eq, Bool.and_eq_true] at hk
  simp only [dd_stp] at hs
  subst hk
  split at hs
  · cases hs
    exact lv_imul hx hb hd (kk ad tA H locs lsC hS hL (dd_Ext.rf ad tA M M))
  · cases hs

theorem dd_i_iand  (hC : dd_Cx p s m args c cc own nL D A Ln fI ad0) (hk : dd_chk1 own nL (pc, .iand, len, x, y, z, k) pl = true) (hd : decode cc pc = .ok (.iand, len)) (hs : dd_stp (pc, .iand, len, x, y, z, k) ls st M = some cf') (hS : dd_St D A s Ln fI ad0 ad tA M H locs) (hL : dd_LV ad ls nL lsC) (kk : dd_K1 p l e R s m args below meth c D A Ln fI ad0 nL c0 s0 Q ad tA M cf') : W p l e R s m args below meth c H locs (dd_nc M - c0) (dd_ns M - s0) Q (F0 m pc lsC (st.map (dd_cv ad))) := by
  obtain ⟨hx, hb, hml, hown, hts, hK, hA, hF⟩ := hC
  simp only [dd_chk1, decide_eq_true_eq, Bool.and_eq_true] at hk
  simp only [dd_stp] at hs
  subst hk
  split at hs
  · cases hs
    exact lv_iand hx hb hd (kk ad tA H locs lsC hS hL (dd_Ext.rf ad tA M M))
  · cases hs

theorem dd_i_ior  (hC : dd_Cx p s m args c cc own nL D A Ln fI ad0) (hk : dd_chk1 own nL (pc, .ior, len, x, y, z, k) pl = true) (hd : decode cc pc = .ok (.ior, len)) (hs : dd_stp (pc, .ior, len, x, y, z, k) ls st M = some cf') (hS : dd_St D A s Ln fI ad0 ad tA M H locs) (hL : dd_LV ad ls nL lsC) (kk : dd_K1 p l e R s m args below meth c D A Ln fI ad0 nL c0 s0 Q ad tA M cf') : W p l e R s m args below meth c H locs (dd_nc M - c0) (dd_ns M - s0) Q (F0 m pc lsC (st.map (dd_cv ad))) := by
  obtain ⟨hx, hb, hml, hown, hts, hK, hA, hF⟩ := hC
  simp only [dd_chk1, decide_eq_true_eq, Bool.and_eq_true] at hk
  simp only [dd_stp] at hs
  subst hk
  split at hs
  · cases hs
    exact lv_ior hx hb hd (kk ad tA H locs lsC hS hL (dd_Ext.rf ad tA M M))
  · cases hs

theorem dd_i_ixor  (hC : dd_Cx p s m args c cc own nL D A Ln fI ad0) (hk : dd_chk1 own nL (pc, .ixor, len, x, y, z, k) pl = true) (hd : decode cc pc = .ok (.ixor, len)) (hs : dd_stp (pc, .ixor, len, x, y, z, k) ls st M = some cf') (hS : dd_St D A s Ln fI ad0 ad tA M H locs) (hL : dd_LV ad ls nL lsC) (kk : dd_K1 p l e R s m args below meth c D A Ln fI ad0 nL c0 s0 Q ad tA M cf') : W p l e R s m args below meth c H locs (dd_nc M - c0) (dd_ns M - s0) Q (F0 m pc lsC (st.map (dd_cv ad))) := by
  obtain ⟨hx, hb, hml, hown, hts, hK, hA, hF⟩ := hC
  simp only [dd_chk1, decide_eq_true_eq, Bool.and_eq_true] at hk
  simp only [dd_stp] at hs
  subst hk
  split at hs
  · cases hs
    exact lv_ixor hx hb hd (kk ad tA H locs lsC hS hL (dd_Ext.rf ad tA M M))
  · cases hs

theorem dd_i_ishl  (hC : dd_Cx p s m args c cc own nL D A Ln fI ad0) (hk : dd_chk1 own nL (pc, .ishl, len, x, y, z, k) pl = true) (hd : decode cc pc = .ok (.ishl, len)) (hs : dd_stp (pc, .ishl, len, x, y, z, k) ls st M = some cf') (hS : dd_St D A s Ln fI ad0 ad tA M H locs) (hL : dd_LV ad ls nL lsC) (kk : dd_K1 p l e R s m args below meth c D A Ln fI ad0 nL c0 s0 Q ad tA M cf') : W p l e R s m args below meth c H locs (dd_nc M - c0) (dd_ns M - s0) Q (F0 m pc lsC (st.map (dd_cv ad))) := by
  obtain ⟨hx, hb, hml, hown, hts, hK, hA, hF⟩ := hC
  simp only [dd_chk1, decide_eq_true_eq, Bool.and_eq_true] at hk
  simp only [dd_stp] at hs
  subst hk
  split at hs
  · cases hs
    exact lv_ishl hx hb hd (kk ad tA H locs lsC hS hL (dd_Ext.rf ad tA M M))
  · cases hs

theorem dd_i_ishr  (hC : dd_Cx p s m args c cc own nL D A Ln fI ad0) (hk : dd_chk1 own nL (pc, .ishr, len, x, y, z, k) pl = true) (hd : decode cc pc = .ok (.ishr, len)) (hs : dd_stp (pc, .ishr, len, x, y, z, k) ls st M = some cf') (hS : dd_St D A s Ln fI ad0 ad tA M H locs) (hL : dd_LV ad ls nL lsC) (kk : dd_K1 p l e R s m args below meth c D A Ln fI ad0 nL c0 s0 Q ad tA M cf') : W p l e R s m args below meth c H locs (dd_nc M - c0) (dd_ns M - s0) Q (F0 m pc lsC (st.map (dd_cv ad))) := by
  obtain ⟨hx, hb, hml, hown, hts, hK, hA, hF⟩ := hC
  simp only [dd_chk1, decide_eq_true_eq, Bool.and_eq_true] at hk
  simp only [dd_stp] at hs
  subst hk
  split at hs
  · cases hs
    exact lv_ishr hx hb hd (kk ad tA H locs lsC hS hL (dd_Ext.rf ad tA M M))
  · cases hs

theorem dd_i_ineg  (hC : dd_Cx p s m args c cc own nL D A Ln fI ad0) (hk : dd_chk1 own nL (pc, .ineg, len, x, y, z, k) pl = true) (hd : decode cc pc = .ok (.ineg, len)) (hs : dd_stp (pc, .ineg, len, x, y, z, k) ls st M = some cf') (hS : dd_St D A s Ln fI ad0 ad tA M H locs) (hL : dd_LV ad ls nL lsC) (kk : dd_K1 p l e R s m args below meth c D A Ln fI ad0 nL c0 s0 Q ad tA M cf') : W p l e R s m args below meth c H locs (dd_nc M - c0) (dd_ns M - s0) Q (F0 m pc lsC (st.map (dd_cv ad))) := by
  obtain ⟨hx, hb, hml, hown, hts, hK, hA, hF⟩ := hC
  simp only [dd_chk1, decide_eq_true_eq, Bool.and_eq_true] at hk
  simp only [dd_stp] at hs
  subst hk
  split at hs
  · cases hs
    exact lv_ineg hx hb hd (kk ad tA H locs lsC hS hL (dd_Ext.rf ad tA M M))
  · cases hs

theorem dd_i_ladd  (hC : dd_Cx p s m args c cc own nL D A Ln fI ad0) (hk : dd_chk1 own nL (pc, .ladd, len, x, y, z, k) pl = true) (hd : decode cc pc = .ok (.ladd, len)) (hs : dd_stp (pc, .ladd, len, x, y, z, k) ls st M = some cf') (hS : dd_St D A s Ln fI ad0 ad tA M H locs) (hL : dd_LV ad ls nL lsC) (kk : dd_K1 p l e R s m args below meth c D A Ln fI ad0 nL c0 s0 Q ad tA M cf') : W p l e R s m args below meth c H locs (dd_nc M - c0) (dd_ns M - s0) Q (F0 m pc lsC (st.map (dd_cv ad))) := by
  obtain ⟨hx, hb, hml, hown, hts, hK, hA, hF⟩ := hC
  simp only [dd_chk1, decide_eq_true_eq, Bool.and_eq_true] at hk
  simp only [dd_stp] at hs
  subst hk
  split at hs
  · cases hs
    exact lv_ladd hx hb hd (kk ad tA H locs lsC hS hL (dd_Ext.rf ad tA M M))
  · cases hs

theorem dd_i_lsub  (hC : dd_Cx p s m args c cc own nL D A Ln fI ad0) (hk : dd_chk1 own nL (pc, .lsub, len, x, y, z, k) pl = true) (hd : decode cc pc = .ok (.lsub, len)) (hs : dd_stp (pc, .lsub, len, x, y, z, k) ls st M = some cf') (hS : dd_St D A s Ln fI ad0 ad tA M H locs) (hL : dd_LV ad ls nL lsC) (kk : dd_K1 p l e R s m args below meth c D A Ln fI ad0 nL c0 s0 Q ad tA M cf') : W p l e R s m args below meth c H locs (dd_nc M - c0) (dd_ns M - s0) Q (F0 m pc lsC (st.map (dd_cv ad))) := by
  obtain ⟨hx, hb, hml, hown, hts, hK, hA, hF⟩ := hC
  simp only [dd_chk1, decide_eq_true_eq, Bool.and_eq_true] at hk
  simp only [dd_stp] at hs
  subst hk
  split at hs
  · cases hs
    exact lv_lsub hx hb hd (kk ad tA H locs lsC hS hL (dd_Ext.rf ad tA M M))
  · cases hs

theorem dd_i_land  (hC : dd_Cx p s m args c cc own nL D A Ln fI ad0) (hk : dd_chk1 own nL (pc, .land, len, x, y, z, k) pl = true) (hd : decode cc pc = .ok (.land, len)) (hs : dd_stp (pc, .land, len, x, y, z, k) ls st M = some cf') (hS : dd_St D A s Ln fI ad0 ad tA M H locs) (hL : dd_LV ad ls nL lsC) (kk : dd_K1 p l e R s m args below meth c D A Ln fI ad0 nL c0 s0 Q ad tA M cf') : W p l e R s m args below meth c H locs (dd_nc M - c0) (dd_ns M - s0) Q (F0 m pc lsC (st.map (dd_cv ad))) := by
  obtain ⟨hx, hb, hml, hown, hts, hK, hA, hF⟩ := hC
  simp only [dd_chk1, decide_eq_true_eq, Bool.and_eq_true] at hk
  simp only [dd_stp] at hs
  subst hk
  split at hs
  · cases hs
    exact lv_land hx hb hd (kk ad tA H locs lsC hS hL (dd_Ext.rf ad tA M M))
  · cases hs

theorem dd_i_lor  (hC : dd_Cx p s m args c cc own nL D A Ln fI ad0) (hk : dd_chk1 own nL (pc, .lor, len, x, y, z, k) pl = true) (hd : decode cc pc = .ok (.lor, len)) (hs : dd_stp (pc, .lor, len, x, y, z, k) ls st M = some cf') (hS : dd_St D A s Ln fI ad0 ad tA M H locs) (hL : dd_LV ad ls nL lsC) (kk : dd_K1 p l e R s m args below meth c D A Ln fI ad0 nL c0 s0 Q ad tA M cf') : W p l e R s m args below meth c H locs (dd_nc M - c0) (dd_ns M - s0) Q (F0 m pc lsC (st.map (dd_cv ad))) := by
  obtain ⟨hx, hb, hml, hown, hts, hK, hA, hF⟩ := hC
  simp only [dd_chk1, decide_eq_true_eq, Bool.and_eq_true] at hk
  simp only [dd_stp] at hs
  subst hk
  split at hs
  · cases hs
    exact lv_lor hx hb hd (kk ad tA H locs lsC hS hL (dd_Ext.rf ad tA M M))
  · cases hs

theorem dd_i_lxor  (hC : dd_Cx p s m args c cc own nL D A Ln fI ad0) (hk : dd_chk1 own nL (pc, .lxor, len, x, y, z, k) pl = true) (hd : decode cc pc = .ok (.lxor, len)) (hs : dd_stp (pc, .lxor, len, x, y, z, k) ls st M = some cf') (hS : dd_St D A s Ln fI ad0 ad tA M H locs) (hL : dd_LV ad ls nL lsC) (kk : dd_K1 p l e R s m args below meth c D A Ln fI ad0 nL c0 s0 Q ad tA M cf') : W p l e R s m args below meth c H locs (dd_nc M - c0) (dd_ns M - s0) Q (F0 m pc lsC (st.map (dd_cv ad))) := by
  obtain ⟨hx, hb, hml, hown, hts, hK, hA, hF⟩ := hC
  simp only [dd_chk1, decide_eq_true_eq, Bool.and_eq_true] at hk
  simp only [dd_stp] at hs
  subst hk
  split at hs
  · cases hs
    exact lv_lxor hx hb hd (kk ad tA H locs lsC hS hL (dd_Ext.rf ad tA M M))
  · cases hs

theorem dd_i_lcmp  (hC : dd_Cx p s m args c cc own nL D A Ln fI ad0) (hk : dd_chk1 own nL (pc, .lcmp, len, x, y, z, k) pl = true) (hd : decode cc pc = .ok (.lcmp, len)) (hs : dd_stp (pc, .lcmp, len, x, y, z, k) ls st M = some cf') (hS : dd_St D A s Ln fI ad0 ad tA M H locs) (hL : dd_LV ad ls nL lsC) (kk : dd_K1 p l e R s m args below meth c D A Ln fI ad0 nL c0 s0 Q ad tA M cf') : W p l e R s m args below meth c H locs (dd_nc M - c0) (dd_ns M - s0) Q (F0 m pc lsC (st.map (dd_cv ad))) := by
  obtain ⟨hx, hb, hml, hown, hts, hK, hA, hF⟩ := hC
  simp only [dd_chk1, decide_eq_true_eq, Bool.and_eq_true] at hk
  simp only [dd_stp] at hs
  subst hk
  split at hs
  · cases hs
    exact W.lcmp hx hb hd (kk ad tA H locs lsC hS hL (dd_Ext.rf ad tA M M))
  · cases hs

theorem dd_i_iushr  (hC : dd_Cx p s m args c cc own nL D A Ln fI ad0) (hk : dd_chk1 own nL (pc, .iushr, len, x, y, z, k) pl = true) (hd : decode cc pc = .ok (.iushr, len)) (hs : dd_stp (pc, .iushr, len, x, y, z, k) ls st M = some cf') (hS : dd_St D A s Ln fI ad0 ad tA M H locs) (hL : dd_LV ad ls nL lsC) (kk : dd_K1 p l e R s m args below meth c D A Ln fI ad0 nL c0 s0 Q ad tA M cf') : W p l e R s m args below meth c H locs (dd_nc M - c0) (dd_ns M - s0) Q (F0 m pc lsC (st.map (dd_cv ad))) := by
  obtain ⟨hx, hb, hml, hown, hts, hK, hA, hF⟩ := hC
  simp only [dd_chk1, decide_eq_true_eq, Bool.and_eq_true] at hk
  simp only [dd_stp] at hs
  subst hk
  split at hs
  · cases hs
    exact lv_iushr hx hb hd rfl (kk ad tA H locs lsC hS hL (dd_Ext.rf ad tA M M))
  · cases hs

theorem dd_i_i2b  (hC : dd_Cx p s m args c cc own nL D A Ln fI ad0) (hk : dd_chk1 own nL (pc, .i2b, len, x, y, z, k) pl = true) (hd : decode cc pc = .ok (.i2b, len)) (hs : dd_stp (pc, .i2b, len, x, y, z, k) ls st M = some cf') (hS : dd_St D A s Ln fI ad0 ad tA M H locs) (hL : dd_LV ad ls nL lsC) (kk : dd_K1 p l e R s m args below meth c D A Ln fI ad0 nL c0 s0 Q ad tA M cf') : W p l e R s m args below meth c H locs (dd_nc M - c0) (dd_ns M - s0) Q (F0 m pc lsC (st.map (dd_cv ad))) := by
  obtain ⟨hx, hb, hml, hown, hts, hK, hA, hF⟩ := hC
  simp only [dd_chk1, decide_eq_true_eq, Bool.and_eq_true] at hk
  simp only [dd_stp] at hs
  subst hk
  split at hs
  · cases hs
    exact lv_i2b hx hb hd rfl (kk ad tA H locs lsC hS hL (dd_Ext.rf ad tA M M))
  · cases hs

theorem dd_i_i2c  (hC : dd_Cx p s m args c cc own nL D A Ln fI ad0) (hk : dd_chk1 own nL (pc, .i2c, len, x, y, z, k) pl = true) (hd : decode cc pc = .ok (.i2c, len)) (hs : dd_stp (pc, .i2c, len, x, y, z, k) ls st M = some cf') (hS : dd_St D A s Ln fI ad0 ad tA M H locs) (hL : dd_LV ad ls nL lsC) (kk : dd_K1 p l e R s m args below meth c D A Ln fI ad0 nL c0 s0 Q ad tA M cf') : W p l e R s m args below meth c H locs (dd_nc M - c0) (dd_ns M - s0) Q (F0 m pc lsC (st.map (dd_cv ad))) := by
  obtain ⟨hx, hb, hml, hown, hts, hK, hA, hF⟩ := hC
  simp only [dd_chk1, decide_eq_true_eq, Bool.and_eq_true] at hk
  simp only [dd_stp] at hs
  subst hk
  split at hs
  · cases hs
    exact lv_i2c hx hb hd rfl (kk ad tA H locs lsC hS hL (dd_Ext.rf ad tA M M))
  · cases hs

theorem dd_i_i2l  (hC : dd_Cx p s m args c cc own nL D A Ln fI ad0) (hk : dd_chk1 own nL (pc, .i2l, len, x, y, z, k) pl = true) (hd : decode cc pc = .ok (.i2l, len)) (hs : dd_stp (pc, .i2l, len, x, y, z, k) ls st M = some cf') (hS : dd_St D A s Ln fI ad0 ad tA M H locs) (hL : dd_LV ad ls nL lsC) (kk : dd_K1 p l e R s m args below meth c D A Ln fI ad0 nL c0 s0 Q ad tA M cf') : W p l e R s m args below meth c H locs (dd_nc M - c0) (dd_ns M - s0) Q (F0 m pc lsC (st.map (dd_cv ad))) := by
  obtain ⟨hx, hb, hml, hown, hts, hK, hA, hF⟩ := hC
  simp only [dd_chk1, decide_eq_true_eq, Bool.and_eq_true] at hk
  simp only [dd_stp] at hs
  subst hk
  split at hs
  · cases hs
    exact lv_i2l hx hb hd rfl (kk ad tA H locs lsC hS hL (dd_Ext.rf ad tA M M))
  · cases hs

theorem dd_i_l2i  (hC : dd_Cx p s m args c cc own nL D A Ln fI ad0) (hk : dd_chk1 own nL (pc, .l2i, len, x, y, z, k) pl = true) (hd : decode cc pc = .ok (.l2i, len)) (hs : dd_stp (pc, .l2i, len, x, y, z, k) ls st M = some cf') (hS : dd_St D A s Ln fI ad0 ad tA M H locs) (hL : dd_LV ad ls nL lsC) (kk : dd_K1 p l e R s m args below meth c D A Ln fI ad0 nL c0 s0 Q ad tA M cf') : W p l e R s m args below meth c H locs (dd_nc M - c0) (dd_ns M - s0) Q (F0 m pc lsC (st.map (dd_cv ad))) := by
  obtain ⟨hx, hb, hml, hown, hts, hK, hA, hF⟩ := hC
  simp only [dd_chk1, decide_eq_true_eq, Bool.and_eq_true] at hk
  simp only [dd_stp] at hs
  subst hk
  split at hs
  · cases hs
    exact lv_l2i hx hb hd rfl (kk ad tA H locs lsC hS hL (dd_Ext.rf ad tA M M))
  · cases hs

theorem dd_i_lshl  (hC : dd_Cx p s m args c cc own nL D A Ln fI ad0) (hk : dd_chk1 own nL (pc, .lshl, len, x, y, z, k) pl = true) (hd : decode cc pc = .ok (.lshl, len)) (hs : dd_stp (pc, .lshl, len, x, y, z, k) ls st M = some cf') (hS : dd_St D A s Ln fI ad0 ad tA M H locs) (hL : dd_LV ad ls nL lsC) (kk : dd_K1 p l e R s m args below meth c D A Ln fI ad0 nL c0 s0 Q ad tA M cf') : W p l e R s m args below meth c H locs (dd_nc M - c0) (dd_ns M - s0) Q (F0 m pc lsC (st.map (dd_cv ad))) := by
  obtain ⟨hx, hb, hml, hown, hts, hK, hA, hF⟩ := hC
  simp only [dd_chk1, decide_eq_true_eq, Bool.and_eq_true] at hk
  simp only [dd_stp] at hs
  subst hk
  split at hs
  · cases hs
    exact lv_lshl hx hb hd rfl (kk ad tA H locs lsC hS hL (dd_Ext.rf ad tA M M))
  · cases hs

theorem dd_i_lushr  (hC : dd_Cx p s m args c cc own nL D A Ln fI ad0) (hk : dd_chk1 own nL (pc, .lushr, len, x, y, z, k) pl = true) (hd : decode cc pc = .ok (.lushr, len)) (hs : dd_stp (pc, .lushr, len, x, y, z, k) ls st M = some cf') (hS : dd_St D A s Ln fI ad0 ad tA M H locs) (hL : dd_LV ad ls nL lsC) (kk : dd_K1 p l e R s m args below meth c D A Ln fI ad0 nL c0 s0 Q ad tA M cf') : W p l e R s m args below meth c H locs (dd_nc M - c0) (dd_ns M - s0) Q (F0 m pc lsC (st.map (dd_cv ad))) := by
  obtain ⟨hx, hb, hml, hown, hts, hK, hA, hF⟩ := hC
  simp only [dd_chk1, decide_eq_true_eq, Bool.and_eq_true] at hk
  simp only [dd_stp] at hs
  subst hk
  split at hs
  · cases hs
    exact lv_lushr hx hb hd rfl (kk ad tA H locs lsC hS hL (dd_Ext.rf ad tA M M))
  · cases hs

theorem dd_i_idiv  (hC : dd_Cx p s m args c cc own nL D A Ln fI ad0) (hk : dd_chk1 own nL (pc, .idiv, len, x, y, z, k) pl = true) (hd : decode cc pc = .ok (.idiv, len)) (hs : dd_stp (pc, .idiv, len, x, y, z, k) ls st M = some cf') (hS : dd_St D A s Ln fI ad0 ad tA M H locs) (hL : dd_LV ad ls nL lsC) (kk : dd_K1 p l e R s m args below meth c D A Ln fI ad0 nL c0 s0 Q ad tA M cf') : W p l e R s m args below meth c H locs (dd_nc M - c0) (dd_ns M - s0) Q (F0 m pc lsC (st.map (dd_cv ad))) := by
  obtain ⟨hx, hb, hml, hown, hts, hK, hA, hF⟩ := hC
  simp only [dd_chk1, decide_eq_true_eq, Bool.and_eq_true] at hk
  simp only [dd_stp] at hs
  subst hk
  split at hs
  · split at hs
    · cases hs
    · rename_i h0
      cases hs
      exact lv_idiv hx hb hd h0 (kk ad tA H locs lsC hS hL (dd_Ext.rf ad tA M M))
  · cases hs

theorem dd_i_irem  (hC : dd_Cx p s m args c cc own nL D A Ln fI ad0) (hk : dd_chk1 own nL (pc, .irem, len, x, y, z, k) pl = true) (hd : decode cc pc = .ok (.irem, len)) (hs : dd_stp (pc, .irem, len, x, y, z, k) ls st M = some cf') (hS : dd_St D A s Ln fI ad0 ad tA M H locs) (hL : dd_LV ad ls nL lsC) (kk : dd_K1 p l e R s m args below meth c D A Ln fI ad0 nL c0 s0 Q ad tA M cf') : W p l e R s m args below meth c H locs (dd_nc M - c0) (dd_ns M - s0) Q (F0 m pc lsC (st.map (dd_cv ad))) := by
  obtain ⟨hx, hb, hml, hown, hts, hK, hA, hF⟩ := hC
  simp only [dd_chk1, decide_eq_true_eq, Bool.and_eq_true] at hk
  simp only [dd_stp] at hs
  subst hk
  split at hs
  · split at hs
    · cases hs
    · rename_i h0
      cases hs
      exact lv_irem hx hb hd h0 (kk ad tA H locs lsC hS hL (dd_Ext.rf ad tA M M))
  · cases hs

theorem dd_i_dup  (hC : dd_Cx p s m args c cc own nL D A Ln fI ad0) (hk : dd_chk1 own nL (pc, .dup, len, x, y, z, k) pl = true) (hd : decode cc pc = .ok (.dup, len)) (hs : dd_stp (pc, .dup, len, x, y, z, k) ls st M = some cf') (hS : dd_St D A s Ln fI ad0 ad tA M H locs) (hL : dd_LV ad ls nL lsC) (kk : dd_K1 p l e R s m args below meth c D A Ln fI ad0 nL c0 s0 Q ad tA M cf') : W p l e R s m args below meth c H locs (dd_nc M - c0) (dd_ns M - s0) Q (F0 m pc lsC (st.map (dd_cv ad))) := by
  obtain ⟨hx, hb, hml, hown, hts, hK, hA, hF⟩ := hC
  simp only [dd_chk1, decide_eq_true_eq, Bool.and_eq_true] at hk
  simp only [dd_stp] at hs
  subst hk
  split at hs
  · cases hs
    exact lv_dup hx hb hd rfl (kk ad tA H locs lsC hS hL (dd_Ext.rf ad tA M M))
  · cases hs
    exact lv_dup hx hb hd rfl (kk ad tA H locs lsC hS hL (dd_Ext.rf ad tA M M))
  · cases hs

theorem dd_i_pop  (hC : dd_Cx p s m args c cc own nL D A Ln fI ad0) (hk : dd_chk1 own nL (pc, .pop, len, x, y, z, k) pl = true) (hd : decode cc pc = .ok (.pop, len)) (hs : dd_stp (pc, .pop, len, x, y, z, k) ls st M = some cf') (hS : dd_St D A s Ln fI ad0 ad tA M H locs) (hL : dd_LV ad ls nL lsC) (kk : dd_K1 p l e R s m args below meth c D A Ln fI ad0 nL c0 s0 Q ad tA M cf') : W p l e R s m args below meth c H locs (dd_nc M - c0) (dd_ns M - s0) Q (F0 m pc lsC (st.map (dd_cv ad))) := by
  obtain ⟨hx, hb, hml, hown, hts, hK, hA, hF⟩ := hC
  simp only [dd_chk1, decide_eq_true_eq, Bool.and_eq_true] at hk
  simp only [dd_stp] at hs
  subst hk
  split at hs
  · cases hs
    exact lv_pop hx hb hd rfl (kk ad tA H locs lsC hS hL (dd_Ext.rf ad tA M M))
  · cases hs
    exact lv_pop hx hb hd rfl (kk ad tA H locs lsC hS hL (dd_Ext.rf ad tA M M))
  · cases hs

theorem dd_i_dup2  (hC : dd_Cx p s m args c cc own nL D A Ln fI ad0) (hk : dd_chk1 own nL (pc, .dup2, len, x, y, z, k) pl = true) (hd : decode cc pc = .ok (.dup2, len)) (hs : dd_stp (pc, .dup2, len, x, y, z, k) ls st M = some cf') (hS : dd_St D A s Ln fI ad0 ad tA M H locs) (hL : dd_LV ad ls nL lsC) (kk : dd_K1 p l e R s m args below meth c D A Ln fI ad0 nL c0 s0 Q ad tA M cf') : W p l e R s m args below meth c H locs (dd_nc M - c0) (dd_ns M - s0) Q (F0 m pc lsC (st.map (dd_cv ad))) := by
  obtain ⟨hx, hb, hml, hown, hts, hK, hA, hF⟩ := hC
  simp only [dd_chk1, decide_eq_true_eq, Bool.and_eq_true] at hk
  simp only [dd_stp] at hs
  subst hk
  split at hs
  · cases hs
    exact lv_dup2_11 hx hb hd rfl rfl (kk ad tA H locs lsC hS hL (dd_Ext.rf ad tA M M))
  · cases hs
    exact lv_dup2_11 hx hb hd rfl rfl (kk ad tA H locs lsC hS hL (dd_Ext.rf ad tA M M))
  · cases hs

theorem dd_i_goto (n : Int) (hC : dd_Cx p s m args c cc own nL D A Ln fI ad0) (hk : dd_chk1 own nL (pc, (.goto n), len, x, y, z, k) pl = true) (hd : decode cc pc = .ok ((.goto n), len)) (hs : dd_stp (pc, (.goto n), len, x, y, z, k) ls st M = some cf') (hS : dd_St D A s Ln fI ad0 ad tA M H locs) (hL : dd_LV ad ls nL lsC) (kk : dd_K1 p l e R s m args below meth c D A Ln fI ad0 nL c0 s0 Q ad tA M cf') : W p l e R s m args below meth c H locs (dd_nc M - c0) (dd_ns M - s0) Q (F0 m pc lsC (st.map (dd_cv ad))) := by
  obtain ⟨hx, hb, hml, hown, hts, hK, hA, hF⟩ := hC
  simp only [dd_chk1, decide_eq_true_eq, Bool.and_eq_true] at hk
  simp only [dd_stp] at hs
  obtain ⟨rfl, h2⟩ := hk
  cases hs
  exact lv_goto hx hb hd h2 (kk ad tA H locs lsC hS hL (dd_Ext.rf ad tA M M))

theorem dd_i_ifCond (cd : ClassFile.Cond) (n : Int) (hC : dd_Cx p s m args c cc own nL D A Ln fI ad0) (hk : dd_chk1 own nL (pc, (.ifCond cd n), len, x, y, z, k) pl = true) (hd : decode cc pc = .ok ((.ifCond cd n), len)) (hs : dd_stp (pc, (.ifCond cd n), len, x, y, z, k) ls st M = some cf') (hS : dd_St D A s Ln fI ad0 ad tA M H locs) (hL : dd_LV ad ls nL lsC) (kk : dd_K1 p l e R s m args below meth c D A Ln fI ad0 nL c0 s0 Q ad tA M cf') : W p l e R s m args below meth c H locs (dd_nc M - c0) (dd_ns M - s0) Q (F0 m pc lsC (st.map (dd_cv ad))) := by
  obtain ⟨hx, hb, hml, hown, hts, hK, hA, hF⟩ := hC
  simp only [dd_chk1, decide_eq_true_eq, Bool.and_eq_true] at hk
  simp only [dd_stp] at hs
  obtain ⟨rfl, h2⟩ := hk
  split at hs
  · cases cd
    case eq =>
      simp only at hs
      split at hs
      · rename_i hc
        cases hs
        exact lv_if_eq hx hb hd h2 (fun _ => (kk ad tA H locs lsC hS hL (dd_Ext.rf ad tA M M))) (fun h => absurd hc h)
      · rename_i hc
        cases hs
        exact lv_if_eq hx hb hd h2 (fun h => absurd h hc) (fun _ => (kk ad tA H locs lsC hS hL (dd_Ext.rf ad tA M M)))
    case ne =>
      simp only at hs
      split at hs
      · rename_i hc
        cases hs
        exact lv_if_ne hx hb hd h2 (fun h => absurd hc h) (fun _ => (kk ad tA H locs lsC hS hL (dd_Ext.rf ad tA M M)))
      · rename_i hc
        cases hs
        exact lv_if_ne hx hb hd h2 (fun _ => (kk ad tA H locs lsC hS hL (dd_Ext.rf ad tA M M))) (fun h => absurd h hc)
    case lt =>
      simp only at hs
      split at hs
      · rename_i hc
        cases hs
        exact lv_if_lt hx hb hd h2 (fun _ => (kk ad tA H locs lsC hS hL (dd_Ext.rf ad tA M M))) (fun h => absurd hc h)
      · rename_i hc
        cases hs
        exact lv_if_lt hx hb hd h2 (fun h => absurd h hc) (fun _ => (kk ad tA H locs lsC hS hL (dd_Ext.rf ad tA M M)))
    case ge =>
      simp only at hs
      split at hs
      · rename_i hc
        cases hs
        exact lv_if_ge hx hb hd h2 (fun _ => (kk ad tA H locs lsC hS hL (dd_Ext.rf ad tA M M))) (fun h => absurd hc h)
      · rename_i hc
        cases hs
        exact lv_if_ge hx hb hd h2 (fun h => absurd h hc) (fun _ => (kk ad tA H locs lsC hS hL (dd_Ext.rf ad tA M M)))
    case gt =>
      simp only at hs
      split at hs
      · rename_i hc
        cases hs
        exact lv_if_gt hx hb hd h2 (fun _ => (kk ad tA H locs lsC hS hL (dd_Ext.rf ad tA M M))) (fun h => absurd hc h)
      · rename_i hc
        cases hs
        exact lv_if_gt hx hb hd h2 (fun h => absurd h hc) (fun _ => (kk ad tA H locs lsC hS hL (dd_Ext.rf ad tA M M)))
    case le =>
      simp only at hs
      split at hs
      · rename_i hc
        cases hs
        exact lv_if_le hx hb hd h2 (fun _ => (kk ad tA H locs lsC hS hL (dd_Ext.rf ad tA M M))) (fun h => absurd hc h)
      · rename_i hc
        cases hs
        exact lv_if_le hx hb hd h2 (fun h => absurd h hc) (fun _ => (kk ad tA H locs lsC hS hL (dd_Ext.rf ad tA M M)))
  · cases hs

theorem dd_i_if_icmp (cd : ClassFile.Cond) (n : Int) (hC : dd_Cx p s m args c cc own nL D A Ln fI ad0) (hk : dd_chk1 own nL (pc, (.if_icmp cd n), len, x, y, z, k) pl = true) (hd : decode cc pc = .ok ((.if_icmp cd n), len)) (hs : dd_stp (pc, (.if_icmp cd n), len, x, y, z, k) ls st M = some cf') (hS : dd_St D A s Ln fI ad0 ad tA M H locs) (hL : dd_LV ad ls nL lsC) (kk : dd_K1 p l e R s m args below meth c D A Ln fI ad0 nL c0 s0 Q ad tA M cf') : W p l e R s m args below meth c H locs (dd_nc M - c0) (dd_ns M - s0) Q (F0 m pc lsC (st.map (dd_cv ad))) := by
  obtain ⟨hx, hb, hml, hown, hts, hK, hA, hF⟩ := hC
  simp only [dd_chk1, decide_eq_true_eq, Bool.and_eq_true] at hk
  simp only [dd_stp] at hs
  obtain ⟨rfl, h2⟩ := hk
  split at hs
  · cases cd
    case eq =>
      simp only at hs
      split at hs
      · rename_i hc
        cases hs
        exact lv_icmp_eq hx hb hd h2 (fun _ => (kk ad tA H locs lsC hS hL (dd_Ext.rf ad tA M M))) (fun h => absurd hc h)
      · rename_i hc
        cases hs
        exact lv_icmp_eq hx hb hd h2 (fun h => absurd h hc) (fun _ => (kk ad tA H locs lsC hS hL (dd_Ext.rf ad tA M M)))
    case ne =>
      simp only at hs
      split at hs
      · rename_i hc
        cases hs
        exact lv_icmp_ne hx hb hd h2 (fun h => absurd hc h) (fun _ => (kk ad tA H locs lsC hS hL (dd_Ext.rf ad tA M M)))
      · rename_i hc
        cases hs
        exact lv_icmp_ne hx hb hd h2 (fun _ => (kk ad tA H locs lsC hS hL (dd_Ext.rf ad tA M M))) (fun h => absurd h hc)
    case lt =>
      simp only at hs
      split at hs
      · rename_i hc
        cases hs
        exact lv_icmp_lt hx hb hd h2 (fun _ => (kk ad tA H locs lsC hS hL (dd_Ext.rf ad tA M M))) (fun h => absurd hc h)
      · rename_i hc
        cases hs
        exact lv_icmp_lt hx hb hd h2 (fun h => absurd h hc) (fun _ => (kk ad tA H locs lsC hS hL (dd_Ext.rf ad tA M M)))
    case ge =>
      simp only at hs
      split at hs
      · rename_i hc
        cases hs
        exact lv_icmp_ge hx hb hd h2 (fun _ => (kk ad tA H locs lsC hS hL (dd_Ext.rf ad tA M M))) (fun h => absurd hc h)
      · rename_i hc
        cases hs
        exact lv_icmp_ge hx hb hd h2 (fun h => absurd h hc) (fun _ => (kk ad tA H locs lsC hS hL (dd_Ext.rf ad tA M M)))
    case gt =>
      simp only at hs
      split at hs
      · rename_i hc
        cases hs
        exact lv_icmp_gt hx hb hd h2 (fun _ => (kk ad tA H locs lsC hS hL (dd_Ext.rf ad tA M M))) (fun h => absurd hc h)
      · rename_i hc
        cases hs
        exact lv_icmp_gt hx hb hd h2 (fun h => absurd h hc) (fun _ => (kk ad tA H locs lsC hS hL (dd_Ext.rf ad tA M M)))
    case le =>
      simp only at hs
      split at hs
      · rename_i hc
        cases hs
        exact lv_icmp_le hx hb hd h2 (fun _ => (kk ad tA H locs lsC hS hL (dd_Ext.rf ad tA M M))) (fun h => absurd hc h)
      · rename_i hc
        cases hs
        exact lv_icmp_le hx hb hd h2 (fun h => absurd h hc) (fun _ => (kk ad tA H locs lsC hS hL (dd_Ext.rf ad tA M M)))
  · cases hs

theorem dd_i_tableswitch (dflt lo hi : Int) (offs : Array Int) (hC : dd_Cx p s m args c cc own nL D A Ln fI ad0) (hk : dd_chk1 own nL (pc, (.tableswitch dflt lo hi offs), len, x, y, z, k) pl = true) (hd : decode cc pc = .ok ((.tableswitch dflt lo hi offs), len)) (hs : dd_stp (pc, (.tableswitch dflt lo hi offs), len, x, y, z, k) ls st M = some cf') (hS : dd_St D A s Ln fI ad0 ad tA M H locs) (hL : dd_LV ad ls nL lsC) (kk : dd_K1 p l e R s m args below meth c D A Ln fI ad0 nL c0 s0 Q ad tA M cf') : W p l e R s m args below meth c H locs (dd_nc M - c0) (dd_ns M - s0) Q (F0 m pc lsC (st.map (dd_cv ad))) := by
  obtain ⟨hx, hb, hml, hown, hts, hK, hA, hF⟩ := hC
  simp only [dd_chk1, decide_eq_true_eq, Bool.and_eq_true] at hk
  simp only [dd_stp] at hs
  split at hs
  · split at hs
    · rename_i h0
      cases hs
      exact lv_tableOut hx hb hd h0 hk (kk ad tA H locs lsC hS hL (dd_Ext.rf ad tA M M))
    · rename_i h0
      split at hs
      · rename_i off ho
        split at hs
        · rename_i h1
          cases hs
          exact lv_tableIn hx hb hd (fun q => h0 (Or.inl q)) (fun q => h0 (Or.inr q)) ho (by omega) (kk ad tA H locs lsC hS hL (dd_Ext.rf ad tA M M))
        · cases hs
      · cases hs
  · cases hs

end DSI
