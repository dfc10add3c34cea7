theorem dd_blind {D : va_G} {Ln : Nat} {fI : Nat → Nat → Int32} {ad0 ad : Nat → Nat} {tA : Nat → ClassId} {M : dd_M} {sz : Nat} {av : List Value} : FrameBlind (va_Pc av (dd_Bw D Ln fI ad0 ad tA M sz)) := by
  intro a U g mk h
  obtain ⟨h0, h1, h2, h3, h4, h5, h6, h7, h8, h9⟩ := h
  have hal : U.vm.Alike (U.calling g mk a).vm := Vm.Alike.refl U.vm
  exact ⟨h0, h1, h2, h3, h4, va_K.moved hal h5, h6, h7.moved hal, dd_FG.to (locs := []) h8 va_S.rf (State.WarmedH.refl U) rfl (fun _ h => h), h9⟩
theorem dd_Bw.of {p : Program} {s : State} {m : MethodId} {args : Array Value} {c : Code} {cc : ByteArray} {own : String} {nL : Nat} {D : va_G} {A : Nat → Prop} {Ln : Nat} {fI : Nat → Nat → Int32} {ad0 ad : Nat → Nat} {tA : Nat → ClassId} {M : dd_M} {H : Heap} {locs : List Loc} (hC : dd_Cx p s m args c cc own nL D A Ln fI ad0) (hS : dd_St D A s Ln fI ad0 ad tA M H locs) : (∀ q, va_A (dd_ws ad tA M) H.size q → A q) ∧ ∀ U : State, U.heap = H → s.WarmedH U.vm → dd_Bw D Ln fI ad0 ad tA M H.size U := by
  have hA1 : ∀ q, va_A (dd_ws ad tA M) H.size q → A q := by
    rintro q (⟨k, e, h⟩ | h)
    · exact hS.2.2.2.1.2 k _ h
    · exact hC.2.2.2.2.2.2.1 q (Nat.le_trans hS.2.2.2.2.1.1 h)
  refine ⟨hA1, fun U hU hW => ?_⟩
  exact ⟨by rw [hU], hS.1, hS.2.1, by rw [hU]; exact hS.2.2.1, va_K.moved hW.alike hC.2.2.2.2.2.1, hS.2.2.2.1.weaken (fun _ _ _ _ => trivial), hS.2.2.2.2.2.1.moved hW.alike, dd_FG.to hC.2.2.2.2.2.2.2 hS.2.2.2.2.1 hW hU hA1, hS.2.2.2.2.2.2⟩
section DNX
variable {p : Program} {l : Launch} {e : Env} {R : Room} {s : State} {m : MethodId} {args : Array Value} {below : List Frame} {meth : Method} {c : Code} {D : va_G} {A : Nat → Prop} {Ln : Nat} {fI : Nat → Nat → Int32} {ad0 : Nat → Nat} {c0 s0 : Nat} {Q : State → Prop} {y : Nat} {ad ad' : Nat → Nat} {tA tA' : Nat → ClassId} {M M' : dd_M} {o : dd_O}
theorem dd_HRet.next (h : dd_HRet p l e R s m args below meth c D A Ln fI ad0 c0 s0 Q y ad tA M o) (hE : dd_Ext ad ad' tA tA' M M') (l1 : dd_le M M') (l2 : dd_le M' o.2.2) : dd_HRet p l e R s m args below meth c D A Ln fI ad0 c0 s0 Q y ad' tA' M' o := fun pc i st ad2 tA2 H' locs' lsC' h1 h2 h3 h4 h5 => h pc i st ad2 tA2 H' locs' lsC' h1 h2 h3 h4 (hE.tr h5 l1 l2)
theorem dd_HThM.next (h : dd_HThM p l e R s m args below meth c D A Ln fI ad0 c0 s0 Q y ad tA M o) (hE : dd_Ext ad ad' tA tA' M M') (l1 : dd_le M M') : dd_HThM p l e R s m args below meth c D A Ln fI ad0 c0 s0 Q y ad' tA' M' o := fun en st ad2 tA2 H' locs' lsC' M1 h1 h2 h3 h4 h5 h6 h7 h8 h9 h10 h11 => h en st ad2 tA2 H' locs' lsC' M1 h1 h2 h3 h4 h5 h6 h7 (l1.tr h8) h9 h10 (hE.tr h11 l1 h8)
theorem dd_HThX.next (h : dd_HThX p l e R s m args below meth c D A Ln fI ad0 c0 s0 Q y ad tA M o) (hE : dd_Ext ad ad' tA tA' M M') (l1 : dd_le M M') (l2 : dd_le M' o.2.2) : dd_HThX p l e R s m args below meth c D A Ln fI ad0 c0 s0 Q y ad' tA' M' o := fun k ce q9 pc rest ad2 tA2 H1 locs1 lsC' h1 h2 h3 h4 h5 h6 h7 => h k ce q9 pc rest ad2 tA2 H1 locs1 lsC' h1 h2 h3 (hE.tr h4 l1 l2) h5 h6 h7
end DNX
/-- the receiver's cell -/
theorem dd_rcv {p : Program} {s : State} {m : MethodId} {args : Array Value} {c : Code} {cc : ByteArray} {own : String} {nL : Nat} {D : va_G} {A : Nat → Prop} {Ln : Nat} {fI : Nat → Nat → Int32} {ad0 ad : Nat → Nat} {tA : Nat → ClassId} {M : dd_M} {H : Heap} {locs : List Loc} {a : Nat} (hC : dd_Cx p s m args c cc own nL D A Ln fI ad0) (hS : dd_St D A s Ln fI ad0 ad tA M H locs) (hk : dd_kd M a = 50 ∨ dd_kd M a < 11) : ∃ cell : Cell, H[ad a]? = some cell ∧ cell.vm.isStatics = false ∧ s.vm.findClass (dd_clsn (dd_kd M a)) = some cell.cls := by
  rcases hk with hk | hk
  · obtain ⟨i, t, rfl, ht, -, -⟩ := dd_str50 hS hC.2.2.2.2.2.2.2 hk
    obtain ⟨cell, h1, h2, h3, -⟩ := (hC.2.2.2.2.2.2.2.1 i t ht).1.kept hS.2.2.2.2.1.2.1
    rw [hS.2.2.2.2.2.2 _ (by omega), hk]
    exact ⟨cell, h1, h2, h3⟩
  · have hT := dd_T_at hk
    obtain ⟨-, hw⟩ := dd_obj hS rfl hk (show dd_T (dd_kd M a) = ((dd_T (dd_kd M a)).1, (dd_T (dd_kd M a)).2.1, (dd_T (dd_kd M a)).2.2) from rfl)
    have h9 := va_recv hC.2.2.2.2.2.1 hS.2.2.1 hT hw
    unfold dd_clsn
    rw [if_neg (by omega)]
    exact h9
