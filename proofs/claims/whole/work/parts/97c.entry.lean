def dd_spl : List (List Nat) := [[86, 87, 88, 89, 90, 91, 92, 93], [94, 95, 96, 97, 98, 99, 100], [101, 102, 103, 104, 105, 106, 107, 108], [109, 110, 111, 112, 113, 114], [115, 116, 117, 118, 119, 120, 121], [122, 123, 124, 125, 126, 127, 128, 129, 130, 131], [132, 133, 134, 135, 136, 137, 138, 139, 140], [141, 142, 143, 144, 145, 146, 147], [148, 149, 150, 151, 152, 153, 154, 155], [156, 157, 158, 159, 160, 161, 162], [163, 164, 165, 166, 167], [168, 169, 170, 171, 172], [173, 174, 175, 176, 177, 178, 179, 180], [181, 182, 183, 184, 185, 186, 187], [188, 189, 190, 191, 192, 193, 194, 195], [196, 197, 198, 199, 200, 201, 202], [203, 204, 205, 206, 207, 208], [209, 210, 211, 212, 213, 214, 215, 216], [218, 219, 220, 221, 222, 223, 224], [226, 227, 228, 229, 230, 231], [232, 233, 234, 235, 236, 237, 238, 239, 240], [241, 242, 243, 244, 245, 246, 247], [249, 250, 251, 252, 253, 254, 255, 256, 257], [258, 259, 260, 261, 262, 263, 264, 265, 266], [267, 268, 269, 270, 271, 272, 273, 274], [275, 276, 277, 278, 279, 280, 281, 282], [283, 284, 285, 286, 287, 288, 289, 290, 291], [292, 293, 294, 295, 296, 297, 298, 299], [301, 302, 303, 304, 305, 306, 307, 308, 309], [310, 311, 312, 313, 314, 315, 316, 317, 318, 319, 320, 321, 322, 323, 324, 325, 326, 327, 328, 329, 330], [331, 332, 333, 334, 335, 336, 337, 338, 339, 340, 341, 342, 343, 344, 345, 346, 347, 348, 349, 350, 351, 352, 353, 354, 355, 356], [357, 358, 359, 360, 361, 362, 363, 364, 365, 366, 367, 368, 369, 370, 371, 372, 373, 374, 375, 376, 377, 378, 379, 380, 381], [382, 383, 384, 385, 386, 387, 388, 389, 390, 391, 392, 393, 394, 395, 396, 397, 398, 399, 400, 401, 402, 403, 404, 405, 406, 407, 408, 409], [410, 411, 412, 413, 414, 415, 416, 417, 418, 419, 420, 421, 422, 423, 424, 425, 426, 427, 428, 429, 430, 431, 432, 433, 434], [435, 436, 437, 438, 439, 440, 441, 442, 443, 444, 445, 446, 447, 448, 449, 450, 451, 452, 453, 454, 455, 456, 457, 458, 459], [460, 461, 462, 463, 464, 465, 466, 467, 468, 469, 470, 471, 472, 473, 474, 475, 476, 477, 478, 479, 480, 481, 482, 483], [484, 485, 486, 487, 488, 489, 490, 491, 492, 493, 494, 495, 496, 497, 498, 499, 500, 501, 502, 503, 504, 505, 506, 507, 508, 509, 510], [511, 512, 513, 514, 515, 516, 517, 518, 519, 520, 521, 522, 523, 524, 525, 526, 527, 528, 529, 530, 531, 532], [533, 534, 535, 536, 537, 538, 539, 540, 541, 542, 543, 544, 545, 546, 547, 548, 549, 550, 551], [552, 553, 554, 555, 556, 557, 558, 559, 560, 561, 562, 563, 564, 565, 566, 567, 568, 569, 570, 571, 572, 573, 574, 575, 576, 577, 578, 579, 580, 581], [582, 583, 584, 585, 586, 587, 588, 589, 590, 591, 592, 593], [594, 595, 596, 597, 598, 599, 600, 601, 602, 603, 604, 605, 606, 607, 608, 609, 610, 611, 612, 613, 614, 615, 616, 617, 618, 619, 620, 621, 622, 623, 624, 625], [626, 627, 628, 629, 630, 631, 632, 633, 634, 635, 636, 637, 638, 639, 640, 641, 642, 643, 644, 645, 646, 647, 648, 649, 650, 651, 652, 653, 654, 655, 656, 657, 658, 659, 660, 661, 662, 663, 664, 665, 666, 667, 668, 669, 670, 671, 672], [673, 674, 675, 676, 677, 678, 679, 680, 681, 682, 683, 684, 685, 686, 687, 688, 689, 690, 691, 692, 693, 694, 695, 696], [697, 698, 699, 700, 701, 702, 703, 704, 705, 706, 707, 708, 709, 710, 711, 712], [713, 714, 715, 716, 717, 718, 719, 720, 721, 722, 723, 724, 725, 726, 727, 728, 729, 730, 731, 732, 733, 734, 735, 736, 737, 738, 739], [740, 741, 742, 743, 744, 745, 746, 747], [750, 751, 752, 753, 754, 755, 756], [759, 760, 761, 762, 763, 764], [766, 767, 768, 769, 770, 771, 772, 773, 774], [776, 777, 778, 779, 780, 781, 782], [785, 786, 787, 788, 789, 790, 791, 792, 793], [795, 796, 797, 798, 799, 800, 801, 802, 803], [805, 806, 807, 808, 809, 810, 811, 812], [814, 815, 816, 817, 818, 819, 820, 821], [823, 824, 825, 826, 827, 828, 829, 830, 831], [833, 834, 835, 836, 837, 838, 839, 840], [843, 844, 845, 846, 847, 848, 849, 850, 851], [853, 854, 855, 856, 857, 858, 859], [861, 862, 863, 864, 865, 866, 867, 868], [870, 871, 872, 873, 874, 875, 876, 877], [879, 880, 881, 882, 883, 884], [886, 887, 888, 889, 890, 891, 892], [894, 895, 896, 897, 898, 899, 900, 901, 902, 903], [905, 906, 907, 908, 909, 910, 911, 912, 913], [915, 916, 917, 918, 919], [921, 922, 923, 924, 925], [927, 928, 929, 930, 931, 932, 933, 934], [936, 937, 938, 939, 940, 941, 942], [944, 945, 946, 947, 948, 949, 950], [952, 953, 954, 955, 956, 957]]

/-! THE LAW'S ENTRY -/
def dd_fl : List Cond := flatC (Jvm.Cond.and given_1 narrow_1)
def dd_srp : List Nat := [868, 927, 928, 951, 960, 979, 980, 995, 996, 997, 998, 999, 1000, 1001, 1002, 1011, 1012, 1028, 1048, 1053, 1072, 1073, 1078, 1084, 1089, 1103, 1104, 1105, 1106, 1157, 1193, 1236, 1253, 1271, 1276, 1288, 1302, 1314, 1361, 1377, 1399, 1408, 1541, 1585, 1601, 1694, 1840, 1858, 1867, 1880, 1881, 1885, 1902, 1911, 1924, 1925, 1926, 1927, 1932, 1933, 1934, 1935, 1956, 1965, 1966, 1979, 1980, 1981, 1982, 1983, 1984]
def dd_ncp : List (List Nat) := [[0, 37, 52, 67, 82], [22, 0, 53, 68, 83], [23, 38, 0, 69, 84], [24, 39, 54, 0, 85], [25, 40, 55, 70, 0]]
def dd_tm (i : Nat) : Term := match dd_strs[i]? with
  | some t => .string t.1 t.2.1
  | none => .string "" 0
def dd_vf (i : Nat) : Term := .field (dd_tm i) "java/lang/String" "value" "[B"
def dd_need (i : Nat) : List Cond := [.exactly (dd_tm i) "java/lang/String", .eq (.field (dd_tm i) "java/lang/String" "coder" "B") (.int 0), .arrayOf (dd_vf i) .byte, .eq (.length (dd_vf i)) (.int (Int32.ofNat (dd_slen i)))] ++ (List.range (dd_slen i)).map (fun j => .eq (.elem (dd_vf i) (.int (Int32.ofNat j))) (.int ((dd_sbt.getD i []).getD j 0)))
theorem dd_need_ok : ∀ i, i < 71 → dd_need i = (dd_spl.getD i []).map (fun k => dd_fl.getD k .tt) := by decide +kernel
theorem dd_ncp_ok : ∀ i, i < 5 → ∀ j, j < 5 → i ≠ j → dd_fl[(dd_ncp.getD i []).getD j 0]? = some (.not (.castable (dd_exn i) (dd_exn j))) := by decide +kernel
theorem dd_srp_ok : ∀ i, i < 71 → (dd_strs[i]?).map (fun t => Cond.stringRef t.1 t.2.1 t.2.2) = lw_tbl[dd_srp.getD i 0]? := by decide +kernel
theorem dd_len_ok : ∀ i, i < 71 → dd_slen i < 2 ^ 31 := by decide +kernel
theorem dd_selp {C : String} {y : MethodName} {s : State} {args : Array Value} {n : Nat} (hy : y.cls ≠ "java/lang/invoke/MethodHandle" ∧ y.cls ≠ "java/lang/invoke/VarHandle")
    (hins : (Cond.instantiable C n).before args s = true) (hpriv : (Cond.privateMethod y).before args s = true) (hinst : (Cond.instanceMethod y).before args s = true) {C2 : String} {z : MethodName} (hz : z.cls = y.cls) (hzs : (Cond.selects C2 z z).before args s = true) : (Cond.selects C y y).before args s = true := by
  obtain ⟨c, k, hc, hk, -, hniab, -, -⟩ := Cond.instantiable_spec hins
  have hni : k.isInterface = false := (Bool.or_eq_false_iff.mp hniab).1
  obtain ⟨mk, methM, hnamed, hmethM, -, -⟩ := Cond.instanceMethod_spec hinst
  have hfound : s.methodFound? y.cls y.name y.desc = some mk := State.methodFound?_of_named hnamed hy
  have hsel : selectMethod {} s.vm c mk = .method mk := selectMethod_private hmethM (Cond.privateMethod_at hpriv mk methM hnamed hmethM)
  have hkm : ∃ km, s.vm.classes[mk.cls]? = some km ∧ km.isInterface = false := by
    obtain ⟨c2, r2, m2, q1, q2, q3, q4, q5⟩ := Cond.selects_spec hzs
    have e1 := findClass_of_methodNamed hnamed
    have e2 := findClass_of_methodNamed q3
    rw [hz] at e2
    have e3 : mk.cls = m2.cls := Option.some.inj (e1.symm.trans e2)
    rw [e3]
    exact q5
  obtain ⟨km, hkm1, hkm2⟩ := hkm
  simp only [Cond.before, Cond.holds, Cond.value, hc, hfound, hnamed, hsel, hk, hkm1]
  simp; exact hkm2
theorem dd_hts {args : Array Value} {s : State} (h : ∀ w ∈ lw_tbl, w.before args s = true) : ∀ w ∈ dd_tbl, w.before args s = true := by
  have p1 : (Cond.privateMethod dd_ka).before args s = true := h _ (List.mem_of_getElem? (i := 859) (by decide +kernel))
  have p2 : (Cond.instanceMethod dd_ka).before args s = true := h _ (List.mem_of_getElem? (i := 860) (by decide +kernel))
  have pz : (Cond.selects "LostRound$LawReader" ⟨"LostRound$Reader", "isWord", "(Ljava/lang/String;)Z"⟩ ⟨"LostRound$Reader", "isWord", "(Ljava/lang/String;)Z"⟩).before args s = true := h _ (List.mem_of_getElem? (i := 2465) (by decide +kernel))
  intro w hw
  rcases List.mem_append.mp hw with q | q
  · rcases List.mem_cons.mp q with rfl | q
    · exact dd_selp (n := 11) ⟨by decide, by decide⟩ (h _ (List.mem_of_getElem? (i := 373) (by decide +kernel))) p1 p2 (z := ⟨"LostRound$Reader", "isWord", "(Ljava/lang/String;)Z"⟩) rfl pz
    · rcases List.mem_cons.mp q with rfl | q
      · exact dd_selp (n := 7) ⟨by decide, by decide⟩ (h _ (List.mem_of_getElem? (i := 338) (by decide +kernel))) p1 p2 (z := ⟨"LostRound$Reader", "isWord", "(Ljava/lang/String;)Z"⟩) rfl pz
      · cases q
  · exact h w q
/-- what the foreign cells hold -/
def dd_fI (xs : Nat → Int32) (k j : Nat) : Int32 := if k = 3000000 then xs j else if 2000000 ≤ k then (dd_sbt.getD (k - 2000000) []).getD j 0 else 0
def dd_M0 (Ln : Nat) (xs : Nat → Int32) : dd_M := (0, (fun k => if k < 1000000 then (60, 0) else dd_sh0 Ln k), (fun k j => if k < 1000000 then 0 else dd_rf0 k j), dd_fI xs, (fun _ _ => 0), 0, 0)
set_option maxHeartbeats 2000000 in
theorem dd_entry {s : State} {b L : Nat} {xs : Nat → Int32} (hts : ∀ w ∈ lw_tbl, w.before #[Value.ref b] s = true) (hgv : (Jvm.Cond.and given_1 narrow_1).before #[Value.ref b] s = true) (hX : va_X b L xs s s.heap) (hbl : b < s.heap.size) : ∃ ad0 : Nat → Nat, ad0 3000000 = b ∧ dd_FG ad0 L (dd_fI xs) (fun q => s.heap.size ≤ q) s s.heap := by
  have hA : ∀ a : Nat, a < s.heap.size → ¬ (fun q => s.heap.size ≤ q) a := fun a ha => Nat.not_le.mpr ha
  have hfl : ∀ w ∈ dd_fl, w.before #[Value.ref b] s = true := flat_of_before _ hgv
  have hneed : ∀ i, i < 71 → ∀ w ∈ dd_need i, w.before #[Value.ref b] s = true := by
    intro i hi w hw
    rw [dd_need_ok i hi] at hw
    obtain ⟨k, -, rfl⟩ := List.mem_map.mp hw
    rw [List.getD_eq_getElem?_getD]
    cases hq : dd_fl[k]? with
    | none => rfl
    | some z => exact hfl z (List.mem_of_getElem? hq)
  have h0 : ∀ i : Nat, ∃ q : Nat × Nat, i < 71 → (dd_tm i).eval #[Value.ref b] s none [] s = some (.ref q.1) ∧ va_O "java/lang/String" q.1 (fun q => s.heap.size ≤ q) s s.heap ∧ va_OF "java/lang/String" "coder" "B" (.int 0) q.1 (fun q => s.heap.size ≤ q) s s.heap ∧ va_OF "java/lang/String" "value" "[B" (.ref q.2) q.1 (fun q => s.heap.size ≤ q) s s.heap ∧ va_T .byte q.2 (dd_slen i) (fun j => .int ((dd_sbt.getD i []).getD j 0)) (fun q => s.heap.size ≤ q) s s.heap := by
    intro i
    by_cases hi : i < 71
    · have c1 := hneed i hi (.exactly (dd_tm i) "java/lang/String") (by unfold dd_need; simp)
      have c2 := hneed i hi (.eq (.field (dd_tm i) "java/lang/String" "coder" "B") (.int 0)) (by unfold dd_need; simp)
      have c3 := hneed i hi (.arrayOf (dd_vf i) .byte) (by unfold dd_need; simp)
      have c4 := hneed i hi (.eq (.length (dd_vf i)) (.int (Int32.ofNat (dd_slen i)))) (by unfold dd_need; simp)
      have c5 : ∀ j, j < dd_slen i → (Cond.eq (.elem (dd_vf i) (.int (Int32.ofNat j))) (.int ((dd_sbt.getD i []).getD j 0))).before #[Value.ref b] s = true := fun j hj => hneed i hi _ (List.mem_append_right _ (List.mem_map.mpr ⟨j, List.mem_range.mpr hj, rfl⟩))
      obtain ⟨a, c, cA, kA, q1, q2, q3, q4, q5, q6, -⟩ := Cond.exactly_spec (args := #[Value.ref b]) (first := s) (o := none) (s := s) (idx := []) (t := dd_tm i) (cls := "java/lang/String") c1
      obtain ⟨t, ht, hT⟩ := va_Tof (f := fun j => .int ((dd_sbt.getD i []).getD j 0)) (A := fun q => s.heap.size ≤ q) (dd_len_ok i hi) c3 (va_eqt c4) (fun j hj => va_eqt (c5 j hj)) hA
      exact ⟨(a, t), fun _ => ⟨q1, ⟨cA, q3, q5, by rw [q6]; exact q2, hA a (Array.getElem?_eq_some_iff.mp q3).1⟩, vk_OFof q1 (va_eqt c2) hA, vk_OFof q1 ht hA, hT⟩⟩
    · exact ⟨(0, 0), fun h => absurd h hi⟩
  obtain ⟨ad, had⟩ := Classical.axiomOfChoice h0
  refine ⟨fun k => if k = 3000000 then b else if 2000000 ≤ k then (ad (k - 2000000)).2 else (ad (k - 1000000)).1, by simp, ?_⟩
  have hst : ∀ C n d, (Cond.laysStatic C n d) ∈ lw_tbl → (Cond.initialized C) ∈ lw_tbl → (Cond.isRef (.static C n d)) ∈ dd_fl → va_Zq C n d (fun q => s.heap.size ≤ q) s s.heap := fun C n d h1 h2 h3 => va_Zqof (hts _ h1) (hts _ h2) (hfl _ h3) hA
  refine ⟨fun i t ht => ?_, va_Zof (hts _ (List.mem_of_getElem? (i := 884) (by decide +kernel))) (hts _ (List.mem_of_getElem? (i := 156) (by decide +kernel))) (va_eqt (hfl _ (List.mem_of_getElem? (i := 4) (by decide +kernel)))) hA,
    hst _ _ _ (List.mem_of_getElem? (i := 900) (by decide +kernel)) (List.mem_of_getElem? (i := 158) (by decide +kernel)) (List.mem_of_getElem? (i := 5) (by decide +kernel)),
    vx_Zqof (hts _ (List.mem_of_getElem? (i := 1141) (by decide +kernel))) (hts _ (List.mem_of_getElem? (i := 160) (by decide +kernel))) (hfl _ (List.mem_of_getElem? (i := 9) (by decide +kernel))) hA,
    vx_Zqof (hts _ (List.mem_of_getElem? (i := 1143) (by decide +kernel))) (hts _ (List.mem_of_getElem? (i := 160) (by decide +kernel))) (hfl _ (List.mem_of_getElem? (i := 10) (by decide +kernel))) hA,
    ?_, ?_, ?_, va_AO.of (hts _ (List.mem_of_getElem? (i := 324) (by decide +kernel))), fun i j hi hj hij => va_Nc.of (hfl _ (List.mem_of_getElem? (dd_ncp_ok i hi j hj hij))), fun i hi => ?_, fun x hx => ?_⟩
  · have hi : i < 71 := by
      rcases Nat.lt_or_ge i 71 with q | q
      · exact q
      · rw [List.getElem?_eq_none (show dd_strs.length ≤ i from q)] at ht; cases ht
    obtain ⟨g1, g2, g3, g4, g5⟩ := had i hi
    have e1 : (if 1000000 + i = 3000000 then b else if 2000000 ≤ 1000000 + i then (ad (1000000 + i - 2000000)).2 else (ad (1000000 + i - 1000000)).1) = (ad i).1 := by
      rw [if_neg (by omega), if_neg (by omega), Nat.add_sub_cancel_left]
    have e2 : (if 2000000 + i = 3000000 then b else if 2000000 ≤ 2000000 + i then (ad (2000000 + i - 2000000)).2 else (ad (2000000 + i - 1000000)).1) = (ad i).2 := by
      rw [if_neg (by omega), if_pos (by omega), Nat.add_sub_cancel_left]
    have e3 : ∀ j, dd_fI xs (2000000 + i) j = (dd_sbt.getD i []).getD j 0 := by
      intro j
      unfold dd_fI
      rw [if_neg (by omega), if_pos (by omega), Nat.add_sub_cancel_left]
    simp only [e1, e2, e3]
    refine ⟨g2, g3, g4, g5, vk_R.of (A := #[Value.ref b]) ?_ ?_, ?_⟩
    · have h9 := dd_srp_ok i hi
      rw [ht] at h9
      exact hts _ (List.mem_of_getElem? h9.symm)
    · have h9 : dd_tm i = .string t.1 t.2.1 := by unfold dd_tm; rw [ht]
      rw [← h9]
      exact g1
    · unfold dd_fI
      rw [if_neg (by omega), if_neg (by omega)]
  · simp only [if_true]
    have e4 : dd_fI xs 3000000 = xs := by funext j; unfold dd_fI; rw [if_pos rfl]
    rw [e4]
    exact hX
  · simp only [if_true]
    exact hbl
  · simp only [if_true]
    exact Nat.not_le.mpr hbl
  · refine va_Nw.of rfl (hts _ ?_)
    match i, hi with
    | 0, _ => exact List.mem_of_getElem? (i := 1116) (by decide +kernel)
    | 1, _ => exact List.mem_of_getElem? (i := 1186) (by decide +kernel)
    | 2, _ => exact List.mem_of_getElem? (i := 1229) (by decide +kernel)
    | 3, _ => exact List.mem_of_getElem? (i := 1246) (by decide +kernel)
    | 4, _ => exact List.mem_of_getElem? (i := 1354) (by decide +kernel)
    | k + 5, h => omega
  · refine va_Nw.of rfl (hts _ ?_)
    simp only [dd_dcl, List.mem_cons, List.not_mem_nil, or_false] at hx
    rcases hx with rfl | rfl | rfl | rfl
    · exact List.mem_of_getElem? (i := 863) (by decide +kernel)
    · exact List.mem_of_getElem? (i := 1118) (by decide +kernel)
    · exact List.mem_of_getElem? (i := 1120) (by decide +kernel)
    · exact List.mem_of_getElem? (i := 1122) (by decide +kernel)
/-- THE PURE STATEMENT: the small machine, run on the law with any script, answers 1, within the room -/
def dd_Law : Prop := ∀ (Ln : Nat) (xs : Nat → Int32), Ln ≤ 3072 → ∃ (n : Nat) (M' : dd_M), dd_run dd_mt n 1000 dd_NC (0, dd_ent 7 [.ref 3000000], [], dd_M0 Ln xs) = some (none, .int 1, M') ∧ dd_nc M' ≤ 601024 ∧ dd_ns M' ≤ 7293034
