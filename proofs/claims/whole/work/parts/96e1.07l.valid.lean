theorem vb_J6_bitCount_0f7a4_0 : dd_bLs 351 cd_J6_bitCount_0f7a4_0 [[], [], [], [], [678], [], [], [], [], [679], [], [], [], [], [679], [], [], [], [], [], [], [], [], [680], [], [], [], [], [], [], [], [], [], [], [], [], [], [], [], [], [], []] = true := by decide +kernel
theorem vy_J6_bitCount_0f7a4 : dd_okY 351 := ⟨by decide +kernel, ⟨by decide +kernel, by decide +kernel⟩, Or.inr (List.mem_filter.mpr ⟨List.mem_of_getElem? (i := 677) (by decide +kernel), by decide +kernel⟩), List.mem_filter.mpr ⟨List.mem_of_getElem? (i := 171) (by decide +kernel), by decide +kernel⟩, by decide +kernel, trivial, by
  intro pc e h
  have h : at_J6_bitCount_0f7a4 pc = some e := h
  unfold at_J6_bitCount_0f7a4 at h
  exact dd_at_ok vb_J6_bitCount_0f7a4_0 h⟩
theorem vb_J13_bitCount_95d88_0 : dd_bLs 352 cd_J13_bitCount_95d88_0 [[], [], [], [], [769], [], [], [], [], [770], [], [], [], [], [770], [], [], [], [], [], [], [], [], [771], [], [], [], [], [], [], [], [], [], [], [], [], [], [], [], [], [], [], [], [], [], [], [], [], []] = true := by decide +kernel
theorem vy_J13_bitCount_95d88 : dd_okY 352 := ⟨by decide +kernel, ⟨by decide +kernel, by decide +kernel⟩, Or.inr (List.mem_filter.mpr ⟨List.mem_of_getElem? (i := 768) (by decide +kernel), by decide +kernel⟩), List.mem_filter.mpr ⟨List.mem_of_getElem? (i := 172) (by decide +kernel), by decide +kernel⟩, by decide +kernel, trivial, by
  intro pc e h
  have h : at_J13_bitCount_95d88 pc = some e := h
  unfold at_J13_bitCount_95d88 at h
  exact dd_at_ok vb_J13_bitCount_95d88_0 h⟩
theorem vb_J0_length_8abf5_0 : dd_bLs 353 cd_J0_length_8abf5_0 [[], [2491], [], [], [881, 882, 883], [], []] = true := by decide +kernel
theorem vy_J0_length_8abf5 : dd_okY 353 := ⟨by decide +kernel, ⟨by decide +kernel, by decide +kernel⟩, Or.inr (List.mem_filter.mpr ⟨List.mem_of_getElem? (i := 880) (by decide +kernel), by decide +kernel⟩), List.mem_filter.mpr ⟨List.mem_of_getElem? (i := 158) (by decide +kernel), by decide +kernel⟩, by decide +kernel, trivial, by
  intro pc e h
  have h : at_J0_length_8abf5 pc = some e := h
  unfold at_J0_length_8abf5 at h
  exact dd_at_ok vb_J0_length_8abf5_0 h⟩
theorem vb_J0_charAt_5068e_0 : dd_bLs 354 cd_J0_charAt_5068e_0 [[], [891, 892, 893], [], [], [2491], [], [895, 896], [], [], [2491], [], []] = true := by decide +kernel
theorem vy_J0_charAt_5068e : dd_okY 354 := ⟨by decide +kernel, ⟨by decide +kernel, by decide +kernel⟩, Or.inr (List.mem_filter.mpr ⟨List.mem_of_getElem? (i := 890) (by decide +kernel), by decide +kernel⟩), List.mem_filter.mpr ⟨List.mem_of_getElem? (i := 158) (by decide +kernel), by decide +kernel⟩, by decide +kernel, trivial, by
  intro pc e h
  have h : at_J0_charAt_5068e pc = some e := h
  unfold at_J0_charAt_5068e at h
  exact dd_at_ok vb_J0_charAt_5068e_0 h⟩
theorem vb_J0_coder_7d493_0 : dd_bLs 355 cd_J0_coder_7d493_0 [[885], [], [], [2492], [], [], []] = true := by decide +kernel
theorem vy_J0_coder_7d493 : dd_okY 355 := ⟨by decide +kernel, ⟨by decide +kernel, by decide +kernel⟩, Or.inr (List.mem_filter.mpr ⟨List.mem_of_getElem? (i := 884) (by decide +kernel), by decide +kernel⟩), List.mem_filter.mpr ⟨List.mem_of_getElem? (i := 158) (by decide +kernel), by decide +kernel⟩, by decide +kernel, trivial, by
  intro pc e h
  have h : at_J0_coder_7d493 pc = some e := h
  unfold at_J0_coder_7d493 at h
  exact dd_at_ok vb_J0_coder_7d493_0 h⟩
theorem vb_J0_isLatin1_aae02_0 : dd_bLs 356 cd_J0_isLatin1_aae02_0 [[885], [], [], [2492], [], [], [], [], []] = true := by decide +kernel
theorem vy_J0_isLatin1_aae02 : dd_okY 356 := ⟨by decide +kernel, ⟨by decide +kernel, by decide +kernel⟩, Or.inr (List.mem_filter.mpr ⟨List.mem_of_getElem? (i := 894) (by decide +kernel), by decide +kernel⟩), List.mem_filter.mpr ⟨List.mem_of_getElem? (i := 158) (by decide +kernel), by decide +kernel⟩, by decide +kernel, trivial, by
  intro pc e h
  have h : at_J0_isLatin1_aae02 pc = some e := h
  unfold at_J0_isLatin1_aae02 at h
  exact dd_at_ok vb_J0_isLatin1_aae02_0 h⟩
theorem vb_J1_charAt_3b067_0 : dd_bLs 357 cd_J1_charAt_3b067_0 [[], [], [], [898, 899], [], [], [], [], [], [], []] = true := by decide +kernel
theorem vy_J1_charAt_3b067 : dd_okY 357 := ⟨by decide +kernel, ⟨by decide +kernel, by decide +kernel⟩, Or.inr (List.mem_filter.mpr ⟨List.mem_of_getElem? (i := 897) (by decide +kernel), by decide +kernel⟩), List.mem_filter.mpr ⟨List.mem_of_getElem? (i := 159) (by decide +kernel), by decide +kernel⟩, by decide +kernel, trivial, by
  intro pc e h
  have h : at_J1_charAt_3b067 pc = some e := h
  unfold at_J1_charAt_3b067 at h
  exact dd_at_ok vb_J1_charAt_3b067_0 h⟩
theorem vb_J7_fill_53178_0 : dd_bLs 358 cd_J7_fill_53178_0 [[], [], [], [], [], [], [], [], [], [], [], [], [], [], []] = true := by decide +kernel
theorem vy_J7_fill_53178 : dd_okY 358 := ⟨by decide +kernel, ⟨by decide +kernel, by decide +kernel⟩, Or.inr (List.mem_filter.mpr ⟨List.mem_of_getElem? (i := 654) (by decide +kernel), by decide +kernel⟩), List.mem_filter.mpr ⟨List.mem_of_getElem? (i := 170) (by decide +kernel), by decide +kernel⟩, by decide +kernel, trivial, by
  intro pc e h
  have h : at_J7_fill_53178 pc = some e := h
  unfold at_J7_fill_53178 at h
  exact dd_at_ok vb_J7_fill_53178_0 h⟩
theorem vb_L_wood_0 : dd_bLs 359 cd_L_wood_0 [[], [], [], [837, 838, 839], [], [], [], [], [], [], [], [], [], [], []] = true := by decide +kernel
theorem vy_L_wood : dd_okY 359 := ⟨by decide +kernel, ⟨by decide +kernel, by decide +kernel⟩, Or.inr (List.mem_filter.mpr ⟨List.mem_of_getElem? (i := 834) (by decide +kernel), by decide +kernel⟩), List.mem_filter.mpr ⟨List.mem_of_getElem? (i := 143) (by decide +kernel), by decide +kernel⟩, by decide +kernel, ⟨⟨rfl, rfl, by decide, by decide, by decide, List.mem_filter.mpr ⟨List.mem_of_getElem? (i := 835) (by decide +kernel), by decide +kernel⟩, Or.inl ⟨2, by decide +kernel, rfl, rfl⟩⟩, ⟨⟨rfl, rfl, by decide, by decide, by decide, List.mem_filter.mpr ⟨List.mem_of_getElem? (i := 836) (by decide +kernel), by decide +kernel⟩, Or.inl ⟨2, by decide +kernel, rfl, rfl⟩⟩, trivial⟩⟩, by
  intro pc e h
  have h : at_L_wood pc = some e := h
  unfold at_L_wood at h
  exact dd_at_ok vb_L_wood_0 h⟩
theorem vb_L_law_0 : dd_bLs 360 cd_L_law_0 [[], [], [], [1205, 1206, 1207], [], [], [], [], [], [], [], []] = true := by decide +kernel
theorem vy_L_law : dd_okY 360 := ⟨by decide +kernel, ⟨by decide +kernel, by decide +kernel⟩, Or.inr (List.mem_filter.mpr ⟨List.mem_of_getElem? (i := 1204) (by decide +kernel), by decide +kernel⟩), List.mem_filter.mpr ⟨List.mem_of_getElem? (i := 143) (by decide +kernel), by decide +kernel⟩, by decide +kernel, ⟨⟨rfl, rfl, by decide, by decide, by decide, List.mem_filter.mpr ⟨List.mem_of_getElem? (i := 835) (by decide +kernel), by decide +kernel⟩, Or.inl ⟨2, by decide +kernel, rfl, rfl⟩⟩, trivial⟩, by
  intro pc e h
  have h : at_L_law pc = some e := h
  unfold at_L_law at h
  exact dd_at_ok vb_L_law_0 h⟩
theorem vb_L_cell_0 : dd_bLs 361 cd_L_cell_0 [[], [], [], [], [], [1221, 1222, 1223], [], [], [], [], [], [], [], [], [], [], []] = true := by decide +kernel
theorem vy_L_cell : dd_okY 361 := ⟨by decide +kernel, ⟨by decide +kernel, by decide +kernel⟩, Or.inr (List.mem_filter.mpr ⟨List.mem_of_getElem? (i := 1218) (by decide +kernel), by decide +kernel⟩), List.mem_filter.mpr ⟨List.mem_of_getElem? (i := 143) (by decide +kernel), by decide +kernel⟩, by decide +kernel, ⟨⟨rfl, rfl, by decide, by decide, by decide, List.mem_filter.mpr ⟨List.mem_of_getElem? (i := 1219) (by decide +kernel), by decide +kernel⟩, Or.inr ⟨by decide +kernel, rfl⟩⟩, ⟨⟨rfl, rfl, by decide, by decide, by decide, List.mem_filter.mpr ⟨List.mem_of_getElem? (i := 1220) (by decide +kernel), by decide +kernel⟩, Or.inr ⟨by decide +kernel, rfl⟩⟩, trivial⟩⟩, by
  intro pc e h
  have h : at_L_cell pc = some e := h
  unfold at_L_cell at h
  exact dd_at_ok vb_L_cell_0 h⟩
theorem vb_L_note_0 : dd_bLs 362 cd_L_note_0 [[], [], [], [], [], [1265, 1266, 1267], [], [], [], [], [], [], [], []] = true := by decide +kernel
theorem vy_L_note : dd_okY 362 := ⟨by decide +kernel, ⟨by decide +kernel, by decide +kernel⟩, Or.inr (List.mem_filter.mpr ⟨List.mem_of_getElem? (i := 1264) (by decide +kernel), by decide +kernel⟩), List.mem_filter.mpr ⟨List.mem_of_getElem? (i := 143) (by decide +kernel), by decide +kernel⟩, by decide +kernel, ⟨⟨rfl, rfl, by decide, by decide, by decide, List.mem_filter.mpr ⟨List.mem_of_getElem? (i := 1219) (by decide +kernel), by decide +kernel⟩, Or.inr ⟨by decide +kernel, rfl⟩⟩, trivial⟩, by
  intro pc e h
  have h : at_L_note pc = some e := h
  unfold at_L_note at h
  exact dd_at_ok vb_L_note_0 h⟩
theorem vb_L_boy_0 : dd_bLs 363 cd_L_boy_0 [[], [], [], [], [], [1282, 1283, 1284], [], [], [], [], [], [], [], [], [], [], []] = true := by decide +kernel
theorem vy_L_boy : dd_okY 363 := ⟨by decide +kernel, ⟨by decide +kernel, by decide +kernel⟩, Or.inr (List.mem_filter.mpr ⟨List.mem_of_getElem? (i := 1281) (by decide +kernel), by decide +kernel⟩), List.mem_filter.mpr ⟨List.mem_of_getElem? (i := 143) (by decide +kernel), by decide +kernel⟩, by decide +kernel, ⟨⟨rfl, rfl, by decide, by decide, by decide, List.mem_filter.mpr ⟨List.mem_of_getElem? (i := 1219) (by decide +kernel), by decide +kernel⟩, Or.inr ⟨by decide +kernel, rfl⟩⟩, ⟨⟨rfl, rfl, by decide, by decide, by decide, List.mem_filter.mpr ⟨List.mem_of_getElem? (i := 1220) (by decide +kernel), by decide +kernel⟩, Or.inr ⟨by decide +kernel, rfl⟩⟩, trivial⟩⟩, by
  intro pc e h
  have h : at_L_boy pc = some e := h
  unfold at_L_boy at h
  exact dd_at_ok vb_L_boy_0 h⟩
theorem vb_L_sing_0 : dd_bLs 364 cd_L_sing_0 [[], [], [], [], [1308, 1309, 1310], [], [], [], [], [], [], [], []] = true := by decide +kernel
theorem vy_L_sing : dd_okY 364 := ⟨by decide +kernel, ⟨by decide +kernel, by decide +kernel⟩, Or.inr (List.mem_filter.mpr ⟨List.mem_of_getElem? (i := 1307) (by decide +kernel), by decide +kernel⟩), List.mem_filter.mpr ⟨List.mem_of_getElem? (i := 143) (by decide +kernel), by decide +kernel⟩, by decide +kernel, ⟨⟨rfl, rfl, by decide, by decide, by decide, List.mem_filter.mpr ⟨List.mem_of_getElem? (i := 835) (by decide +kernel), by decide +kernel⟩, Or.inl ⟨3, by decide +kernel, rfl, rfl⟩⟩, trivial⟩, by
  intro pc e h
  have h : at_L_sing pc = some e := h
  unfold at_L_sing at h
  exact dd_at_ok vb_L_sing_0 h⟩
theorem vb_L_fire_0 : dd_bLs 365 cd_L_fire_0 [[], [], [], [], [1350, 1351, 1352], [], [], [], [], [], [], [], [], [], [], []] = true := by decide +kernel
theorem vy_L_fire : dd_okY 365 := ⟨by decide +kernel, ⟨by decide +kernel, by decide +kernel⟩, Or.inr (List.mem_filter.mpr ⟨List.mem_of_getElem? (i := 1348) (by decide +kernel), by decide +kernel⟩), List.mem_filter.mpr ⟨List.mem_of_getElem? (i := 143) (by decide +kernel), by decide +kernel⟩, by decide +kernel, ⟨⟨rfl, rfl, by decide, by decide, by decide, List.mem_filter.mpr ⟨List.mem_of_getElem? (i := 1219) (by decide +kernel), by decide +kernel⟩, Or.inl ⟨3, by decide +kernel, rfl, rfl⟩⟩, ⟨⟨rfl, rfl, by decide, by decide, by decide, List.mem_filter.mpr ⟨List.mem_of_getElem? (i := 1349) (by decide +kernel), by decide +kernel⟩, Or.inl ⟨3, by decide +kernel, rfl, rfl⟩⟩, trivial⟩⟩, by
  intro pc e h
  have h : at_L_fire pc = some e := h
  unfold at_L_fire at h
  exact dd_at_ok vb_L_fire_0 h⟩
theorem vb_L_plant_0 : dd_bLs 366 cd_L_plant_0 [[], [], [], [], [], [1374, 1375, 1376], [], [], [], [], [], [], [], [], [], [], [], [], [], []] = true := by decide +kernel
theorem vy_L_plant : dd_okY 366 := ⟨by decide +kernel, ⟨by decide +kernel, by decide +kernel⟩, Or.inr (List.mem_filter.mpr ⟨List.mem_of_getElem? (i := 1373) (by decide +kernel), by decide +kernel⟩), List.mem_filter.mpr ⟨List.mem_of_getElem? (i := 143) (by decide +kernel), by decide +kernel⟩, by decide +kernel, ⟨⟨rfl, rfl, by decide, by decide, by decide, List.mem_filter.mpr ⟨List.mem_of_getElem? (i := 1219) (by decide +kernel), by decide +kernel⟩, Or.inr ⟨by decide +kernel, rfl⟩⟩, ⟨⟨rfl, rfl, by decide, by decide, by decide, List.mem_filter.mpr ⟨List.mem_of_getElem? (i := 1349) (by decide +kernel), by decide +kernel⟩, Or.inr ⟨by decide +kernel, rfl⟩⟩, trivial⟩⟩, by
  intro pc e h
  have h : at_L_plant pc = some e := h
  unfold at_L_plant at h
  exact dd_at_ok vb_L_plant_0 h⟩
theorem vb_L_part_0 : dd_bLs 367 cd_L_part_0 [[], [], [], [], [], [1383, 1384, 1385], [], [], [], [], [], [], [], []] = true := by decide +kernel
theorem vy_L_part : dd_okY 367 := ⟨by decide +kernel, ⟨by decide +kernel, by decide +kernel⟩, Or.inr (List.mem_filter.mpr ⟨List.mem_of_getElem? (i := 1382) (by decide +kernel), by decide +kernel⟩), List.mem_filter.mpr ⟨List.mem_of_getElem? (i := 143) (by decide +kernel), by decide +kernel⟩, by decide +kernel, ⟨⟨rfl, rfl, by decide, by decide, by decide, List.mem_filter.mpr ⟨List.mem_of_getElem? (i := 1219) (by decide +kernel), by decide +kernel⟩, Or.inr ⟨by decide +kernel, rfl⟩⟩, trivial⟩, by
  intro pc e h
  have h : at_L_part pc = some e := h
  unfold at_L_part at h
  exact dd_at_ok vb_L_part_0 h⟩
theorem vb_L_tune_0 : dd_bLs 368 cd_L_tune_0 [[], [], [], [], [], [], [1390, 1391, 1392], [], [], [], [], [], [], [], [], [], [], []] = true := by decide +kernel
theorem vy_L_tune : dd_okY 368 := ⟨by decide +kernel, ⟨by decide +kernel, by decide +kernel⟩, Or.inr (List.mem_filter.mpr ⟨List.mem_of_getElem? (i := 1389) (by decide +kernel), by decide +kernel⟩), List.mem_filter.mpr ⟨List.mem_of_getElem? (i := 143) (by decide +kernel), by decide +kernel⟩, by decide +kernel, ⟨⟨rfl, rfl, by decide, by decide, by decide, List.mem_filter.mpr ⟨List.mem_of_getElem? (i := 1219) (by decide +kernel), by decide +kernel⟩, Or.inr ⟨by decide +kernel, rfl⟩⟩, ⟨⟨rfl, rfl, by decide, by decide, by decide, List.mem_filter.mpr ⟨List.mem_of_getElem? (i := 835) (by decide +kernel), by decide +kernel⟩, Or.inr ⟨by decide +kernel, rfl⟩⟩, trivial⟩⟩, by
  intro pc e h
  have h : at_L_tune pc = some e := h
  unfold at_L_tune at h
  exact dd_at_ok vb_L_tune_0 h⟩
theorem vb_L_call_0 : dd_bLs 369 cd_L_call_0 [[], [], [], [], [1397, 1398, 1399], [], [], [], [], [], [], [], [], [], [], []] = true := by decide +kernel
theorem vy_L_call : dd_okY 369 := ⟨by decide +kernel, ⟨by decide +kernel, by decide +kernel⟩, Or.inr (List.mem_filter.mpr ⟨List.mem_of_getElem? (i := 1396) (by decide +kernel), by decide +kernel⟩), List.mem_filter.mpr ⟨List.mem_of_getElem? (i := 143) (by decide +kernel), by decide +kernel⟩, by decide +kernel, ⟨⟨rfl, rfl, by decide, by decide, by decide, List.mem_filter.mpr ⟨List.mem_of_getElem? (i := 1219) (by decide +kernel), by decide +kernel⟩, Or.inl ⟨3, by decide +kernel, rfl, rfl⟩⟩, ⟨⟨rfl, rfl, by decide, by decide, by decide, List.mem_filter.mpr ⟨List.mem_of_getElem? (i := 1349) (by decide +kernel), by decide +kernel⟩, Or.inl ⟨3, by decide +kernel, rfl, rfl⟩⟩, trivial⟩⟩, by
  intro pc e h
  have h : at_L_call pc = some e := h
  unfold at_L_call at h
  exact dd_at_ok vb_L_call_0 h⟩
theorem vb_L_send_0 : dd_bLs 370 cd_L_send_0 [[], [], [], [], [], [1406, 1407, 1408], [], [], [], [], [], [], [], [], [], [], []] = true := by decide +kernel
theorem vy_L_send : dd_okY 370 := ⟨by decide +kernel, ⟨by decide +kernel, by decide +kernel⟩, Or.inr (List.mem_filter.mpr ⟨List.mem_of_getElem? (i := 1405) (by decide +kernel), by decide +kernel⟩), List.mem_filter.mpr ⟨List.mem_of_getElem? (i := 143) (by decide +kernel), by decide +kernel⟩, by decide +kernel, ⟨⟨rfl, rfl, by decide, by decide, by decide, List.mem_filter.mpr ⟨List.mem_of_getElem? (i := 1219) (by decide +kernel), by decide +kernel⟩, Or.inr ⟨by decide +kernel, rfl⟩⟩, ⟨⟨rfl, rfl, by decide, by decide, by decide, List.mem_filter.mpr ⟨List.mem_of_getElem? (i := 1349) (by decide +kernel), by decide +kernel⟩, Or.inr ⟨by decide +kernel, rfl⟩⟩, trivial⟩⟩, by
  intro pc e h
  have h : at_L_send pc = some e := h
  unfold at_L_send at h
  exact dd_at_ok vb_L_send_0 h⟩
theorem vb_L_loud_0 : dd_bLs 371 cd_L_loud_0 [[], [], [], [], [1414, 1415, 1416], [], [], [], [], [], [], [], []] = true := by decide +kernel
theorem vy_L_loud : dd_okY 371 := ⟨by decide +kernel, ⟨by decide +kernel, by decide +kernel⟩, Or.inr (List.mem_filter.mpr ⟨List.mem_of_getElem? (i := 1413) (by decide +kernel), by decide +kernel⟩), List.mem_filter.mpr ⟨List.mem_of_getElem? (i := 143) (by decide +kernel), by decide +kernel⟩, by decide +kernel, ⟨⟨rfl, rfl, by decide, by decide, by decide, List.mem_filter.mpr ⟨List.mem_of_getElem? (i := 835) (by decide +kernel), by decide +kernel⟩, Or.inl ⟨3, by decide +kernel, rfl, rfl⟩⟩, trivial⟩, by
  intro pc e h
  have h : at_L_loud pc = some e := h
  unfold at_L_loud at h
  exact dd_at_ok vb_L_loud_0 h⟩
theorem vb_L_path_0 : dd_bLs 372 cd_L_path_0 [[], [], [], [], [], [1421, 1422, 1423], [], [], [], [], [], [], [], []] = true := by decide +kernel
theorem vy_L_path : dd_okY 372 := ⟨by decide +kernel, ⟨by decide +kernel, by decide +kernel⟩, Or.inr (List.mem_filter.mpr ⟨List.mem_of_getElem? (i := 1420) (by decide +kernel), by decide +kernel⟩), List.mem_filter.mpr ⟨List.mem_of_getElem? (i := 143) (by decide +kernel), by decide +kernel⟩, by decide +kernel, ⟨⟨rfl, rfl, by decide, by decide, by decide, List.mem_filter.mpr ⟨List.mem_of_getElem? (i := 1219) (by decide +kernel), by decide +kernel⟩, Or.inr ⟨by decide +kernel, rfl⟩⟩, trivial⟩, by
  intro pc e h
  have h : at_L_path pc = some e := h
  unfold at_L_path at h
  exact dd_at_ok vb_L_path_0 h⟩
theorem vb_L_soon_0 : dd_bLs 373 cd_L_soon_0 [[], [], [], [], [1432, 1433, 1434], [], [], [], [], [], [], [], []] = true := by decide +kernel
theorem vy_L_soon : dd_okY 373 := ⟨by decide +kernel, ⟨by decide +kernel, by decide +kernel⟩, Or.inr (List.mem_filter.mpr ⟨List.mem_of_getElem? (i := 1431) (by decide +kernel), by decide +kernel⟩), List.mem_filter.mpr ⟨List.mem_of_getElem? (i := 143) (by decide +kernel), by decide +kernel⟩, by decide +kernel, ⟨⟨rfl, rfl, by decide, by decide, by decide, List.mem_filter.mpr ⟨List.mem_of_getElem? (i := 1219) (by decide +kernel), by decide +kernel⟩, Or.inl ⟨3, by decide +kernel, rfl, rfl⟩⟩, trivial⟩, by
  intro pc e h
  have h : at_L_soon pc = some e := h
  unfold at_L_soon at h
  exact dd_at_ok vb_L_soon_0 h⟩
theorem vb_L_by_0 : dd_bLs 374 cd_L_by_0 [[], [], [], [], [], [1439, 1440, 1441], [], [], [], [], [], [], [], []] = true := by decide +kernel
theorem vy_L_by : dd_okY 374 := ⟨by decide +kernel, ⟨by decide +kernel, by decide +kernel⟩, Or.inr (List.mem_filter.mpr ⟨List.mem_of_getElem? (i := 1438) (by decide +kernel), by decide +kernel⟩), List.mem_filter.mpr ⟨List.mem_of_getElem? (i := 143) (by decide +kernel), by decide +kernel⟩, by decide +kernel, ⟨⟨rfl, rfl, by decide, by decide, by decide, List.mem_filter.mpr ⟨List.mem_of_getElem? (i := 1219) (by decide +kernel), by decide +kernel⟩, Or.inr ⟨by decide +kernel, rfl⟩⟩, trivial⟩, by
  intro pc e h
  have h : at_L_by pc = some e := h
  unfold at_L_by at h
  exact dd_at_ok vb_L_by_0 h⟩
theorem vb_L_best_0 : dd_bLs 375 cd_L_best_0 [[], [], [], [], [1451, 1452, 1453], [], [], [], [], [], [], [], []] = true := by decide +kernel
theorem vy_L_best : dd_okY 375 := ⟨by decide +kernel, ⟨by decide +kernel, by decide +kernel⟩, Or.inr (List.mem_filter.mpr ⟨List.mem_of_getElem? (i := 1450) (by decide +kernel), by decide +kernel⟩), List.mem_filter.mpr ⟨List.mem_of_getElem? (i := 143) (by decide +kernel), by decide +kernel⟩, by decide +kernel, ⟨⟨rfl, rfl, by decide, by decide, by decide, List.mem_filter.mpr ⟨List.mem_of_getElem? (i := 1219) (by decide +kernel), by decide +kernel⟩, Or.inl ⟨3, by decide +kernel, rfl, rfl⟩⟩, trivial⟩, by
  intro pc e h
  have h : at_L_best pc = some e := h
  unfold at_L_best at h
  exact dd_at_ok vb_L_best_0 h⟩
theorem vb_L_calls_0 : dd_bLs 376 cd_L_calls_0 [[], [], [], [], [1458, 1459, 1460], [], [], [], [], [], [], [], []] = true := by decide +kernel
theorem vy_L_calls : dd_okY 376 := ⟨by decide +kernel, ⟨by decide +kernel, by decide +kernel⟩, Or.inr (List.mem_filter.mpr ⟨List.mem_of_getElem? (i := 1457) (by decide +kernel), by decide +kernel⟩), List.mem_filter.mpr ⟨List.mem_of_getElem? (i := 143) (by decide +kernel), by decide +kernel⟩, by decide +kernel, ⟨⟨rfl, rfl, by decide, by decide, by decide, List.mem_filter.mpr ⟨List.mem_of_getElem? (i := 1219) (by decide +kernel), by decide +kernel⟩, Or.inl ⟨3, by decide +kernel, rfl, rfl⟩⟩, trivial⟩, by
  intro pc e h
  have h : at_L_calls pc = some e := h
  unfold at_L_calls at h
  exact dd_at_ok vb_L_calls_0 h⟩
theorem vb_L_first_0 : dd_bLs 377 cd_L_first_0 [[], [], [], [], [1491, 1492, 1493], [], [], [], [], [], [], [], []] = true := by decide +kernel
theorem vy_L_first : dd_okY 377 := ⟨by decide +kernel, ⟨by decide +kernel, by decide +kernel⟩, Or.inr (List.mem_filter.mpr ⟨List.mem_of_getElem? (i := 1490) (by decide +kernel), by decide +kernel⟩), List.mem_filter.mpr ⟨List.mem_of_getElem? (i := 143) (by decide +kernel), by decide +kernel⟩, by decide +kernel, ⟨⟨rfl, rfl, by decide, by decide, by decide, List.mem_filter.mpr ⟨List.mem_of_getElem? (i := 1219) (by decide +kernel), by decide +kernel⟩, Or.inl ⟨3, by decide +kernel, rfl, rfl⟩⟩, trivial⟩, by
  intro pc e h
  have h : at_L_first pc = some e := h
  unfold at_L_first at h
  exact dd_at_ok vb_L_first_0 h⟩
theorem vb_L_can_0 : dd_bLs 378 cd_L_can_0 [[], [], [], [], [], [1509, 1510, 1511], [], [], [], [], [], [], [], [], [], [], []] = true := by decide +kernel
theorem vy_L_can : dd_okY 378 := ⟨by decide +kernel, ⟨by decide +kernel, by decide +kernel⟩, Or.inr (List.mem_filter.mpr ⟨List.mem_of_getElem? (i := 1508) (by decide +kernel), by decide +kernel⟩), List.mem_filter.mpr ⟨List.mem_of_getElem? (i := 143) (by decide +kernel), by decide +kernel⟩, by decide +kernel, ⟨⟨rfl, rfl, by decide, by decide, by decide, List.mem_filter.mpr ⟨List.mem_of_getElem? (i := 1219) (by decide +kernel), by decide +kernel⟩, Or.inr ⟨by decide +kernel, rfl⟩⟩, ⟨⟨rfl, rfl, by decide, by decide, by decide, List.mem_filter.mpr ⟨List.mem_of_getElem? (i := 835) (by decide +kernel), by decide +kernel⟩, Or.inr ⟨by decide +kernel, rfl⟩⟩, trivial⟩⟩, by
  intro pc e h
  have h : at_L_can pc = some e := h
  unfold at_L_can at h
  exact dd_at_ok vb_L_can_0 h⟩
theorem vb_L_lost_0 : dd_bLs 379 cd_L_lost_0 [[], [], [], [], [], [1521, 1522, 1523], [], [], [], [], [], [], [], [], [], [], []] = true := by decide +kernel
theorem vy_L_lost : dd_okY 379 := ⟨by decide +kernel, ⟨by decide +kernel, by decide +kernel⟩, Or.inr (List.mem_filter.mpr ⟨List.mem_of_getElem? (i := 1520) (by decide +kernel), by decide +kernel⟩), List.mem_filter.mpr ⟨List.mem_of_getElem? (i := 143) (by decide +kernel), by decide +kernel⟩, by decide +kernel, ⟨⟨rfl, rfl, by decide, by decide, by decide, List.mem_filter.mpr ⟨List.mem_of_getElem? (i := 1219) (by decide +kernel), by decide +kernel⟩, Or.inr ⟨by decide +kernel, rfl⟩⟩, ⟨⟨rfl, rfl, by decide, by decide, by decide, List.mem_filter.mpr ⟨List.mem_of_getElem? (i := 835) (by decide +kernel), by decide +kernel⟩, Or.inr ⟨by decide +kernel, rfl⟩⟩, trivial⟩⟩, by
  intro pc e h
  have h : at_L_lost pc = some e := h
  unfold at_L_lost at h
  exact dd_at_ok vb_L_lost_0 h⟩
theorem vb_L_sounds_0 : dd_bLs 380 cd_L_sounds_0 [[], [], [], [], [1530, 1531, 1532], [], [], [], [], [], [], [], []] = true := by decide +kernel
theorem vy_L_sounds : dd_okY 380 := ⟨by decide +kernel, ⟨by decide +kernel, by decide +kernel⟩, Or.inr (List.mem_filter.mpr ⟨List.mem_of_getElem? (i := 1529) (by decide +kernel), by decide +kernel⟩), List.mem_filter.mpr ⟨List.mem_of_getElem? (i := 143) (by decide +kernel), by decide +kernel⟩, by decide +kernel, ⟨⟨rfl, rfl, by decide, by decide, by decide, List.mem_filter.mpr ⟨List.mem_of_getElem? (i := 835) (by decide +kernel), by decide +kernel⟩, Or.inl ⟨3, by decide +kernel, rfl, rfl⟩⟩, trivial⟩, by
  intro pc e h
  have h : at_L_sounds pc = some e := h
  unfold at_L_sounds at h
  exact dd_at_ok vb_L_sounds_0 h⟩
theorem vb_L_listen_0 : dd_bLs 381 cd_L_listen_0 [[], [], [], [1563, 1564, 1565], [], [], [], [], [], [], [], []] = true := by decide +kernel
theorem vy_L_listen : dd_okY 381 := ⟨by decide +kernel, ⟨by decide +kernel, by decide +kernel⟩, Or.inr (List.mem_filter.mpr ⟨List.mem_of_getElem? (i := 1562) (by decide +kernel), by decide +kernel⟩), List.mem_filter.mpr ⟨List.mem_of_getElem? (i := 143) (by decide +kernel), by decide +kernel⟩, by decide +kernel, ⟨⟨rfl, rfl, by decide, by decide, by decide, List.mem_filter.mpr ⟨List.mem_of_getElem? (i := 835) (by decide +kernel), by decide +kernel⟩, Or.inl ⟨2, by decide +kernel, rfl, rfl⟩⟩, trivial⟩, by
  intro pc e h
  have h : at_L_listen pc = some e := h
  unfold at_L_listen at h
  exact dd_at_ok vb_L_listen_0 h⟩
theorem vb_L_ears_0 : dd_bLs 382 cd_L_ears_0 [[], [], [], [], [1579, 1580, 1581], [], [], [], [], [], [], [], [], [], [], []] = true := by decide +kernel
theorem vy_L_ears : dd_okY 382 := ⟨by decide +kernel, ⟨by decide +kernel, by decide +kernel⟩, Or.inr (List.mem_filter.mpr ⟨List.mem_of_getElem? (i := 1578) (by decide +kernel), by decide +kernel⟩), List.mem_filter.mpr ⟨List.mem_of_getElem? (i := 143) (by decide +kernel), by decide +kernel⟩, by decide +kernel, ⟨⟨rfl, rfl, by decide, by decide, by decide, List.mem_filter.mpr ⟨List.mem_of_getElem? (i := 1219) (by decide +kernel), by decide +kernel⟩, Or.inl ⟨3, by decide +kernel, rfl, rfl⟩⟩, ⟨⟨rfl, rfl, by decide, by decide, by decide, List.mem_filter.mpr ⟨List.mem_of_getElem? (i := 835) (by decide +kernel), by decide +kernel⟩, Or.inl ⟨3, by decide +kernel, rfl, rfl⟩⟩, trivial⟩⟩, by
  intro pc e h
  have h : at_L_ears pc = some e := h
  unfold at_L_ears at h
  exact dd_at_ok vb_L_ears_0 h⟩
theorem vb_L_shifted_0 : dd_bLs 383 cd_L_shifted_0 [[], [], [], [], [], [1595, 1596, 1597], [], [], [], [], [], [], [], [], [], [], []] = true := by decide +kernel
theorem vy_L_shifted : dd_okY 383 := ⟨by decide +kernel, ⟨by decide +kernel, by decide +kernel⟩, Or.inr (List.mem_filter.mpr ⟨List.mem_of_getElem? (i := 1594) (by decide +kernel), by decide +kernel⟩), List.mem_filter.mpr ⟨List.mem_of_getElem? (i := 143) (by decide +kernel), by decide +kernel⟩, by decide +kernel, ⟨⟨rfl, rfl, by decide, by decide, by decide, List.mem_filter.mpr ⟨List.mem_of_getElem? (i := 1219) (by decide +kernel), by decide +kernel⟩, Or.inr ⟨by decide +kernel, rfl⟩⟩, ⟨⟨rfl, rfl, by decide, by decide, by decide, List.mem_filter.mpr ⟨List.mem_of_getElem? (i := 835) (by decide +kernel), by decide +kernel⟩, Or.inr ⟨by decide +kernel, rfl⟩⟩, trivial⟩⟩, by
  intro pc e h
  have h : at_L_shifted pc = some e := h
  unfold at_L_shifted at h
  exact dd_at_ok vb_L_shifted_0 h⟩
theorem vb_L_silence_0 : dd_bLs 384 cd_L_silence_0 [[], [], [], [], [1611, 1612, 1613], [], [], [], [], [], [], [], []] = true := by decide +kernel
theorem vy_L_silence : dd_okY 384 := ⟨by decide +kernel, ⟨by decide +kernel, by decide +kernel⟩, Or.inr (List.mem_filter.mpr ⟨List.mem_of_getElem? (i := 1610) (by decide +kernel), by decide +kernel⟩), List.mem_filter.mpr ⟨List.mem_of_getElem? (i := 143) (by decide +kernel), by decide +kernel⟩, by decide +kernel, ⟨⟨rfl, rfl, by decide, by decide, by decide, List.mem_filter.mpr ⟨List.mem_of_getElem? (i := 1219) (by decide +kernel), by decide +kernel⟩, Or.inl ⟨3, by decide +kernel, rfl, rfl⟩⟩, trivial⟩, by
  intro pc e h
  have h : at_L_silence pc = some e := h
  unfold at_L_silence at h
  exact dd_at_ok vb_L_silence_0 h⟩
theorem vb_L_hush_0 : dd_bLs 385 cd_L_hush_0 [[], [], [], [], [1618, 1619, 1620], [], [], [], [], [], [], [], []] = true := by decide +kernel
theorem vy_L_hush : dd_okY 385 := ⟨by decide +kernel, ⟨by decide +kernel, by decide +kernel⟩, Or.inr (List.mem_filter.mpr ⟨List.mem_of_getElem? (i := 1617) (by decide +kernel), by decide +kernel⟩), List.mem_filter.mpr ⟨List.mem_of_getElem? (i := 143) (by decide +kernel), by decide +kernel⟩, by decide +kernel, ⟨⟨rfl, rfl, by decide, by decide, by decide, List.mem_filter.mpr ⟨List.mem_of_getElem? (i := 1219) (by decide +kernel), by decide +kernel⟩, Or.inl ⟨3, by decide +kernel, rfl, rfl⟩⟩, trivial⟩, by
  intro pc e h
  have h : at_L_hush pc = some e := h
  unfold at_L_hush at h
  exact dd_at_ok vb_L_hush_0 h⟩
theorem vb_L_mends_0 : dd_bLs 386 cd_L_mends_0 [[], [], [], [], [1626, 1627, 1628], [], [], [], [], [], [], [], []] = true := by decide +kernel
theorem vy_L_mends : dd_okY 386 := ⟨by decide +kernel, ⟨by decide +kernel, by decide +kernel⟩, Or.inr (List.mem_filter.mpr ⟨List.mem_of_getElem? (i := 1625) (by decide +kernel), by decide +kernel⟩), List.mem_filter.mpr ⟨List.mem_of_getElem? (i := 143) (by decide +kernel), by decide +kernel⟩, by decide +kernel, ⟨⟨rfl, rfl, by decide, by decide, by decide, List.mem_filter.mpr ⟨List.mem_of_getElem? (i := 1219) (by decide +kernel), by decide +kernel⟩, Or.inl ⟨3, by decide +kernel, rfl, rfl⟩⟩, trivial⟩, by
  intro pc e h
  have h : at_L_mends pc = some e := h
  unfold at_L_mends at h
  exact dd_at_ok vb_L_mends_0 h⟩
theorem vb_L_meet_0 : dd_bLs 387 cd_L_meet_0 [[], [], [], [], [], [1633, 1634, 1635], [], [], [], [], [], [], [], [], [], [], []] = true := by decide +kernel
theorem vy_L_meet : dd_okY 387 := ⟨by decide +kernel, ⟨by decide +kernel, by decide +kernel⟩, Or.inr (List.mem_filter.mpr ⟨List.mem_of_getElem? (i := 1632) (by decide +kernel), by decide +kernel⟩), List.mem_filter.mpr ⟨List.mem_of_getElem? (i := 143) (by decide +kernel), by decide +kernel⟩, by decide +kernel, ⟨⟨rfl, rfl, by decide, by decide, by decide, List.mem_filter.mpr ⟨List.mem_of_getElem? (i := 1219) (by decide +kernel), by decide +kernel⟩, Or.inr ⟨by decide +kernel, rfl⟩⟩, ⟨⟨rfl, rfl, by decide, by decide, by decide, List.mem_filter.mpr ⟨List.mem_of_getElem? (i := 835) (by decide +kernel), by decide +kernel⟩, Or.inr ⟨by decide +kernel, rfl⟩⟩, trivial⟩⟩, by
  intro pc e h
  have h : at_L_meet pc = some e := h
  unfold at_L_meet at h
  exact dd_at_ok vb_L_meet_0 h⟩
theorem vb_L_rests_0 : dd_bLs 388 cd_L_rests_0 [[], [], [], [], [1640, 1641, 1642], [], [], [], [], [], [], [], []] = true := by decide +kernel
theorem vy_L_rests : dd_okY 388 := ⟨by decide +kernel, ⟨by decide +kernel, by decide +kernel⟩, Or.inr (List.mem_filter.mpr ⟨List.mem_of_getElem? (i := 1639) (by decide +kernel), by decide +kernel⟩), List.mem_filter.mpr ⟨List.mem_of_getElem? (i := 143) (by decide +kernel), by decide +kernel⟩, by decide +kernel, ⟨⟨rfl, rfl, by decide, by decide, by decide, List.mem_filter.mpr ⟨List.mem_of_getElem? (i := 1219) (by decide +kernel), by decide +kernel⟩, Or.inl ⟨3, by decide +kernel, rfl, rfl⟩⟩, trivial⟩, by
  intro pc e h
  have h : at_L_rests pc = some e := h
  unfold at_L_rests at h
  exact dd_at_ok vb_L_rests_0 h⟩
theorem vb_L_odds_0 : dd_bLs 389 cd_L_odds_0 [[], [], [], [], [], [1653, 1654, 1655], [], [], [], [], [], [], [], [], [], [], []] = true := by decide +kernel
theorem vy_L_odds : dd_okY 389 := ⟨by decide +kernel, ⟨by decide +kernel, by decide +kernel⟩, Or.inr (List.mem_filter.mpr ⟨List.mem_of_getElem? (i := 1652) (by decide +kernel), by decide +kernel⟩), List.mem_filter.mpr ⟨List.mem_of_getElem? (i := 143) (by decide +kernel), by decide +kernel⟩, by decide +kernel, ⟨⟨rfl, rfl, by decide, by decide, by decide, List.mem_filter.mpr ⟨List.mem_of_getElem? (i := 1219) (by decide +kernel), by decide +kernel⟩, Or.inr ⟨by decide +kernel, rfl⟩⟩, ⟨⟨rfl, rfl, by decide, by decide, by decide, List.mem_filter.mpr ⟨List.mem_of_getElem? (i := 835) (by decide +kernel), by decide +kernel⟩, Or.inr ⟨by decide +kernel, rfl⟩⟩, trivial⟩⟩, by
  intro pc e h
  have h : at_L_odds pc = some e := h
  unfold at_L_odds at h
  exact dd_at_ok vb_L_odds_0 h⟩
theorem vb_L_ahead_0 : dd_bLs 390 cd_L_ahead_0 [[], [], [], [], [], [1660, 1661, 1662], [], [], [], [], [], [], [], [], [], [], []] = true := by decide +kernel
theorem vy_L_ahead : dd_okY 390 := ⟨by decide +kernel, ⟨by decide +kernel, by decide +kernel⟩, Or.inr (List.mem_filter.mpr ⟨List.mem_of_getElem? (i := 1659) (by decide +kernel), by decide +kernel⟩), List.mem_filter.mpr ⟨List.mem_of_getElem? (i := 143) (by decide +kernel), by decide +kernel⟩, by decide +kernel, ⟨⟨rfl, rfl, by decide, by decide, by decide, List.mem_filter.mpr ⟨List.mem_of_getElem? (i := 1219) (by decide +kernel), by decide +kernel⟩, Or.inr ⟨by decide +kernel, rfl⟩⟩, ⟨⟨rfl, rfl, by decide, by decide, by decide, List.mem_filter.mpr ⟨List.mem_of_getElem? (i := 835) (by decide +kernel), by decide +kernel⟩, Or.inr ⟨by decide +kernel, rfl⟩⟩, trivial⟩⟩, by
  intro pc e h
  have h : at_L_ahead pc = some e := h
  unfold at_L_ahead at h
  exact dd_at_ok vb_L_ahead_0 h⟩
theorem vb_L_trial_0 : dd_bLs 391 cd_L_trial_0 [[], [], [], [], [], [1667, 1668, 1669], [], [], [], [], [], [], [], []] = true := by decide +kernel
theorem vy_L_trial : dd_okY 391 := ⟨by decide +kernel, ⟨by decide +kernel, by decide +kernel⟩, Or.inr (List.mem_filter.mpr ⟨List.mem_of_getElem? (i := 1666) (by decide +kernel), by decide +kernel⟩), List.mem_filter.mpr ⟨List.mem_of_getElem? (i := 143) (by decide +kernel), by decide +kernel⟩, by decide +kernel, ⟨⟨rfl, rfl, by decide, by decide, by decide, List.mem_filter.mpr ⟨List.mem_of_getElem? (i := 835) (by decide +kernel), by decide +kernel⟩, Or.inr ⟨by decide +kernel, rfl⟩⟩, trivial⟩, by
  intro pc e h
  have h : at_L_trial pc = some e := h
  unfold at_L_trial at h
  exact dd_at_ok vb_L_trial_0 h⟩
theorem vb_L_span_0 : dd_bLs 392 cd_L_span_0 [[], [], [], [], [], [1674, 1675, 1676], [], [], [], [], [], [], [], []] = true := by decide +kernel
theorem vy_L_span : dd_okY 392 := ⟨by decide +kernel, ⟨by decide +kernel, by decide +kernel⟩, Or.inr (List.mem_filter.mpr ⟨List.mem_of_getElem? (i := 1673) (by decide +kernel), by decide +kernel⟩), List.mem_filter.mpr ⟨List.mem_of_getElem? (i := 143) (by decide +kernel), by decide +kernel⟩, by decide +kernel, ⟨⟨rfl, rfl, by decide, by decide, by decide, List.mem_filter.mpr ⟨List.mem_of_getElem? (i := 835) (by decide +kernel), by decide +kernel⟩, Or.inr ⟨by decide +kernel, rfl⟩⟩, trivial⟩, by
  intro pc e h
  have h : at_L_span pc = some e := h
  unfold at_L_span at h
  exact dd_at_ok vb_L_span_0 h⟩
theorem vb_L_led_0 : dd_bLs 393 cd_L_led_0 [[], [], [], [], [], [1681, 1682, 1683], [], [], [], [], [], [], [], []] = true := by decide +kernel
theorem vy_L_led : dd_okY 393 := ⟨by decide +kernel, ⟨by decide +kernel, by decide +kernel⟩, Or.inr (List.mem_filter.mpr ⟨List.mem_of_getElem? (i := 1680) (by decide +kernel), by decide +kernel⟩), List.mem_filter.mpr ⟨List.mem_of_getElem? (i := 143) (by decide +kernel), by decide +kernel⟩, by decide +kernel, ⟨⟨rfl, rfl, by decide, by decide, by decide, List.mem_filter.mpr ⟨List.mem_of_getElem? (i := 1219) (by decide +kernel), by decide +kernel⟩, Or.inr ⟨by decide +kernel, rfl⟩⟩, trivial⟩, by
  intro pc e h
  have h : at_L_led pc = some e := h
  unfold at_L_led at h
  exact dd_at_ok vb_L_led_0 h⟩
theorem vb_L_log_0 : dd_bLs 394 cd_L_log_0 [[], [], [], [], [], [1692, 1693, 1694], [], [], [], [], [], [], [], []] = true := by decide +kernel
theorem vy_L_log : dd_okY 394 := ⟨by decide +kernel, ⟨by decide +kernel, by decide +kernel⟩, Or.inr (List.mem_filter.mpr ⟨List.mem_of_getElem? (i := 1691) (by decide +kernel), by decide +kernel⟩), List.mem_filter.mpr ⟨List.mem_of_getElem? (i := 143) (by decide +kernel), by decide +kernel⟩, by decide +kernel, ⟨⟨rfl, rfl, by decide, by decide, by decide, List.mem_filter.mpr ⟨List.mem_of_getElem? (i := 1220) (by decide +kernel), by decide +kernel⟩, Or.inr ⟨by decide +kernel, rfl⟩⟩, trivial⟩, by
  intro pc e h
  have h : at_L_log pc = some e := h
  unfold at_L_log at h
  exact dd_at_ok vb_L_log_0 h⟩
