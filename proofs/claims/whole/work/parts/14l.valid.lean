theorem vb_J6_bitCount_0f7a4_0 : dd_bL 351 cd_J6_bitCount_0f7a4_0 [[], [], [], [], [678], [], [], [], [], [679], [], [], [], [], [679], [], [], [], [], [], [], [], [], [680], [], [], [], [], [], [], [], [], [], [], [], [], [], [], [], [], [], []] = true := by decide +kernel
theorem vy_J6_bitCount_0f7a4 : dd_okY 351 := ⟨by decide +kernel, ⟨by decide +kernel, by decide +kernel⟩, Or.inr (List.mem_filter.mpr ⟨List.mem_of_getElem? (i := 677) (by decide +kernel), by decide +kernel⟩), List.mem_filter.mpr ⟨List.mem_of_getElem? (i := 171) (by decide +kernel), by decide +kernel⟩, by decide +kernel, trivial, by
  intro pc e h
  have h : at_J6_bitCount_0f7a4 pc = some e := h
  unfold at_J6_bitCount_0f7a4 at h
  exact dd_at_ok vb_J6_bitCount_0f7a4_0 h⟩
theorem vb_J13_bitCount_95d88_0 : dd_bL 352 cd_J13_bitCount_95d88_0 [[], [], [], [], [769], [], [], [], [], [770], [], [], [], [], [770], [], [], [], [], [], [], [], [], [771], [], [], [], [], [], [], [], [], [], [], [], [], [], [], [], [], [], [], [], [], [], [], [], [], []] = true := by decide +kernel
theorem vy_J13_bitCount_95d88 : dd_okY 352 := ⟨by decide +kernel, ⟨by decide +kernel, by decide +kernel⟩, Or.inr (List.mem_filter.mpr ⟨List.mem_of_getElem? (i := 768) (by decide +kernel), by decide +kernel⟩), List.mem_filter.mpr ⟨List.mem_of_getElem? (i := 172) (by decide +kernel), by decide +kernel⟩, by decide +kernel, trivial, by
  intro pc e h
  have h : at_J13_bitCount_95d88 pc = some e := h
  unfold at_J13_bitCount_95d88 at h
  exact dd_at_ok vb_J13_bitCount_95d88_0 h⟩
theorem vb_J9_abs_0f7a4_0 : dd_bL 353 cd_J9_abs_0f7a4_0 [[], [], [], [], [], [], []] = true := by decide +kernel
theorem vy_J9_abs_0f7a4 : dd_okY 353 := ⟨by decide +kernel, ⟨by decide +kernel, by decide +kernel⟩, Or.inr (List.mem_filter.mpr ⟨List.mem_of_getElem? (i := 599) (by decide +kernel), by decide +kernel⟩), List.mem_filter.mpr ⟨List.mem_of_getElem? (i := 157) (by decide +kernel), by decide +kernel⟩, by decide +kernel, trivial, by
  intro pc e h
  have h : at_J9_abs_0f7a4 pc = some e := h
  unfold at_J9_abs_0f7a4 at h
  exact dd_at_ok vb_J9_abs_0f7a4_0 h⟩
theorem vb_J9_max_7cf53_0 : dd_bL 354 cd_J9_max_7cf53_0 [[], [], [], [], [], [], []] = true := by decide +kernel
theorem vy_J9_max_7cf53 : dd_okY 354 := ⟨by decide +kernel, ⟨by decide +kernel, by decide +kernel⟩, Or.inr (List.mem_filter.mpr ⟨List.mem_of_getElem? (i := 638) (by decide +kernel), by decide +kernel⟩), List.mem_filter.mpr ⟨List.mem_of_getElem? (i := 157) (by decide +kernel), by decide +kernel⟩, by decide +kernel, trivial, by
  intro pc e h
  have h : at_J9_max_7cf53 pc = some e := h
  unfold at_J9_max_7cf53 at h
  exact dd_at_ok vb_J9_max_7cf53_0 h⟩
theorem vb_J9_min_7cf53_0 : dd_bL 355 cd_J9_min_7cf53_0 [[], [], [], [], [], [], []] = true := by decide +kernel
theorem vy_J9_min_7cf53 : dd_okY 355 := ⟨by decide +kernel, ⟨by decide +kernel, by decide +kernel⟩, Or.inr (List.mem_filter.mpr ⟨List.mem_of_getElem? (i := 853) (by decide +kernel), by decide +kernel⟩), List.mem_filter.mpr ⟨List.mem_of_getElem? (i := 157) (by decide +kernel), by decide +kernel⟩, by decide +kernel, trivial, by
  intro pc e h
  have h : at_J9_min_7cf53 pc = some e := h
  unfold at_J9_min_7cf53 at h
  exact dd_at_ok vb_J9_min_7cf53_0 h⟩
theorem vb_J0_length_8abf5_0 : dd_bL 356 cd_J0_length_8abf5_0 [[], [2491], [], [], [881, 882, 883], [], []] = true := by decide +kernel
theorem vy_J0_length_8abf5 : dd_okY 356 := ⟨by decide +kernel, ⟨by decide +kernel, by decide +kernel⟩, Or.inr (List.mem_filter.mpr ⟨List.mem_of_getElem? (i := 880) (by decide +kernel), by decide +kernel⟩), List.mem_filter.mpr ⟨List.mem_of_getElem? (i := 158) (by decide +kernel), by decide +kernel⟩, by decide +kernel, trivial, by
  intro pc e h
  have h : at_J0_length_8abf5 pc = some e := h
  unfold at_J0_length_8abf5 at h
  exact dd_at_ok vb_J0_length_8abf5_0 h⟩
theorem vb_J0_charAt_5068e_0 : dd_bL 357 cd_J0_charAt_5068e_0 [[], [891, 892, 893], [], [], [2491], [], [895, 896], [], [], [2491], [], []] = true := by decide +kernel
theorem vy_J0_charAt_5068e : dd_okY 357 := ⟨by decide +kernel, ⟨by decide +kernel, by decide +kernel⟩, Or.inr (List.mem_filter.mpr ⟨List.mem_of_getElem? (i := 890) (by decide +kernel), by decide +kernel⟩), List.mem_filter.mpr ⟨List.mem_of_getElem? (i := 158) (by decide +kernel), by decide +kernel⟩, by decide +kernel, trivial, by
  intro pc e h
  have h : at_J0_charAt_5068e pc = some e := h
  unfold at_J0_charAt_5068e at h
  exact dd_at_ok vb_J0_charAt_5068e_0 h⟩
theorem vb_J0_coder_7d493_0 : dd_bL 358 cd_J0_coder_7d493_0 [[885], [], [], [2492], [], [], []] = true := by decide +kernel
theorem vy_J0_coder_7d493 : dd_okY 358 := ⟨by decide +kernel, ⟨by decide +kernel, by decide +kernel⟩, Or.inr (List.mem_filter.mpr ⟨List.mem_of_getElem? (i := 884) (by decide +kernel), by decide +kernel⟩), List.mem_filter.mpr ⟨List.mem_of_getElem? (i := 158) (by decide +kernel), by decide +kernel⟩, by decide +kernel, trivial, by
  intro pc e h
  have h : at_J0_coder_7d493 pc = some e := h
  unfold at_J0_coder_7d493 at h
  exact dd_at_ok vb_J0_coder_7d493_0 h⟩
theorem vb_J0_isLatin1_aae02_0 : dd_bL 359 cd_J0_isLatin1_aae02_0 [[885], [], [], [2492], [], [], [], [], []] = true := by decide +kernel
theorem vy_J0_isLatin1_aae02 : dd_okY 359 := ⟨by decide +kernel, ⟨by decide +kernel, by decide +kernel⟩, Or.inr (List.mem_filter.mpr ⟨List.mem_of_getElem? (i := 894) (by decide +kernel), by decide +kernel⟩), List.mem_filter.mpr ⟨List.mem_of_getElem? (i := 158) (by decide +kernel), by decide +kernel⟩, by decide +kernel, trivial, by
  intro pc e h
  have h : at_J0_isLatin1_aae02 pc = some e := h
  unfold at_J0_isLatin1_aae02 at h
  exact dd_at_ok vb_J0_isLatin1_aae02_0 h⟩
theorem vb_J1_charAt_3b067_0 : dd_bL 360 cd_J1_charAt_3b067_0 [[], [], [], [898, 899], [], [], [], [], [], [], []] = true := by decide +kernel
theorem vy_J1_charAt_3b067 : dd_okY 360 := ⟨by decide +kernel, ⟨by decide +kernel, by decide +kernel⟩, Or.inr (List.mem_filter.mpr ⟨List.mem_of_getElem? (i := 897) (by decide +kernel), by decide +kernel⟩), List.mem_filter.mpr ⟨List.mem_of_getElem? (i := 159) (by decide +kernel), by decide +kernel⟩, by decide +kernel, trivial, by
  intro pc e h
  have h : at_J1_charAt_3b067 pc = some e := h
  unfold at_J1_charAt_3b067 at h
  exact dd_at_ok vb_J1_charAt_3b067_0 h⟩
theorem vb_J7_fill_53178_0 : dd_bL 361 cd_J7_fill_53178_0 [[], [], [], [], [], [], [], [], [], [], [], [], [], [], []] = true := by decide +kernel
theorem vy_J7_fill_53178 : dd_okY 361 := ⟨by decide +kernel, ⟨by decide +kernel, by decide +kernel⟩, Or.inr (List.mem_filter.mpr ⟨List.mem_of_getElem? (i := 654) (by decide +kernel), by decide +kernel⟩), List.mem_filter.mpr ⟨List.mem_of_getElem? (i := 170) (by decide +kernel), by decide +kernel⟩, by decide +kernel, trivial, by
  intro pc e h
  have h : at_J7_fill_53178 pc = some e := h
  unfold at_J7_fill_53178 at h
  exact dd_at_ok vb_J7_fill_53178_0 h⟩
theorem vb_L_wood_0 : dd_bL 362 cd_L_wood_0 [[], [], [], [837, 838, 839], [], [], [], [], [], [], [], [], [], [], []] = true := by decide +kernel
theorem vy_L_wood : dd_okY 362 := ⟨by decide +kernel, ⟨by decide +kernel, by decide +kernel⟩, Or.inr (List.mem_filter.mpr ⟨List.mem_of_getElem? (i := 834) (by decide +kernel), by decide +kernel⟩), List.mem_filter.mpr ⟨List.mem_of_getElem? (i := 143) (by decide +kernel), by decide +kernel⟩, by decide +kernel, ⟨⟨rfl, rfl, by decide, by decide, by decide, List.mem_filter.mpr ⟨List.mem_of_getElem? (i := 835) (by decide +kernel), by decide +kernel⟩, Or.inl ⟨2, by decide +kernel, rfl, rfl⟩⟩, ⟨⟨rfl, rfl, by decide, by decide, by decide, List.mem_filter.mpr ⟨List.mem_of_getElem? (i := 836) (by decide +kernel), by decide +kernel⟩, Or.inl ⟨2, by decide +kernel, rfl, rfl⟩⟩, trivial⟩⟩, by
  intro pc e h
  have h : at_L_wood pc = some e := h
  unfold at_L_wood at h
  exact dd_at_ok vb_L_wood_0 h⟩
theorem vb_L_law_0 : dd_bL 363 cd_L_law_0 [[], [], [], [1205, 1206, 1207], [], [], [], [], [], [], [], []] = true := by decide +kernel
theorem vy_L_law : dd_okY 363 := ⟨by decide +kernel, ⟨by decide +kernel, by decide +kernel⟩, Or.inr (List.mem_filter.mpr ⟨List.mem_of_getElem? (i := 1204) (by decide +kernel), by decide +kernel⟩), List.mem_filter.mpr ⟨List.mem_of_getElem? (i := 143) (by decide +kernel), by decide +kernel⟩, by decide +kernel, ⟨⟨rfl, rfl, by decide, by decide, by decide, List.mem_filter.mpr ⟨List.mem_of_getElem? (i := 835) (by decide +kernel), by decide +kernel⟩, Or.inl ⟨2, by decide +kernel, rfl, rfl⟩⟩, trivial⟩, by
  intro pc e h
  have h : at_L_law pc = some e := h
  unfold at_L_law at h
  exact dd_at_ok vb_L_law_0 h⟩
theorem vb_L_cell_0 : dd_bL 364 cd_L_cell_0 [[], [], [], [], [], [1221, 1222, 1223], [], [], [], [], [], [], [], [], [], [], []] = true := by decide +kernel
theorem vy_L_cell : dd_okY 364 := ⟨by decide +kernel, ⟨by decide +kernel, by decide +kernel⟩, Or.inr (List.mem_filter.mpr ⟨List.mem_of_getElem? (i := 1218) (by decide +kernel), by decide +kernel⟩), List.mem_filter.mpr ⟨List.mem_of_getElem? (i := 143) (by decide +kernel), by decide +kernel⟩, by decide +kernel, ⟨⟨rfl, rfl, by decide, by decide, by decide, List.mem_filter.mpr ⟨List.mem_of_getElem? (i := 1219) (by decide +kernel), by decide +kernel⟩, Or.inr ⟨by decide +kernel, rfl⟩⟩, ⟨⟨rfl, rfl, by decide, by decide, by decide, List.mem_filter.mpr ⟨List.mem_of_getElem? (i := 1220) (by decide +kernel), by decide +kernel⟩, Or.inr ⟨by decide +kernel, rfl⟩⟩, trivial⟩⟩, by
  intro pc e h
  have h : at_L_cell pc = some e := h
  unfold at_L_cell at h
  exact dd_at_ok vb_L_cell_0 h⟩
theorem vb_L_note_0 : dd_bL 365 cd_L_note_0 [[], [], [], [], [], [1265, 1266, 1267], [], [], [], [], [], [], [], []] = true := by decide +kernel
theorem vy_L_note : dd_okY 365 := ⟨by decide +kernel, ⟨by decide +kernel, by decide +kernel⟩, Or.inr (List.mem_filter.mpr ⟨List.mem_of_getElem? (i := 1264) (by decide +kernel), by decide +kernel⟩), List.mem_filter.mpr ⟨List.mem_of_getElem? (i := 143) (by decide +kernel), by decide +kernel⟩, by decide +kernel, ⟨⟨rfl, rfl, by decide, by decide, by decide, List.mem_filter.mpr ⟨List.mem_of_getElem? (i := 1219) (by decide +kernel), by decide +kernel⟩, Or.inr ⟨by decide +kernel, rfl⟩⟩, trivial⟩, by
  intro pc e h
  have h : at_L_note pc = some e := h
  unfold at_L_note at h
  exact dd_at_ok vb_L_note_0 h⟩
theorem vb_L_boy_0 : dd_bL 366 cd_L_boy_0 [[], [], [], [], [], [1282, 1283, 1284], [], [], [], [], [], [], [], [], [], [], []] = true := by decide +kernel
theorem vy_L_boy : dd_okY 366 := ⟨by decide +kernel, ⟨by decide +kernel, by decide +kernel⟩, Or.inr (List.mem_filter.mpr ⟨List.mem_of_getElem? (i := 1281) (by decide +kernel), by decide +kernel⟩), List.mem_filter.mpr ⟨List.mem_of_getElem? (i := 143) (by decide +kernel), by decide +kernel⟩, by decide +kernel, ⟨⟨rfl, rfl, by decide, by decide, by decide, List.mem_filter.mpr ⟨List.mem_of_getElem? (i := 1219) (by decide +kernel), by decide +kernel⟩, Or.inr ⟨by decide +kernel, rfl⟩⟩, ⟨⟨rfl, rfl, by decide, by decide, by decide, List.mem_filter.mpr ⟨List.mem_of_getElem? (i := 1220) (by decide +kernel), by decide +kernel⟩, Or.inr ⟨by decide +kernel, rfl⟩⟩, trivial⟩⟩, by
  intro pc e h
  have h : at_L_boy pc = some e := h
  unfold at_L_boy at h
  exact dd_at_ok vb_L_boy_0 h⟩
theorem vb_L_sing_0 : dd_bL 367 cd_L_sing_0 [[], [], [], [], [1308, 1309, 1310], [], [], [], [], [], [], [], []] = true := by decide +kernel
theorem vy_L_sing : dd_okY 367 := ⟨by decide +kernel, ⟨by decide +kernel, by decide +kernel⟩, Or.inr (List.mem_filter.mpr ⟨List.mem_of_getElem? (i := 1307) (by decide +kernel), by decide +kernel⟩), List.mem_filter.mpr ⟨List.mem_of_getElem? (i := 143) (by decide +kernel), by decide +kernel⟩, by decide +kernel, ⟨⟨rfl, rfl, by decide, by decide, by decide, List.mem_filter.mpr ⟨List.mem_of_getElem? (i := 835) (by decide +kernel), by decide +kernel⟩, Or.inl ⟨3, by decide +kernel, rfl, rfl⟩⟩, trivial⟩, by
  intro pc e h
  have h : at_L_sing pc = some e := h
  unfold at_L_sing at h
  exact dd_at_ok vb_L_sing_0 h⟩
theorem vb_L_fire_0 : dd_bL 368 cd_L_fire_0 [[], [], [], [], [1350, 1351, 1352], [], [], [], [], [], [], [], [], [], [], []] = true := by decide +kernel
theorem vy_L_fire : dd_okY 368 := ⟨by decide +kernel, ⟨by decide +kernel, by decide +kernel⟩, Or.inr (List.mem_filter.mpr ⟨List.mem_of_getElem? (i := 1348) (by decide +kernel), by decide +kernel⟩), List.mem_filter.mpr ⟨List.mem_of_getElem? (i := 143) (by decide +kernel), by decide +kernel⟩, by decide +kernel, ⟨⟨rfl, rfl, by decide, by decide, by decide, List.mem_filter.mpr ⟨List.mem_of_getElem? (i := 1219) (by decide +kernel), by decide +kernel⟩, Or.inl ⟨3, by decide +kernel, rfl, rfl⟩⟩, ⟨⟨rfl, rfl, by decide, by decide, by decide, List.mem_filter.mpr ⟨List.mem_of_getElem? (i := 1349) (by decide +kernel), by decide +kernel⟩, Or.inl ⟨3, by decide +kernel, rfl, rfl⟩⟩, trivial⟩⟩, by
  intro pc e h
  have h : at_L_fire pc = some e := h
  unfold at_L_fire at h
  exact dd_at_ok vb_L_fire_0 h⟩
theorem vb_L_plant_0 : dd_bL 369 cd_L_plant_0 [[], [], [], [], [], [1374, 1375, 1376], [], [], [], [], [], [], [], [], [], [], [], [], [], []] = true := by decide +kernel
theorem vy_L_plant : dd_okY 369 := ⟨by decide +kernel, ⟨by decide +kernel, by decide +kernel⟩, Or.inr (List.mem_filter.mpr ⟨List.mem_of_getElem? (i := 1373) (by decide +kernel), by decide +kernel⟩), List.mem_filter.mpr ⟨List.mem_of_getElem? (i := 143) (by decide +kernel), by decide +kernel⟩, by decide +kernel, ⟨⟨rfl, rfl, by decide, by decide, by decide, List.mem_filter.mpr ⟨List.mem_of_getElem? (i := 1219) (by decide +kernel), by decide +kernel⟩, Or.inr ⟨by decide +kernel, rfl⟩⟩, ⟨⟨rfl, rfl, by decide, by decide, by decide, List.mem_filter.mpr ⟨List.mem_of_getElem? (i := 1349) (by decide +kernel), by decide +kernel⟩, Or.inr ⟨by decide +kernel, rfl⟩⟩, trivial⟩⟩, by
  intro pc e h
  have h : at_L_plant pc = some e := h
  unfold at_L_plant at h
  exact dd_at_ok vb_L_plant_0 h⟩
theorem vb_L_part_0 : dd_bL 370 cd_L_part_0 [[], [], [], [], [], [1383, 1384, 1385], [], [], [], [], [], [], [], []] = true := by decide +kernel
theorem vy_L_part : dd_okY 370 := ⟨by decide +kernel, ⟨by decide +kernel, by decide +kernel⟩, Or.inr (List.mem_filter.mpr ⟨List.mem_of_getElem? (i := 1382) (by decide +kernel), by decide +kernel⟩), List.mem_filter.mpr ⟨List.mem_of_getElem? (i := 143) (by decide +kernel), by decide +kernel⟩, by decide +kernel, ⟨⟨rfl, rfl, by decide, by decide, by decide, List.mem_filter.mpr ⟨List.mem_of_getElem? (i := 1219) (by decide +kernel), by decide +kernel⟩, Or.inr ⟨by decide +kernel, rfl⟩⟩, trivial⟩, by
  intro pc e h
  have h : at_L_part pc = some e := h
  unfold at_L_part at h
  exact dd_at_ok vb_L_part_0 h⟩
theorem vb_L_tune_0 : dd_bL 371 cd_L_tune_0 [[], [], [], [], [], [], [1390, 1391, 1392], [], [], [], [], [], [], [], [], [], [], []] = true := by decide +kernel
theorem vy_L_tune : dd_okY 371 := ⟨by decide +kernel, ⟨by decide +kernel, by decide +kernel⟩, Or.inr (List.mem_filter.mpr ⟨List.mem_of_getElem? (i := 1389) (by decide +kernel), by decide +kernel⟩), List.mem_filter.mpr ⟨List.mem_of_getElem? (i := 143) (by decide +kernel), by decide +kernel⟩, by decide +kernel, ⟨⟨rfl, rfl, by decide, by decide, by decide, List.mem_filter.mpr ⟨List.mem_of_getElem? (i := 1219) (by decide +kernel), by decide +kernel⟩, Or.inr ⟨by decide +kernel, rfl⟩⟩, ⟨⟨rfl, rfl, by decide, by decide, by decide, List.mem_filter.mpr ⟨List.mem_of_getElem? (i := 835) (by decide +kernel), by decide +kernel⟩, Or.inr ⟨by decide +kernel, rfl⟩⟩, trivial⟩⟩, by
  intro pc e h
  have h : at_L_tune pc = some e := h
  unfold at_L_tune at h
  exact dd_at_ok vb_L_tune_0 h⟩
theorem vb_L_call_0 : dd_bL 372 cd_L_call_0 [[], [], [], [], [1397, 1398, 1399], [], [], [], [], [], [], [], [], [], [], []] = true := by decide +kernel
theorem vy_L_call : dd_okY 372 := ⟨by decide +kernel, ⟨by decide +kernel, by decide +kernel⟩, Or.inr (List.mem_filter.mpr ⟨List.mem_of_getElem? (i := 1396) (by decide +kernel), by decide +kernel⟩), List.mem_filter.mpr ⟨List.mem_of_getElem? (i := 143) (by decide +kernel), by decide +kernel⟩, by decide +kernel, ⟨⟨rfl, rfl, by decide, by decide, by decide, List.mem_filter.mpr ⟨List.mem_of_getElem? (i := 1219) (by decide +kernel), by decide +kernel⟩, Or.inl ⟨3, by decide +kernel, rfl, rfl⟩⟩, ⟨⟨rfl, rfl, by decide, by decide, by decide, List.mem_filter.mpr ⟨List.mem_of_getElem? (i := 1349) (by decide +kernel), by decide +kernel⟩, Or.inl ⟨3, by decide +kernel, rfl, rfl⟩⟩, trivial⟩⟩, by
  intro pc e h
  have h : at_L_call pc = some e := h
  unfold at_L_call at h
  exact dd_at_ok vb_L_call_0 h⟩
theorem vb_L_send_0 : dd_bL 373 cd_L_send_0 [[], [], [], [], [], [1406, 1407, 1408], [], [], [], [], [], [], [], [], [], [], []] = true := by decide +kernel
theorem vy_L_send : dd_okY 373 := ⟨by decide +kernel, ⟨by decide +kernel, by decide +kernel⟩, Or.inr (List.mem_filter.mpr ⟨List.mem_of_getElem? (i := 1405) (by decide +kernel), by decide +kernel⟩), List.mem_filter.mpr ⟨List.mem_of_getElem? (i := 143) (by decide +kernel), by decide +kernel⟩, by decide +kernel, ⟨⟨rfl, rfl, by decide, by decide, by decide, List.mem_filter.mpr ⟨List.mem_of_getElem? (i := 1219) (by decide +kernel), by decide +kernel⟩, Or.inr ⟨by decide +kernel, rfl⟩⟩, ⟨⟨rfl, rfl, by decide, by decide, by decide, List.mem_filter.mpr ⟨List.mem_of_getElem? (i := 1349) (by decide +kernel), by decide +kernel⟩, Or.inr ⟨by decide +kernel, rfl⟩⟩, trivial⟩⟩, by
  intro pc e h
  have h : at_L_send pc = some e := h
  unfold at_L_send at h
  exact dd_at_ok vb_L_send_0 h⟩
theorem vb_L_loud_0 : dd_bL 374 cd_L_loud_0 [[], [], [], [], [1414, 1415, 1416], [], [], [], [], [], [], [], []] = true := by decide +kernel
theorem vy_L_loud : dd_okY 374 := ⟨by decide +kernel, ⟨by decide +kernel, by decide +kernel⟩, Or.inr (List.mem_filter.mpr ⟨List.mem_of_getElem? (i := 1413) (by decide +kernel), by decide +kernel⟩), List.mem_filter.mpr ⟨List.mem_of_getElem? (i := 143) (by decide +kernel), by decide +kernel⟩, by decide +kernel, ⟨⟨rfl, rfl, by decide, by decide, by decide, List.mem_filter.mpr ⟨List.mem_of_getElem? (i := 835) (by decide +kernel), by decide +kernel⟩, Or.inl ⟨3, by decide +kernel, rfl, rfl⟩⟩, trivial⟩, by
  intro pc e h
  have h : at_L_loud pc = some e := h
  unfold at_L_loud at h
  exact dd_at_ok vb_L_loud_0 h⟩
theorem vb_L_path_0 : dd_bL 375 cd_L_path_0 [[], [], [], [], [], [1421, 1422, 1423], [], [], [], [], [], [], [], []] = true := by decide +kernel
theorem vy_L_path : dd_okY 375 := ⟨by decide +kernel, ⟨by decide +kernel, by decide +kernel⟩, Or.inr (List.mem_filter.mpr ⟨List.mem_of_getElem? (i := 1420) (by decide +kernel), by decide +kernel⟩), List.mem_filter.mpr ⟨List.mem_of_getElem? (i := 143) (by decide +kernel), by decide +kernel⟩, by decide +kernel, ⟨⟨rfl, rfl, by decide, by decide, by decide, List.mem_filter.mpr ⟨List.mem_of_getElem? (i := 1219) (by decide +kernel), by decide +kernel⟩, Or.inr ⟨by decide +kernel, rfl⟩⟩, trivial⟩, by
  intro pc e h
  have h : at_L_path pc = some e := h
  unfold at_L_path at h
  exact dd_at_ok vb_L_path_0 h⟩
theorem vb_L_soon_0 : dd_bL 376 cd_L_soon_0 [[], [], [], [], [1432, 1433, 1434], [], [], [], [], [], [], [], []] = true := by decide +kernel
theorem vy_L_soon : dd_okY 376 := ⟨by decide +kernel, ⟨by decide +kernel, by decide +kernel⟩, Or.inr (List.mem_filter.mpr ⟨List.mem_of_getElem? (i := 1431) (by decide +kernel), by decide +kernel⟩), List.mem_filter.mpr ⟨List.mem_of_getElem? (i := 143) (by decide +kernel), by decide +kernel⟩, by decide +kernel, ⟨⟨rfl, rfl, by decide, by decide, by decide, List.mem_filter.mpr ⟨List.mem_of_getElem? (i := 1219) (by decide +kernel), by decide +kernel⟩, Or.inl ⟨3, by decide +kernel, rfl, rfl⟩⟩, trivial⟩, by
  intro pc e h
  have h : at_L_soon pc = some e := h
  unfold at_L_soon at h
  exact dd_at_ok vb_L_soon_0 h⟩
theorem vb_L_by_0 : dd_bL 377 cd_L_by_0 [[], [], [], [], [], [1439, 1440, 1441], [], [], [], [], [], [], [], []] = true := by decide +kernel
theorem vy_L_by : dd_okY 377 := ⟨by decide +kernel, ⟨by decide +kernel, by decide +kernel⟩, Or.inr (List.mem_filter.mpr ⟨List.mem_of_getElem? (i := 1438) (by decide +kernel), by decide +kernel⟩), List.mem_filter.mpr ⟨List.mem_of_getElem? (i := 143) (by decide +kernel), by decide +kernel⟩, by decide +kernel, ⟨⟨rfl, rfl, by decide, by decide, by decide, List.mem_filter.mpr ⟨List.mem_of_getElem? (i := 1219) (by decide +kernel), by decide +kernel⟩, Or.inr ⟨by decide +kernel, rfl⟩⟩, trivial⟩, by
  intro pc e h
  have h : at_L_by pc = some e := h
  unfold at_L_by at h
  exact dd_at_ok vb_L_by_0 h⟩
theorem vb_L_best_0 : dd_bL 378 cd_L_best_0 [[], [], [], [], [1451, 1452, 1453], [], [], [], [], [], [], [], []] = true := by decide +kernel
theorem vy_L_best : dd_okY 378 := ⟨by decide +kernel, ⟨by decide +kernel, by decide +kernel⟩, Or.inr (List.mem_filter.mpr ⟨List.mem_of_getElem? (i := 1450) (by decide +kernel), by decide +kernel⟩), List.mem_filter.mpr ⟨List.mem_of_getElem? (i := 143) (by decide +kernel), by decide +kernel⟩, by decide +kernel, ⟨⟨rfl, rfl, by decide, by decide, by decide, List.mem_filter.mpr ⟨List.mem_of_getElem? (i := 1219) (by decide +kernel), by decide +kernel⟩, Or.inl ⟨3, by decide +kernel, rfl, rfl⟩⟩, trivial⟩, by
  intro pc e h
  have h : at_L_best pc = some e := h
  unfold at_L_best at h
  exact dd_at_ok vb_L_best_0 h⟩
theorem vb_L_calls_0 : dd_bL 379 cd_L_calls_0 [[], [], [], [], [1458, 1459, 1460], [], [], [], [], [], [], [], []] = true := by decide +kernel
theorem vy_L_calls : dd_okY 379 := ⟨by decide +kernel, ⟨by decide +kernel, by decide +kernel⟩, Or.inr (List.mem_filter.mpr ⟨List.mem_of_getElem? (i := 1457) (by decide +kernel), by decide +kernel⟩), List.mem_filter.mpr ⟨List.mem_of_getElem? (i := 143) (by decide +kernel), by decide +kernel⟩, by decide +kernel, ⟨⟨rfl, rfl, by decide, by decide, by decide, List.mem_filter.mpr ⟨List.mem_of_getElem? (i := 1219) (by decide +kernel), by decide +kernel⟩, Or.inl ⟨3, by decide +kernel, rfl, rfl⟩⟩, trivial⟩, by
  intro pc e h
  have h : at_L_calls pc = some e := h
  unfold at_L_calls at h
  exact dd_at_ok vb_L_calls_0 h⟩
theorem vb_L_first_0 : dd_bL 380 cd_L_first_0 [[], [], [], [], [1491, 1492, 1493], [], [], [], [], [], [], [], []] = true := by decide +kernel
theorem vy_L_first : dd_okY 380 := ⟨by decide +kernel, ⟨by decide +kernel, by decide +kernel⟩, Or.inr (List.mem_filter.mpr ⟨List.mem_of_getElem? (i := 1490) (by decide +kernel), by decide +kernel⟩), List.mem_filter.mpr ⟨List.mem_of_getElem? (i := 143) (by decide +kernel), by decide +kernel⟩, by decide +kernel, ⟨⟨rfl, rfl, by decide, by decide, by decide, List.mem_filter.mpr ⟨List.mem_of_getElem? (i := 1219) (by decide +kernel), by decide +kernel⟩, Or.inl ⟨3, by decide +kernel, rfl, rfl⟩⟩, trivial⟩, by
  intro pc e h
  have h : at_L_first pc = some e := h
  unfold at_L_first at h
  exact dd_at_ok vb_L_first_0 h⟩
theorem vb_L_can_0 : dd_bL 381 cd_L_can_0 [[], [], [], [], [], [1509, 1510, 1511], [], [], [], [], [], [], [], [], [], [], []] = true := by decide +kernel
theorem vy_L_can : dd_okY 381 := ⟨by decide +kernel, ⟨by decide +kernel, by decide +kernel⟩, Or.inr (List.mem_filter.mpr ⟨List.mem_of_getElem? (i := 1508) (by decide +kernel), by decide +kernel⟩), List.mem_filter.mpr ⟨List.mem_of_getElem? (i := 143) (by decide +kernel), by decide +kernel⟩, by decide +kernel, ⟨⟨rfl, rfl, by decide, by decide, by decide, List.mem_filter.mpr ⟨List.mem_of_getElem? (i := 1219) (by decide +kernel), by decide +kernel⟩, Or.inr ⟨by decide +kernel, rfl⟩⟩, ⟨⟨rfl, rfl, by decide, by decide, by decide, List.mem_filter.mpr ⟨List.mem_of_getElem? (i := 835) (by decide +kernel), by decide +kernel⟩, Or.inr ⟨by decide +kernel, rfl⟩⟩, trivial⟩⟩, by
  intro pc e h
  have h : at_L_can pc = some e := h
  unfold at_L_can at h
  exact dd_at_ok vb_L_can_0 h⟩
theorem vb_L_lost_0 : dd_bL 382 cd_L_lost_0 [[], [], [], [], [], [1521, 1522, 1523], [], [], [], [], [], [], [], [], [], [], []] = true := by decide +kernel
theorem vy_L_lost : dd_okY 382 := ⟨by decide +kernel, ⟨by decide +kernel, by decide +kernel⟩, Or.inr (List.mem_filter.mpr ⟨List.mem_of_getElem? (i := 1520) (by decide +kernel), by decide +kernel⟩), List.mem_filter.mpr ⟨List.mem_of_getElem? (i := 143) (by decide +kernel), by decide +kernel⟩, by decide +kernel, ⟨⟨rfl, rfl, by decide, by decide, by decide, List.mem_filter.mpr ⟨List.mem_of_getElem? (i := 1219) (by decide +kernel), by decide +kernel⟩, Or.inr ⟨by decide +kernel, rfl⟩⟩, ⟨⟨rfl, rfl, by decide, by decide, by decide, List.mem_filter.mpr ⟨List.mem_of_getElem? (i := 835) (by decide +kernel), by decide +kernel⟩, Or.inr ⟨by decide +kernel, rfl⟩⟩, trivial⟩⟩, by
  intro pc e h
  have h : at_L_lost pc = some e := h
  unfold at_L_lost at h
  exact dd_at_ok vb_L_lost_0 h⟩
theorem vb_L_sounds_0 : dd_bL 383 cd_L_sounds_0 [[], [], [], [], [1530, 1531, 1532], [], [], [], [], [], [], [], []] = true := by decide +kernel
theorem vy_L_sounds : dd_okY 383 := ⟨by decide +kernel, ⟨by decide +kernel, by decide +kernel⟩, Or.inr (List.mem_filter.mpr ⟨List.mem_of_getElem? (i := 1529) (by decide +kernel), by decide +kernel⟩), List.mem_filter.mpr ⟨List.mem_of_getElem? (i := 143) (by decide +kernel), by decide +kernel⟩, by decide +kernel, ⟨⟨rfl, rfl, by decide, by decide, by decide, List.mem_filter.mpr ⟨List.mem_of_getElem? (i := 835) (by decide +kernel), by decide +kernel⟩, Or.inl ⟨3, by decide +kernel, rfl, rfl⟩⟩, trivial⟩, by
  intro pc e h
  have h : at_L_sounds pc = some e := h
  unfold at_L_sounds at h
  exact dd_at_ok vb_L_sounds_0 h⟩
theorem vb_L_listen_0 : dd_bL 384 cd_L_listen_0 [[], [], [], [1563, 1564, 1565], [], [], [], [], [], [], [], []] = true := by decide +kernel
theorem vy_L_listen : dd_okY 384 := ⟨by decide +kernel, ⟨by decide +kernel, by decide +kernel⟩, Or.inr (List.mem_filter.mpr ⟨List.mem_of_getElem? (i := 1562) (by decide +kernel), by decide +kernel⟩), List.mem_filter.mpr ⟨List.mem_of_getElem? (i := 143) (by decide +kernel), by decide +kernel⟩, by decide +kernel, ⟨⟨rfl, rfl, by decide, by decide, by decide, List.mem_filter.mpr ⟨List.mem_of_getElem? (i := 835) (by decide +kernel), by decide +kernel⟩, Or.inl ⟨2, by decide +kernel, rfl, rfl⟩⟩, trivial⟩, by
  intro pc e h
  have h : at_L_listen pc = some e := h
  unfold at_L_listen at h
  exact dd_at_ok vb_L_listen_0 h⟩
theorem vb_L_ears_0 : dd_bL 385 cd_L_ears_0 [[], [], [], [], [1579, 1580, 1581], [], [], [], [], [], [], [], [], [], [], []] = true := by decide +kernel
theorem vy_L_ears : dd_okY 385 := ⟨by decide +kernel, ⟨by decide +kernel, by decide +kernel⟩, Or.inr (List.mem_filter.mpr ⟨List.mem_of_getElem? (i := 1578) (by decide +kernel), by decide +kernel⟩), List.mem_filter.mpr ⟨List.mem_of_getElem? (i := 143) (by decide +kernel), by decide +kernel⟩, by decide +kernel, ⟨⟨rfl, rfl, by decide, by decide, by decide, List.mem_filter.mpr ⟨List.mem_of_getElem? (i := 1219) (by decide +kernel), by decide +kernel⟩, Or.inl ⟨3, by decide +kernel, rfl, rfl⟩⟩, ⟨⟨rfl, rfl, by decide, by decide, by decide, List.mem_filter.mpr ⟨List.mem_of_getElem? (i := 835) (by decide +kernel), by decide +kernel⟩, Or.inl ⟨3, by decide +kernel, rfl, rfl⟩⟩, trivial⟩⟩, by
  intro pc e h
  have h : at_L_ears pc = some e := h
  unfold at_L_ears at h
  exact dd_at_ok vb_L_ears_0 h⟩
theorem vb_L_shifted_0 : dd_bL 386 cd_L_shifted_0 [[], [], [], [], [], [1595, 1596, 1597], [], [], [], [], [], [], [], [], [], [], []] = true := by decide +kernel
theorem vy_L_shifted : dd_okY 386 := ⟨by decide +kernel, ⟨by decide +kernel, by decide +kernel⟩, Or.inr (List.mem_filter.mpr ⟨List.mem_of_getElem? (i := 1594) (by decide +kernel), by decide +kernel⟩), List.mem_filter.mpr ⟨List.mem_of_getElem? (i := 143) (by decide +kernel), by decide +kernel⟩, by decide +kernel, ⟨⟨rfl, rfl, by decide, by decide, by decide, List.mem_filter.mpr ⟨List.mem_of_getElem? (i := 1219) (by decide +kernel), by decide +kernel⟩, Or.inr ⟨by decide +kernel, rfl⟩⟩, ⟨⟨rfl, rfl, by decide, by decide, by decide, List.mem_filter.mpr ⟨List.mem_of_getElem? (i := 835) (by decide +kernel), by decide +kernel⟩, Or.inr ⟨by decide +kernel, rfl⟩⟩, trivial⟩⟩, by
  intro pc e h
  have h : at_L_shifted pc = some e := h
  unfold at_L_shifted at h
  exact dd_at_ok vb_L_shifted_0 h⟩
theorem vb_L_silence_0 : dd_bL 387 cd_L_silence_0 [[], [], [], [], [1611, 1612, 1613], [], [], [], [], [], [], [], []] = true := by decide +kernel
theorem vy_L_silence : dd_okY 387 := ⟨by decide +kernel, ⟨by decide +kernel, by decide +kernel⟩, Or.inr (List.mem_filter.mpr ⟨List.mem_of_getElem? (i := 1610) (by decide +kernel), by decide +kernel⟩), List.mem_filter.mpr ⟨List.mem_of_getElem? (i := 143) (by decide +kernel), by decide +kernel⟩, by decide +kernel, ⟨⟨rfl, rfl, by decide, by decide, by decide, List.mem_filter.mpr ⟨List.mem_of_getElem? (i := 1219) (by decide +kernel), by decide +kernel⟩, Or.inl ⟨3, by decide +kernel, rfl, rfl⟩⟩, trivial⟩, by
  intro pc e h
  have h : at_L_silence pc = some e := h
  unfold at_L_silence at h
  exact dd_at_ok vb_L_silence_0 h⟩
theorem vb_L_hush_0 : dd_bL 388 cd_L_hush_0 [[], [], [], [], [1618, 1619, 1620], [], [], [], [], [], [], [], []] = true := by decide +kernel
theorem vy_L_hush : dd_okY 388 := ⟨by decide +kernel, ⟨by decide +kernel, by decide +kernel⟩, Or.inr (List.mem_filter.mpr ⟨List.mem_of_getElem? (i := 1617) (by decide +kernel), by decide +kernel⟩), List.mem_filter.mpr ⟨List.mem_of_getElem? (i := 143) (by decide +kernel), by decide +kernel⟩, by decide +kernel, ⟨⟨rfl, rfl, by decide, by decide, by decide, List.mem_filter.mpr ⟨List.mem_of_getElem? (i := 1219) (by decide +kernel), by decide +kernel⟩, Or.inl ⟨3, by decide +kernel, rfl, rfl⟩⟩, trivial⟩, by
  intro pc e h
  have h : at_L_hush pc = some e := h
  unfold at_L_hush at h
  exact dd_at_ok vb_L_hush_0 h⟩
theorem vb_L_mends_0 : dd_bL 389 cd_L_mends_0 [[], [], [], [], [1626, 1627, 1628], [], [], [], [], [], [], [], []] = true := by decide +kernel
theorem vy_L_mends : dd_okY 389 := ⟨by decide +kernel, ⟨by decide +kernel, by decide +kernel⟩, Or.inr (List.mem_filter.mpr ⟨List.mem_of_getElem? (i := 1625) (by decide +kernel), by decide +kernel⟩), List.mem_filter.mpr ⟨List.mem_of_getElem? (i := 143) (by decide +kernel), by decide +kernel⟩, by decide +kernel, ⟨⟨rfl, rfl, by decide, by decide, by decide, List.mem_filter.mpr ⟨List.mem_of_getElem? (i := 1219) (by decide +kernel), by decide +kernel⟩, Or.inl ⟨3, by decide +kernel, rfl, rfl⟩⟩, trivial⟩, by
  intro pc e h
  have h : at_L_mends pc = some e := h
  unfold at_L_mends at h
  exact dd_at_ok vb_L_mends_0 h⟩
theorem vb_L_meet_0 : dd_bL 390 cd_L_meet_0 [[], [], [], [], [], [1633, 1634, 1635], [], [], [], [], [], [], [], [], [], [], []] = true := by decide +kernel
theorem vy_L_meet : dd_okY 390 := ⟨by decide +kernel, ⟨by decide +kernel, by decide +kernel⟩, Or.inr (List.mem_filter.mpr ⟨List.mem_of_getElem? (i := 1632) (by decide +kernel), by decide +kernel⟩), List.mem_filter.mpr ⟨List.mem_of_getElem? (i := 143) (by decide +kernel), by decide +kernel⟩, by decide +kernel, ⟨⟨rfl, rfl, by decide, by decide, by decide, List.mem_filter.mpr ⟨List.mem_of_getElem? (i := 1219) (by decide +kernel), by decide +kernel⟩, Or.inr ⟨by decide +kernel, rfl⟩⟩, ⟨⟨rfl, rfl, by decide, by decide, by decide, List.mem_filter.mpr ⟨List.mem_of_getElem? (i := 835) (by decide +kernel), by decide +kernel⟩, Or.inr ⟨by decide +kernel, rfl⟩⟩, trivial⟩⟩, by
  intro pc e h
  have h : at_L_meet pc = some e := h
  unfold at_L_meet at h
  exact dd_at_ok vb_L_meet_0 h⟩
theorem vb_L_rests_0 : dd_bL 391 cd_L_rests_0 [[], [], [], [], [1640, 1641, 1642], [], [], [], [], [], [], [], []] = true := by decide +kernel
theorem vy_L_rests : dd_okY 391 := ⟨by decide +kernel, ⟨by decide +kernel, by decide +kernel⟩, Or.inr (List.mem_filter.mpr ⟨List.mem_of_getElem? (i := 1639) (by decide +kernel), by decide +kernel⟩), List.mem_filter.mpr ⟨List.mem_of_getElem? (i := 143) (by decide +kernel), by decide +kernel⟩, by decide +kernel, ⟨⟨rfl, rfl, by decide, by decide, by decide, List.mem_filter.mpr ⟨List.mem_of_getElem? (i := 1219) (by decide +kernel), by decide +kernel⟩, Or.inl ⟨3, by decide +kernel, rfl, rfl⟩⟩, trivial⟩, by
  intro pc e h
  have h : at_L_rests pc = some e := h
  unfold at_L_rests at h
  exact dd_at_ok vb_L_rests_0 h⟩
theorem vb_L_odds_0 : dd_bL 392 cd_L_odds_0 [[], [], [], [], [], [1653, 1654, 1655], [], [], [], [], [], [], [], [], [], [], []] = true := by decide +kernel
theorem vy_L_odds : dd_okY 392 := ⟨by decide +kernel, ⟨by decide +kernel, by decide +kernel⟩, Or.inr (List.mem_filter.mpr ⟨List.mem_of_getElem? (i := 1652) (by decide +kernel), by decide +kernel⟩), List.mem_filter.mpr ⟨List.mem_of_getElem? (i := 143) (by decide +kernel), by decide +kernel⟩, by decide +kernel, ⟨⟨rfl, rfl, by decide, by decide, by decide, List.mem_filter.mpr ⟨List.mem_of_getElem? (i := 1219) (by decide +kernel), by decide +kernel⟩, Or.inr ⟨by decide +kernel, rfl⟩⟩, ⟨⟨rfl, rfl, by decide, by decide, by decide, List.mem_filter.mpr ⟨List.mem_of_getElem? (i := 835) (by decide +kernel), by decide +kernel⟩, Or.inr ⟨by decide +kernel, rfl⟩⟩, trivial⟩⟩, by
  intro pc e h
  have h : at_L_odds pc = some e := h
  unfold at_L_odds at h
  exact dd_at_ok vb_L_odds_0 h⟩
theorem vb_L_ahead_0 : dd_bL 393 cd_L_ahead_0 [[], [], [], [], [], [1660, 1661, 1662], [], [], [], [], [], [], [], [], [], [], []] = true := by decide +kernel
theorem vy_L_ahead : dd_okY 393 := ⟨by decide +kernel, ⟨by decide +kernel, by decide +kernel⟩, Or.inr (List.mem_filter.mpr ⟨List.mem_of_getElem? (i := 1659) (by decide +kernel), by decide +kernel⟩), List.mem_filter.mpr ⟨List.mem_of_getElem? (i := 143) (by decide +kernel), by decide +kernel⟩, by decide +kernel, ⟨⟨rfl, rfl, by decide, by decide, by decide, List.mem_filter.mpr ⟨List.mem_of_getElem? (i := 1219) (by decide +kernel), by decide +kernel⟩, Or.inr ⟨by decide +kernel, rfl⟩⟩, ⟨⟨rfl, rfl, by decide, by decide, by decide, List.mem_filter.mpr ⟨List.mem_of_getElem? (i := 835) (by decide +kernel), by decide +kernel⟩, Or.inr ⟨by decide +kernel, rfl⟩⟩, trivial⟩⟩, by
  intro pc e h
  have h : at_L_ahead pc = some e := h
  unfold at_L_ahead at h
  exact dd_at_ok vb_L_ahead_0 h⟩
theorem vb_L_trial_0 : dd_bL 394 cd_L_trial_0 [[], [], [], [], [], [1667, 1668, 1669], [], [], [], [], [], [], [], []] = true := by decide +kernel
theorem vy_L_trial : dd_okY 394 := ⟨by decide +kernel, ⟨by decide +kernel, by decide +kernel⟩, Or.inr (List.mem_filter.mpr ⟨List.mem_of_getElem? (i := 1666) (by decide +kernel), by decide +kernel⟩), List.mem_filter.mpr ⟨List.mem_of_getElem? (i := 143) (by decide +kernel), by decide +kernel⟩, by decide +kernel, ⟨⟨rfl, rfl, by decide, by decide, by decide, List.mem_filter.mpr ⟨List.mem_of_getElem? (i := 835) (by decide +kernel), by decide +kernel⟩, Or.inr ⟨by decide +kernel, rfl⟩⟩, trivial⟩, by
  intro pc e h
  have h : at_L_trial pc = some e := h
  unfold at_L_trial at h
  exact dd_at_ok vb_L_trial_0 h⟩
theorem vb_L_span_0 : dd_bL 395 cd_L_span_0 [[], [], [], [], [], [1674, 1675, 1676], [], [], [], [], [], [], [], []] = true := by decide +kernel
theorem vy_L_span : dd_okY 395 := ⟨by decide +kernel, ⟨by decide +kernel, by decide +kernel⟩, Or.inr (List.mem_filter.mpr ⟨List.mem_of_getElem? (i := 1673) (by decide +kernel), by decide +kernel⟩), List.mem_filter.mpr ⟨List.mem_of_getElem? (i := 143) (by decide +kernel), by decide +kernel⟩, by decide +kernel, ⟨⟨rfl, rfl, by decide, by decide, by decide, List.mem_filter.mpr ⟨List.mem_of_getElem? (i := 835) (by decide +kernel), by decide +kernel⟩, Or.inr ⟨by decide +kernel, rfl⟩⟩, trivial⟩, by
  intro pc e h
  have h : at_L_span pc = some e := h
  unfold at_L_span at h
  exact dd_at_ok vb_L_span_0 h⟩
theorem vb_L_led_0 : dd_bL 396 cd_L_led_0 [[], [], [], [], [], [1681, 1682, 1683], [], [], [], [], [], [], [], []] = true := by decide +kernel
theorem vy_L_led : dd_okY 396 := ⟨by decide +kernel, ⟨by decide +kernel, by decide +kernel⟩, Or.inr (List.mem_filter.mpr ⟨List.mem_of_getElem? (i := 1680) (by decide +kernel), by decide +kernel⟩), List.mem_filter.mpr ⟨List.mem_of_getElem? (i := 143) (by decide +kernel), by decide +kernel⟩, by decide +kernel, ⟨⟨rfl, rfl, by decide, by decide, by decide, List.mem_filter.mpr ⟨List.mem_of_getElem? (i := 1219) (by decide +kernel), by decide +kernel⟩, Or.inr ⟨by decide +kernel, rfl⟩⟩, trivial⟩, by
  intro pc e h
  have h : at_L_led pc = some e := h
  unfold at_L_led at h
  exact dd_at_ok vb_L_led_0 h⟩
theorem vb_L_log_0 : dd_bL 397 cd_L_log_0 [[], [], [], [], [], [1692, 1693, 1694], [], [], [], [], [], [], [], []] = true := by decide +kernel
theorem vy_L_log : dd_okY 397 := ⟨by decide +kernel, ⟨by decide +kernel, by decide +kernel⟩, Or.inr (List.mem_filter.mpr ⟨List.mem_of_getElem? (i := 1691) (by decide +kernel), by decide +kernel⟩), List.mem_filter.mpr ⟨List.mem_of_getElem? (i := 143) (by decide +kernel), by decide +kernel⟩, by decide +kernel, ⟨⟨rfl, rfl, by decide, by decide, by decide, List.mem_filter.mpr ⟨List.mem_of_getElem? (i := 1220) (by decide +kernel), by decide +kernel⟩, Or.inr ⟨by decide +kernel, rfl⟩⟩, trivial⟩, by
  intro pc e h
  have h : at_L_log pc = some e := h
  unfold at_L_log at h
  exact dd_at_ok vb_L_log_0 h⟩
theorem vb_L_law__0 : dd_bL 398 cd_L_law__0 [[173, 174, 144], [], [175, 176], [], [1701, 1702, 155], [], [1703, 1704], [], [], [465], [], [], [], [], [], [], [], [], [], [], [], [], [], [], [], [], [], [], [], [], [], [], [], [], [], [], [], [], [], [], [], [], [], [], [], [], [], []] = true := by decide +kernel
theorem vb_L_law__1 : dd_bL 398 cd_L_law__1 [[], [], [], [543, 544, 545], [], [], [], [], [], [], [], [], [], [], [], [], [], [], [], [], [], [], [], [], [], [], [], [], [], [], [1798, 1799, 1800], [], [], [], [], [], [], [], [], [], [551, 552, 553], [], [], [], [], [], [], [1802, 1803, 1804]] = true := by decide +kernel
theorem vb_L_law__2 : dd_bL 398 cd_L_law__2 [[], [], [], [], [], [832, 833], [], [], [1810, 1811, 1812], [], [], [1697, 1698, 1699], [], [], [], [], [], [], [], [], [], [], [], [], [], [], [], [], [], [], [1202, 1203], [], [], [1991, 1992, 1993], [], [], [1697, 1698, 1699], [], [], [], [], [], [], [], [], [], [], []] = true := by decide +kernel
theorem vb_L_law__3 : dd_bL 398 cd_L_law__3 [[], [], [], [], [], [], [555, 556, 557], [], [1806, 1807, 1808], [], [], [], [], [], [], [], [], [], [], [], [], [], [], [], [1216, 1217], [], [], [], [], [], [], [], [], [], [], [], [], [2084, 2085, 2086], [], [], [1697, 1698, 1699], [], [], [], [], [], [], []] = true := by decide +kernel
theorem vb_L_law__4 : dd_bL 398 cd_L_law__4 [[], [], [], [], [], [], [], [], [], [], [], [], [], [], [], [], [], [], [], [], [], [1262, 1263], [], [], [], [], [], [], [], [], [], [], [], [], [2091, 2092, 2093], [], [], [1697, 1698, 1699], [], [], [], [], [], [], [], [], [], []] = true := by decide +kernel
theorem vb_L_law__5 : dd_bL 398 cd_L_law__5 [[], [], [], [], [], [], [], [], [], [], [], [], [], [], [], [], [], [], [1279, 1280], [], [], [], [], [], [], [], [], [], [], [], [], [2102, 2103, 2104], [], [], [1697, 1698, 1699], [], [], [], [], [], [], [], [], [], [], [], [], []] = true := by decide +kernel
theorem vb_L_law__6 : dd_bL 398 cd_L_law__6 [[], [], [], [], [], [], [], [], [], [], [1305, 1306], [], [], [], [], [], [], [], [1995, 1996, 1997], [], [], [1697, 1698, 1699], [], [], [], [], [], [], [], [], [], [], [], [], [], [], [], [], [], [], [], [], [], [], [], [1346, 1347], [], []] = true := by decide +kernel
theorem vb_L_law__7 : dd_bL 398 cd_L_law__7 [[], [], [], [], [], [2134, 2135, 2136], [], [], [1697, 1698, 1699], [], [], [], [], [], [], [], [], [], [], [], [], [], [], [], [], [], [], [], [], [], [], [], [], [], [], [], [], [], [], [], [], [1371, 1372], [], [], [], [], [], []] = true := by decide +kernel
theorem vb_L_law__8 : dd_bL 398 cd_L_law__8 [[], [], [], [], [], [], [], [], [], [], [2138, 2139, 2140], [], [], [1697, 1698, 1699], [], [], [], [], [], [], [], [], [], [], [], [], [], [], [], [], [], [], [], [], [], [], [], [], [], [], [], [], [], [], [], [1380, 1381], [], []] = true := by decide +kernel
theorem vb_L_law__9 : dd_bL 398 cd_L_law__9 [[], [], [], [], [], [], [], [], [], [], [2142, 2143, 2144], [], [], [1697, 1698, 1699], [], [], [], [], [], [], [], [], [], [], [], [], [], [], [], [], [], [], [], [], [], [], [], [], [], [], [], [], [], [], [], [], [], [1387, 1388]] = true := by decide +kernel
theorem vb_L_law__10 : dd_bL 398 cd_L_law__10 [[], [], [], [], [], [], [], [], [], [], [], [], [], [], [], [], [], [2150, 2151, 2152], [], [], [1697, 1698, 1699], [], [], [], [], [], [], [], [], [], [], [], [], [], [], [], [], [], [], [], [], [], [], [], [1394, 1395], [], [], []] = true := by decide +kernel
theorem vb_L_law__11 : dd_bL 398 cd_L_law__11 [[], [], [], [], [2154, 2155, 2156], [], [], [1697, 1698, 1699], [], [], [], [], [], [], [], [], [], [], [], [], [], [], [], [], [], [], [], [], [], [], [], [], [], [], [], [], [1403, 1404], [], [], [], [], [], [], [], [], [], [], []] = true := by decide +kernel
theorem vb_L_law__12 : dd_bL 398 cd_L_law__12 [[], [2158, 2159, 2160], [], [], [1697, 1698, 1699], [], [], [], [], [], [], [], [], [], [], [], [], [], [], [], [], [], [], [], [], [], [], [], [1411, 1412], [], [], [], [], [], [], [], [2162, 2163, 2164], [], [], [1697, 1698, 1699], [], [], [], [], [], [], [], []] = true := by decide +kernel
theorem vb_L_law__13 : dd_bL 398 cd_L_law__13 [[], [], [], [], [], [], [], [], [], [], [], [], [], [], [], [], [], [], [], [], [1418, 1419], [], [], [], [], [], [], [], [], [], [], [], [], [2166, 2167, 2168], [], [], [1697, 1698, 1699], [], [], [], [], [], [], [], [], [], [], []] = true := by decide +kernel
theorem vb_L_law__14 : dd_bL 398 cd_L_law__14 [[], [], [], [], [], [], [], [], [], [], [], [], [1429, 1430], [], [], [], [], [], [], [], [2199, 2200, 2201], [], [], [1697, 1698, 1699], [], [], [], [], [], [], [], [], [], [], [], [], [], [], [], [], [], [], [], [], [], [], [], []] = true := by decide +kernel
theorem vb_L_law__15 : dd_bL 398 cd_L_law__15 [[], [], [], [], [1436, 1437], [], [], [], [], [], [], [], [], [], [], [], [], [2214, 2215, 2216], [], [], [1697, 1698, 1699], [], [], [], [], [], [], [], [], [], [], [], [], [], [], [], [], [], [], [], [], [], [], [], [1448, 1449], [], [], []] = true := by decide +kernel
theorem vb_L_law__16 : dd_bL 398 cd_L_law__16 [[], [], [], [], [2222, 2223, 2224], [], [], [1697, 1698, 1699], [], [], [], [], [], [], [], [], [], [], [], [], [], [], [], [], [], [567, 568, 569], [], [2226, 2227, 2228], [], [], [], [], [639, 640, 641], [], [2174, 2175, 2176], [], [], [], [], [], [], [], [], [], [], [1455, 1456], [], []] = true := by decide +kernel
theorem vb_L_law__17 : dd_bL 398 cd_L_law__17 [[], [], [], [], [], [2257, 2258, 2259], [], [], [1697, 1698, 1699], [], [], [], [], [], [], [], [], [], [], [], [], [], [], [], [], [], [], [], [], [], [], [], [1488, 1489], [], [], [], [], [], [], [], [2277, 2278, 2279], [], [], [1697, 1698, 1699], [], [], [], []] = true := by decide +kernel
theorem vb_L_law__18 : dd_bL 398 cd_L_law__18 [[], [], [], [], [], [], [], [], [], [], [], [], [], [], [], [], [], [], [], [], [], [], [], [], [1506, 1507], [], [], [], [], [], [], [], [], [], [], [], [], [2281, 2282, 2283], [], [], [1697, 1698, 1699], [], [], [], [], [], [], []] = true := by decide +kernel
theorem vb_L_law__19 : dd_bL 398 cd_L_law__19 [[], [], [], [], [], [], [], [], [], [], [], [], [], [], [], [], [], [], [], [], [], [1518, 1519], [], [], [], [], [], [], [], [], [], [], [], [], [2285, 2286, 2287], [], [], [1697, 1698, 1699], [], [], [], [], [], [], [], [], [], []] = true := by decide +kernel
theorem vb_L_law__20 : dd_bL 398 cd_L_law__20 [[], [], [], [], [], [], [], [], [], [], [], [], [], [], [], [], [], [1527, 1528], [], [], [], [], [], [], [], [], [], [], [], [2302, 2303, 2304], [], [], [1697, 1698, 1699], [], [], [], [], [], [], [], [], [], [], [], [], [], [], []] = true := by decide +kernel
theorem vb_L_law__21 : dd_bL 398 cd_L_law__21 [[], [], [], [1560, 1561], [], [], [2318, 2319, 2320], [], [], [1697, 1698, 1699], [], [], [], [], [], [], [], [], [], [], [], [], [], [], [], [], [], [], [], [], [], [], [], [1576, 1577], [], [], [], [], [], [], [], [2326, 2327, 2328], [], [], [1697, 1698, 1699], [], [], []] = true := by decide +kernel
theorem vb_L_law__22 : dd_bL 398 cd_L_law__22 [[], [], [], [], [], [], [], [], [], [], [], [], [], [], [671, 672, 673], [], [2338, 2339, 2340], [], [], [], [], [], [], [], [], [], [], [], [], [], [], [], [1592, 1593], [], [], [], [], [], [], [], [], [], [], [], [], [2354, 2355, 2356], [], []] = true := by decide +kernel
theorem vb_L_law__23 : dd_bL 398 cd_L_law__23 [[1697, 1698, 1699], [], [], [], [], [], [], [], [], [], [], [], [], [], [], [], [], [], [], [], [], [], [], [], [1608, 1609], [], [], [], [], [], [], [], [2362, 2363, 2364], [], [], [1697, 1698, 1699], [], [], [], [], [], [], [], [], [], [], [], []] = true := by decide +kernel
theorem vb_L_law__24 : dd_bL 398 cd_L_law__24 [[], [], [], [], [], [], [], [], [], [], [], [1615, 1616], [], [], [], [], [], [], [], [2370, 2371, 2372], [], [], [1697, 1698, 1699], [], [], [], [], [], [], [], [], [], [], [], [], [], [], [], [], [], [689, 690, 691], [], [2374, 2375, 2376], [], [], [], [], []] = true := by decide +kernel
theorem vb_L_law__25 : dd_bL 398 cd_L_law__25 [[], [], [], [], [], [1623, 1624], [], [], [], [], [], [], [], [2241, 2242, 2243], [], [], [1697, 1698, 1699], [], [], [], [], [], [], [], [], [], [], [], [], [], [], [], [], [], [], [], [], [], [], [], [], [], [], [], [], [1630, 1631], [], []] = true := by decide +kernel
theorem vb_L_law__26 : dd_bL 398 cd_L_law__26 [[], [], [], [], [], [], [], [], [], [], [2245, 2246, 2247], [], [], [1697, 1698, 1699], [], [], [], [], [], [], [], [], [], [], [], [], [], [], [], [], [], [697, 698, 699], [], [2249, 2250, 2251], [], [], [], [], [702, 703, 704], [], [2253, 2254, 2255], [], [], [], [], [706, 707, 708], [], [2378, 2379, 2380]] = true := by decide +kernel
theorem vb_L_law__27 : dd_bL 398 cd_L_law__27 [[], [], [], [], [720, 721, 722], [], [2187, 2188, 2189], [], [], [], [], [728, 729, 730], [], [2191, 2192, 2193], [], [], [], [], [], [], [], [], [], [], [1637, 1638], [], [], [], [], [], [], [], [2386, 2387, 2388], [], [], [1697, 1698, 1699], [], [], [], [], [], [], [], [], [], [], [], []] = true := by decide +kernel
theorem vb_L_law__28 : dd_bL 398 cd_L_law__28 [[], [], [], [], [], [750, 751, 752], [], [2397, 2398, 2399], [], [], [], [], [762, 763, 764], [], [2401, 2402, 2403], [], [], [], [], [772, 773, 774], [], [2409, 2410, 2411], [], [], [], [], [776, 777, 778], [], [2413, 2414, 2415], [], [], [], [], [780, 781, 782], [], [2417, 2418, 2419], [], [], [], [], [789, 790, 791], [], [2421, 2422, 2423], [], [], [], [], []] = true := by decide +kernel
theorem vb_L_law__29 : dd_bL 398 cd_L_law__29 [[], [], [], [], [], [], [], [], [], [], [1650, 1651], [], [], [], [], [], [], [], [], [], [], [], [], [2425, 2426, 2427], [], [], [1697, 1698, 1699], [], [], [], [], [], [], [], [], [], [], [], [], [], [], [], [], [], [793, 794, 795], [], [2429, 2430, 2431], []] = true := by decide +kernel
theorem vb_L_law__30 : dd_bL 398 cd_L_law__30 [[], [], [], [], [], [], [], [], [], [], [], [], [], [], [1657, 1658], [], [], [], [], [], [], [], [], [], [], [], [], [2234, 2235, 2236], [], [], [1697, 1698, 1699], [], [], [], [], [], [], [], [], [], [], [], [], [], [], [], [], []] = true := by decide +kernel
theorem vb_L_law__31 : dd_bL 398 cd_L_law__31 [[], [], [], [], [], [], [], [], [], [], [], [], [], [], [], [1664, 1665], [], [], [], [], [], [], [], [], [], [], [], [], [], [], [], [], [2433, 2434, 2435], [], [], [1697, 1698, 1699], [], [], [], [], [], [], [], [], [], [], [], []] = true := by decide +kernel
theorem vb_L_law__32 : dd_bL 398 cd_L_law__32 [[], [], [], [], [], [], [], [], [], [], [], [], [], [], [], [], [], [], [], [], [1671, 1672], [], [], [], [], [], [], [], [], [], [], [], [], [], [], [], [], [2441, 2442, 2443], [], [], [1697, 1698, 1699], [], [], [], [], [], [], []] = true := by decide +kernel
theorem vb_L_law__33 : dd_bL 398 cd_L_law__33 [[], [], [], [], [], [], [], [], [], [], [], [], [], [], [], [], [], [], [], [], [], [], [], [], [], [1678, 1679], [], [], [], [], [], [], [], [], [], [], [], [], [], [], [], [], [2445, 2446, 2447], [], [], [1697, 1698, 1699], [], []] = true := by decide +kernel
theorem vb_L_law__34 : dd_bL 398 cd_L_law__34 [[], [], [], [], [], [], [], [], [], [], [], [], [], [], [], [], [], [], [], [], [], [], [], [], [], [], [1689, 1690], [], [], [], [], [], [], [], [], [], [], [], [], [2453, 2454, 2455], [], [], [1697, 1698, 1699], [], [], [], [], []] = true := by decide +kernel
theorem vb_L_law__35 : dd_bL 398 cd_L_law__35 [[], [], [], [], [], [], [], [], [], [], [], [], [], [], [], [], [], [797, 798, 799], [], [], [], [], [], [], [2457, 2458, 2459], [], [], [], [], [801, 802, 803], [], [1794, 1795, 1796], [], [], [], [], [814, 815, 816], [], [1786, 1787, 1788], [], [], [824, 825, 826], [], [1790, 1791, 1792], [], [], [], []] = true := by decide +kernel
theorem vb_L_law__36 : dd_bL 398 cd_L_law__36 [[], [], [], [], [], [559, 560, 561], [], [], [], [], [], [], [2461, 2462, 2463], [], [], [], [], [], [], []] = true := by decide +kernel
theorem vy_L_law_ : dd_okY 398 := ⟨by decide +kernel, ⟨by decide +kernel, by decide +kernel⟩, Or.inl rfl, List.mem_filter.mpr ⟨List.mem_of_getElem? (i := 143) (by decide +kernel), by decide +kernel⟩, by decide +kernel, trivial, by
  intro pc e h
  have h : at_L_law_ pc = some e := h
  unfold at_L_law_ at h
  (repeat' split at h) <;> first | exact dd_at_ok vb_L_law__0 h | exact dd_at_ok vb_L_law__1 h | exact dd_at_ok vb_L_law__2 h | exact dd_at_ok vb_L_law__3 h | exact dd_at_ok vb_L_law__4 h | exact dd_at_ok vb_L_law__5 h | exact dd_at_ok vb_L_law__6 h | exact dd_at_ok vb_L_law__7 h | exact dd_at_ok vb_L_law__8 h | exact dd_at_ok vb_L_law__9 h | exact dd_at_ok vb_L_law__10 h | exact dd_at_ok vb_L_law__11 h | exact dd_at_ok vb_L_law__12 h | exact dd_at_ok vb_L_law__13 h | exact dd_at_ok vb_L_law__14 h | exact dd_at_ok vb_L_law__15 h | exact dd_at_ok vb_L_law__16 h | exact dd_at_ok vb_L_law__17 h | exact dd_at_ok vb_L_law__18 h | exact dd_at_ok vb_L_law__19 h | exact dd_at_ok vb_L_law__20 h | exact dd_at_ok vb_L_law__21 h | exact dd_at_ok vb_L_law__22 h | exact dd_at_ok vb_L_law__23 h | exact dd_at_ok vb_L_law__24 h | exact dd_at_ok vb_L_law__25 h | exact dd_at_ok vb_L_law__26 h | exact dd_at_ok vb_L_law__27 h | exact dd_at_ok vb_L_law__28 h | exact dd_at_ok vb_L_law__29 h | exact dd_at_ok vb_L_law__30 h | exact dd_at_ok vb_L_law__31 h | exact dd_at_ok vb_L_law__32 h | exact dd_at_ok vb_L_law__33 h | exact dd_at_ok vb_L_law__34 h | exact dd_at_ok vb_L_law__35 h | exact dd_at_ok vb_L_law__36 h⟩
