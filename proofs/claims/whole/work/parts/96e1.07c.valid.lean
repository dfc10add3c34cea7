theorem vb_X4_advance_0 : dd_bLs 31 cd_X4_advance_0 [[], [], [353], [352], [], [352], [], [350], [], [], [349], [], [352], [], [], [], [], [], [352], [], [], [352], [], [], [], [], [352], [860, 2465, 0, 1, 862, 862], [351], [], [], [352], [], [351], [], [], []] = true := by decide +kernel
theorem vb_X4_advance_1 : dd_bLs 31 cd_X4_advance_1 [[], [], [353], [], [351], [], [], [], [351], [], [], [], [], [], [], [], [], [], [353], [], [350], [], [], [], [353], [860, 2465, 0, 1, 862, 862], [], [351], [], [], [], [353], [], [], [353], [], []] = true := by decide +kernel
theorem vy_X4_advance : dd_okY 31 := ⟨by decide +kernel, ⟨by decide +kernel, by decide +kernel⟩, Or.inr (List.mem_filter.mpr ⟨List.mem_of_getElem? (i := 859) (by decide +kernel), by decide +kernel⟩), List.mem_filter.mpr ⟨List.mem_of_getElem? (i := 148) (by decide +kernel), by decide +kernel⟩, by decide +kernel, trivial, by
  intro pc e h
  have h : at_X4_advance pc = some e := h
  unfold at_X4_advance at h
  (repeat' split at h) <;> first | exact dd_at_ok vb_X4_advance_0 h | exact dd_at_ok vb_X4_advance_1 h⟩
theorem vb_X4_kindAt_0 : dd_bLs 32 cd_X4_kindAt_0 [[], [], [350], [], [], [], [], [349], [], [], [], [], [], [349], [], [], [], [], [], [], [], [349], [], [], [], [], [], [349], [], [], [], [], [], [], [], []] = true := by decide +kernel
theorem vy_X4_kindAt : dd_okY 32 := ⟨by decide +kernel, ⟨by decide +kernel, by decide +kernel⟩, Or.inr (List.mem_filter.mpr ⟨List.mem_of_getElem? (i := 863) (by decide +kernel), by decide +kernel⟩), List.mem_filter.mpr ⟨List.mem_of_getElem? (i := 148) (by decide +kernel), by decide +kernel⟩, by decide +kernel, trivial, by
  intro pc e h
  have h : at_X4_kindAt pc = some e := h
  unfold at_X4_kindAt at h
  exact dd_at_ok vb_X4_kindAt_0 h⟩
theorem vb_X4_refuse_0 : dd_bLs 33 cd_X4_refuse_0 [[], [], [352], [354], [], []] = true := by decide +kernel
theorem vy_X4_refuse : dd_okY 33 := ⟨by decide +kernel, ⟨by decide +kernel, by decide +kernel⟩, Or.inr (List.mem_filter.mpr ⟨List.mem_of_getElem? (i := 948) (by decide +kernel), by decide +kernel⟩), List.mem_filter.mpr ⟨List.mem_of_getElem? (i := 148) (by decide +kernel), by decide +kernel⟩, by decide +kernel, trivial, by
  intro pc e h
  have h : at_X4_refuse pc = some e := h
  unfold at_X4_refuse at h
  exact dd_at_ok vb_X4_refuse_0 h⟩
theorem vb_X4_isWord_0 : dd_bLs 34 cd_X4_isWord_0 [[], [351], [], [], [], [353], [], [352], [], [], [877, 878, 879], [], [], [], [], [], [], [], [877, 878, 879], [], [], [349], [], [352], [], [], [], [], [], [887, 888, 889], [], [], [], [], [], [], []] = true := by decide +kernel
theorem vy_X4_isWord : dd_okY 34 := ⟨by decide +kernel, ⟨by decide +kernel, by decide +kernel⟩, Or.inr (List.mem_filter.mpr ⟨List.mem_of_getElem? (i := 876) (by decide +kernel), by decide +kernel⟩), List.mem_filter.mpr ⟨List.mem_of_getElem? (i := 148) (by decide +kernel), by decide +kernel⟩, by decide +kernel, trivial, by
  intro pc e h
  have h : at_X4_isWord pc = some e := h
  unfold at_X4_isWord at h
  exact dd_at_ok vb_X4_isWord_0 h⟩
theorem vb_X4_isSign_0 : dd_bLs 35 cd_X4_isSign_0 [[], [351], [], [], [], [349], [], [352], [], [], [], [], [], [], []] = true := by decide +kernel
theorem vy_X4_isSign : dd_okY 35 := ⟨by decide +kernel, ⟨by decide +kernel, by decide +kernel⟩, Or.inr (List.mem_filter.mpr ⟨List.mem_of_getElem? (i := 968) (by decide +kernel), by decide +kernel⟩), List.mem_filter.mpr ⟨List.mem_of_getElem? (i := 148) (by decide +kernel), by decide +kernel⟩, by decide +kernel, trivial, by
  intro pc e h
  have h : at_X4_isSign pc = some e := h
  unfold at_X4_isSign at h
  exact dd_at_ok vb_X4_isSign_0 h⟩
theorem vb_X4_isNumber_0 : dd_bLs 36 cd_X4_isNumber_0 [[], [351], [], [], [], [], [], []] = true := by decide +kernel
theorem vy_X4_isNumber : dd_okY 36 := ⟨by decide +kernel, ⟨by decide +kernel, by decide +kernel⟩, Or.inr (List.mem_filter.mpr ⟨List.mem_of_getElem? (i := 992) (by decide +kernel), by decide +kernel⟩), List.mem_filter.mpr ⟨List.mem_of_getElem? (i := 148) (by decide +kernel), by decide +kernel⟩, by decide +kernel, trivial, by
  intro pc e h
  have h : at_X4_isNumber pc = some e := h
  unfold at_X4_isNumber at h
  exact dd_at_ok vb_X4_isNumber_0 h⟩
theorem vb_X4_takeWord_0 : dd_bLs 37 cd_X4_takeWord_0 [[], [], [1062, 2466, 2467, 2468, 875, 875], [], [], [943, 945, 946, 947, 944, 944], [], [], [854, 856, 857, 858, 855, 855], [], []] = true := by decide +kernel
theorem vy_X4_takeWord : dd_okY 37 := ⟨by decide +kernel, ⟨by decide +kernel, by decide +kernel⟩, Or.inr (List.mem_filter.mpr ⟨List.mem_of_getElem? (i := 1061) (by decide +kernel), by decide +kernel⟩), List.mem_filter.mpr ⟨List.mem_of_getElem? (i := 148) (by decide +kernel), by decide +kernel⟩, by decide +kernel, trivial, by
  intro pc e h
  have h : at_X4_takeWord pc = some e := h
  unfold at_X4_takeWord at h
  exact dd_at_ok vb_X4_takeWord_0 h⟩
theorem vb_X4_takeSign_0 : dd_bLs 38 cd_X4_takeSign_0 [[], [], [1115, 2469, 2470, 2471, 967, 967], [], [], [943, 945, 946, 947, 944, 944], [], [], [854, 856, 857, 858, 855, 855], [], []] = true := by decide +kernel
theorem vy_X4_takeSign : dd_okY 38 := ⟨by decide +kernel, ⟨by decide +kernel, by decide +kernel⟩, Or.inr (List.mem_filter.mpr ⟨List.mem_of_getElem? (i := 1114) (by decide +kernel), by decide +kernel⟩), List.mem_filter.mpr ⟨List.mem_of_getElem? (i := 148) (by decide +kernel), by decide +kernel⟩, by decide +kernel, trivial, by
  intro pc e h
  have h : at_X4_takeSign pc = some e := h
  unfold at_X4_takeSign at h
  exact dd_at_ok vb_X4_takeSign_0 h⟩
theorem vb_X4_numberUpTo_0 : dd_bLs 39 cd_X4_numberUpTo_0 [[], [351], [], [], [], [353], [], [352], [], [], [], [], [], [], [], [], [352], [], [], [], [353], [], [], [], [], [], [349], [], [], [], [], [], [], [], [], [], [], [], [], [], [], []] = true := by decide +kernel
theorem vy_X4_numberUpTo : dd_okY 39 := ⟨by decide +kernel, ⟨by decide +kernel, by decide +kernel⟩, Or.inr (List.mem_filter.mpr ⟨List.mem_of_getElem? (i := 942) (by decide +kernel), by decide +kernel⟩), List.mem_filter.mpr ⟨List.mem_of_getElem? (i := 148) (by decide +kernel), by decide +kernel⟩, by decide +kernel, trivial, by
  intro pc e h
  have h : at_X4_numberUpTo pc = some e := h
  unfold at_X4_numberUpTo at h
  exact dd_at_ok vb_X4_numberUpTo_0 h⟩
theorem vb_X4_takeNumber_0 : dd_bLs 40 cd_X4_takeNumber_0 [[], [], [937, 939, 940, 941, 938, 938], [], [], [], [], [], [943, 945, 946, 947, 944, 944], [], [], [], [854, 856, 857, 858, 855, 855], [], []] = true := by decide +kernel
theorem vy_X4_takeNumber : dd_okY 40 := ⟨by decide +kernel, ⟨by decide +kernel, by decide +kernel⟩, Or.inr (List.mem_filter.mpr ⟨List.mem_of_getElem? (i := 936) (by decide +kernel), by decide +kernel⟩), List.mem_filter.mpr ⟨List.mem_of_getElem? (i := 148) (by decide +kernel), by decide +kernel⟩, by decide +kernel, trivial, by
  intro pc e h
  have h : at_X4_takeNumber pc = some e := h
  unfold at_X4_takeNumber at h
  exact dd_at_ok vb_X4_takeNumber_0 h⟩
theorem vb_X4_copyFigures_0 : dd_bLs 41 cd_X4_copyFigures_0 [[], [351], [], [], [], [353], [], [352], [], [], [], [], [], [], [], [], [], [], [], [], [], [], [], [], [], [349], [], [352], [], [], [], [], [], [], [], [], [], [], [], [], [], [], [], [], [], [], [], [], []] = true := by decide +kernel
theorem vy_X4_copyFigures : dd_okY 41 := ⟨by decide +kernel, ⟨by decide +kernel, by decide +kernel⟩, Or.inr (List.mem_filter.mpr ⟨List.mem_of_getElem? (i := 1049) (by decide +kernel), by decide +kernel⟩), List.mem_filter.mpr ⟨List.mem_of_getElem? (i := 148) (by decide +kernel), by decide +kernel⟩, by decide +kernel, trivial, by
  intro pc e h
  have h : at_X4_copyFigures pc = some e := h
  unfold at_X4_copyFigures at h
  exact dd_at_ok vb_X4_copyFigures_0 h⟩
theorem vb_X5_init_0 : dd_bLs 42 cd_X5_init_0 [[], [471, 179, 180], [], [], [293], [474], [], [], [293], [475], [], [], [293], [476], [], [], [472], [], [], [473], []] = true := by decide +kernel
theorem vy_X5_init : dd_okY 42 := ⟨by decide +kernel, ⟨by decide +kernel, by decide +kernel⟩, Or.inr (List.mem_filter.mpr ⟨List.mem_of_getElem? (i := 470) (by decide +kernel), by decide +kernel⟩), List.mem_filter.mpr ⟨List.mem_of_getElem? (i := 154) (by decide +kernel), by decide +kernel⟩, by decide +kernel, trivial, by
  intro pc e h
  have h : at_X5_init pc = some e := h
  unfold at_X5_init at h
  exact dd_at_ok vb_X5_init_0 h⟩
theorem vb_X5_hearAll_0 : dd_bLs 43 cd_X5_hearAll_0 [[], [], [], [], [], [], [], [], [], [], [474], [], [1542, 653], [], [], [], [], [], [], [], [], [], [], [], [], [], [], [], [], [], [], [], [], []] = true := by decide +kernel
theorem vb_X5_hearAll_1 : dd_bLs 43 cd_X5_hearAll_1 [[], [], [], [], [], [474], [], [], [], [], [], [474], [], [], [], [], [], [], [], [], [], [474], [], [], [], [], [], [], [], [], [], [], []] = true := by decide +kernel
theorem vy_X5_hearAll : dd_okY 43 := ⟨by decide +kernel, ⟨by decide +kernel, by decide +kernel⟩, Or.inr (List.mem_filter.mpr ⟨List.mem_of_getElem? (i := 1541) (by decide +kernel), by decide +kernel⟩), List.mem_filter.mpr ⟨List.mem_of_getElem? (i := 154) (by decide +kernel), by decide +kernel⟩, by decide +kernel, trivial, by
  intro pc e h
  have h : at_X5_hearAll pc = some e := h
  unfold at_X5_hearAll at h
  (repeat' split at h) <;> first | exact dd_at_ok vb_X5_hearAll_0 h | exact dd_at_ok vb_X5_hearAll_1 h⟩
theorem vb_X5_fits_0 : dd_bLs 44 cd_X5_fits_0 [[], [472], [], [1552, 629, 630], [], [], [], [], [473], [], [], [], [], [1553, 580, 581], [], [473], [], [1554, 591, 592], [], [], [], [], [], [], [475], [], [], [473], [412], [], [], [], [], [474], [], [], [], [], [], [474], [], [], [], [475], [], [], [], [], [], [], [473], [1555, 605, 606], [], [], [], []] = true := by decide +kernel
theorem vy_X5_fits : dd_okY 44 := ⟨by decide +kernel, ⟨by decide +kernel, by decide +kernel⟩, Or.inr (List.mem_filter.mpr ⟨List.mem_of_getElem? (i := 1551) (by decide +kernel), by decide +kernel⟩), List.mem_filter.mpr ⟨List.mem_of_getElem? (i := 154) (by decide +kernel), by decide +kernel⟩, by decide +kernel, trivial, by
  intro pc e h
  have h : at_X5_fits pc = some e := h
  unfold at_X5_fits at h
  exact dd_at_ok vb_X5_fits_0 h⟩
theorem vb_X5_leastCell_0 : dd_bLs 45 cd_X5_leastCell_0 [[], [], [], [], [], [], [], [1548, 1550, 45], [], [], [], [], [], [], []] = true := by decide +kernel
theorem vy_X5_leastCell : dd_okY 45 := ⟨by decide +kernel, ⟨by decide +kernel, by decide +kernel⟩, Or.inr (List.mem_filter.mpr ⟨List.mem_of_getElem? (i := 1547) (by decide +kernel), by decide +kernel⟩), List.mem_filter.mpr ⟨List.mem_of_getElem? (i := 154) (by decide +kernel), by decide +kernel⟩, by decide +kernel, trivial, by
  intro pc e h
  have h : at_X5_leastCell pc = some e := h
  unfold at_X5_leastCell at h
  exact dd_at_ok vb_X5_leastCell_0 h⟩
theorem vb_X5_cellCount_0 : dd_bLs 46 cd_X5_cellCount_0 [[], [], [], [], [], [], [], [], [], [1548, 1550, 45], [], [], [], [], [], []] = true := by decide +kernel
theorem vy_X5_cellCount : dd_okY 46 := ⟨by decide +kernel, ⟨by decide +kernel, by decide +kernel⟩, Or.inr (List.mem_filter.mpr ⟨List.mem_of_getElem? (i := 1559) (by decide +kernel), by decide +kernel⟩), List.mem_filter.mpr ⟨List.mem_of_getElem? (i := 154) (by decide +kernel), by decide +kernel⟩, by decide +kernel, trivial, by
  intro pc e h
  have h : at_X5_cellCount pc = some e := h
  unfold at_X5_cellCount at h
  exact dd_at_ok vb_X5_cellCount_0 h⟩
theorem vb_X5_bestBeat_0 : dd_bLs 47 cd_X5_bestBeat_0 [[], [], [], [476], [], [1542, 653], [], [], [], [], [], [], [], [1548, 1550, 45], [], [], [], [], [], [], [], [], [476], [], [], [], [], [475], [], [], [], [], [], [], [], [], [], [], [], [], [], [], [], [], [], [], [1571, 1573, 46], []] = true := by decide +kernel
theorem vy_X5_bestBeat : dd_okY 47 := ⟨by decide +kernel, ⟨by decide +kernel, by decide +kernel⟩, Or.inr (List.mem_filter.mpr ⟨List.mem_of_getElem? (i := 1570) (by decide +kernel), by decide +kernel⟩), List.mem_filter.mpr ⟨List.mem_of_getElem? (i := 154) (by decide +kernel), by decide +kernel⟩, by decide +kernel, trivial, by
  intro pc e h
  have h : at_X5_bestBeat pc = some e := h
  unfold at_X5_bestBeat at h
  exact dd_at_ok vb_X5_bestBeat_0 h⟩
theorem vb_X5_leastGreatest_0 : dd_bLs 48 cd_X5_leastGreatest_0 [[], [], [], [], [], [], [], [], [], [], [], [], [], [], [], [], [], [], [476], [], [], [], [], [], [], [1575, 637, 157, 638], [], [], [], [], [], [], [], [], [], [], [], [], [], []] = true := by decide +kernel
theorem vy_X5_leastGreatest : dd_okY 48 := ⟨by decide +kernel, ⟨by decide +kernel, by decide +kernel⟩, Or.inr (List.mem_filter.mpr ⟨List.mem_of_getElem? (i := 1574) (by decide +kernel), by decide +kernel⟩), List.mem_filter.mpr ⟨List.mem_of_getElem? (i := 154) (by decide +kernel), by decide +kernel⟩, by decide +kernel, trivial, by
  intro pc e h
  have h : at_X5_leastGreatest pc = some e := h
  unfold at_X5_leastGreatest at h
  exact dd_at_ok vb_X5_leastGreatest_0 h⟩
theorem vb_X6_init_0 : dd_bLs 49 cd_X6_init_0 [[], [407, 179, 180], [], [], [293], [410], [], [], [293], [414], [], [], [408], [], [], [409], []] = true := by decide +kernel
theorem vy_X6_init : dd_okY 49 := ⟨by decide +kernel, ⟨by decide +kernel, by decide +kernel⟩, Or.inr (List.mem_filter.mpr ⟨List.mem_of_getElem? (i := 406) (by decide +kernel), by decide +kernel⟩), List.mem_filter.mpr ⟨List.mem_of_getElem? (i := 151) (by decide +kernel), by decide +kernel⟩, by decide +kernel, trivial, by
  intro pc e h
  have h : at_X6_init pc = some e := h
  unfold at_X6_init at h
  exact dd_at_ok vb_X6_init_0 h⟩
theorem vb_X6_follow_0 : dd_bLs 50 cd_X6_follow_0 [[], [], [], [408], [206], [], [], [], [408], [210], [], [], [], [408], [214], [], [], [579, 580, 581], [], [], [408], [201], [], [], [590, 591, 592], []] = true := by decide +kernel
theorem vy_X6_follow : dd_okY 50 := ⟨by decide +kernel, ⟨by decide +kernel, by decide +kernel⟩, Or.inr (List.mem_filter.mpr ⟨List.mem_of_getElem? (i := 578) (by decide +kernel), by decide +kernel⟩), List.mem_filter.mpr ⟨List.mem_of_getElem? (i := 151) (by decide +kernel), by decide +kernel⟩, by decide +kernel, trivial, by
  intro pc e h
  have h : at_X6_follow pc = some e := h
  unfold at_X6_follow at h
  exact dd_at_ok vb_X6_follow_0 h⟩
theorem vb_X6_become_0 : dd_bLs 51 cd_X6_become_0 [[], [410], [], [], [], [], [410], [], [], [], [], [410], [], [], [], [], [410], [], [], [408], [245], [], [], [], [408], [237], [418], [], [], [583, 584, 585], []] = true := by decide +kernel
theorem vy_X6_become : dd_okY 51 := ⟨by decide +kernel, ⟨by decide +kernel, by decide +kernel⟩, Or.inr (List.mem_filter.mpr ⟨List.mem_of_getElem? (i := 582) (by decide +kernel), by decide +kernel⟩), List.mem_filter.mpr ⟨List.mem_of_getElem? (i := 151) (by decide +kernel), by decide +kernel⟩, by decide +kernel, trivial, by
  intro pc e h
  have h : at_X6_become pc = some e := h
  unfold at_X6_become at h
  exact dd_at_ok vb_X6_become_0 h⟩
theorem vb_X6_takePart_0 : dd_bLs 52 cd_X6_takePart_0 [[], [410], [], [], [], [], [408], [198], [], [], [], [], [414], [], [], [587, 589, 588, 156], []] = true := by decide +kernel
theorem vy_X6_takePart : dd_okY 52 := ⟨by decide +kernel, ⟨by decide +kernel, by decide +kernel⟩, Or.inr (List.mem_filter.mpr ⟨List.mem_of_getElem? (i := 586) (by decide +kernel), by decide +kernel⟩), List.mem_filter.mpr ⟨List.mem_of_getElem? (i := 151) (by decide +kernel), by decide +kernel⟩, by decide +kernel, trivial, by
  intro pc e h
  have h : at_X6_takePart pc = some e := h
  unfold at_X6_takePart at h
  exact dd_at_ok vb_X6_takePart_0 h⟩
theorem vb_X6_standAt_0 : dd_bLs 53 cd_X6_standAt_0 [[], [], [416], [], [410], [], [], [], [], [], [], [410], [], [], [], [], [], [], [410], [], [], [], [408], [233], [594, 595], [], []] = true := by decide +kernel
theorem vy_X6_standAt : dd_okY 53 := ⟨by decide +kernel, ⟨by decide +kernel, by decide +kernel⟩, Or.inr (List.mem_filter.mpr ⟨List.mem_of_getElem? (i := 593) (by decide +kernel), by decide +kernel⟩), List.mem_filter.mpr ⟨List.mem_of_getElem? (i := 151) (by decide +kernel), by decide +kernel⟩, by decide +kernel, trivial, by
  intro pc e h
  have h : at_X6_standAt pc = some e := h
  unfold at_X6_standAt at h
  exact dd_at_ok vb_X6_standAt_0 h⟩
theorem vb_X6_noteNow_0 : dd_bLs 54 cd_X6_noteNow_0 [[], [414], [], [410], [], [], [], [], [], []] = true := by decide +kernel
theorem vy_X6_noteNow : dd_okY 54 := ⟨by decide +kernel, ⟨by decide +kernel, by decide +kernel⟩, Or.inr (List.mem_filter.mpr ⟨List.mem_of_getElem? (i := 611) (by decide +kernel), by decide +kernel⟩), List.mem_filter.mpr ⟨List.mem_of_getElem? (i := 151) (by decide +kernel), by decide +kernel⟩, by decide +kernel, trivial, by
  intro pc e h
  have h : at_X6_noteNow pc = some e := h
  unfold at_X6_noteNow at h
  exact dd_at_ok vb_X6_noteNow_0 h⟩
theorem vb_X6_hearsNow_0 : dd_bLs 55 cd_X6_hearsNow_0 [[], [], [608, 610, 4], [616, 618, 6], []] = true := by decide +kernel
theorem vy_X6_hearsNow : dd_okY 55 := ⟨by decide +kernel, ⟨by decide +kernel, by decide +kernel⟩, Or.inr (List.mem_filter.mpr ⟨List.mem_of_getElem? (i := 761) (by decide +kernel), by decide +kernel⟩), List.mem_filter.mpr ⟨List.mem_of_getElem? (i := 151) (by decide +kernel), by decide +kernel⟩, by decide +kernel, trivial, by
  intro pc e h
  have h : at_X6_hearsNow pc = some e := h
  unfold at_X6_hearsNow at h
  exact dd_at_ok vb_X6_hearsNow_0 h⟩
theorem vb_X6_hears_0 : dd_bLs 56 cd_X6_hears_0 [[], [408], [194], [], [416], [], [], [], [409], [], [410], [], [], [], [], [], [], [], [], [], [], [620, 621, 622], [], [410], [], [], [], [410], [], [], [], [418], [], [], [409], [305], [], [], [], [], [], [], [], []] = true := by decide +kernel
theorem vy_X6_hears : dd_okY 56 := ⟨by decide +kernel, ⟨by decide +kernel, by decide +kernel⟩, Or.inr (List.mem_filter.mpr ⟨List.mem_of_getElem? (i := 619) (by decide +kernel), by decide +kernel⟩), List.mem_filter.mpr ⟨List.mem_of_getElem? (i := 151) (by decide +kernel), by decide +kernel⟩, by decide +kernel, trivial, by
  intro pc e h
  have h : at_X6_hears pc = some e := h
  unfold at_X6_hears at h
  exact dd_at_ok vb_X6_hears_0 h⟩
theorem vb_X6_isLedBy_0 : dd_bLs 57 cd_X6_isLedBy_0 [[], [], [616, 618, 6], [], [], [409], [307], [], [], [], [], []] = true := by decide +kernel
theorem vy_X6_isLedBy : dd_okY 57 := ⟨by decide +kernel, ⟨by decide +kernel, by decide +kernel⟩, Or.inr (List.mem_filter.mpr ⟨List.mem_of_getElem? (i := 1476) (by decide +kernel), by decide +kernel⟩), List.mem_filter.mpr ⟨List.mem_of_getElem? (i := 151) (by decide +kernel), by decide +kernel⟩, by decide +kernel, trivial, by
  intro pc e h
  have h : at_X6_isLedBy pc = some e := h
  unfold at_X6_isLedBy at h
  exact dd_at_ok vb_X6_isLedBy_0 h⟩
theorem vb_X6_goesTo_0 : dd_bLs 58 cd_X6_goesTo_0 [[], [], [616, 618, 6], [], [], [409], [307], [], [], [416], [], [], [], [], [], [], [], [], [408], [], [416], [624, 625, 626], [], [], [408], [], [416], [], [632, 633, 634], []] = true := by decide +kernel
theorem vy_X6_goesTo : dd_okY 58 := ⟨by decide +kernel, ⟨by decide +kernel, by decide +kernel⟩, Or.inr (List.mem_filter.mpr ⟨List.mem_of_getElem? (i := 615) (by decide +kernel), by decide +kernel⟩), List.mem_filter.mpr ⟨List.mem_of_getElem? (i := 151) (by decide +kernel), by decide +kernel⟩, by decide +kernel, trivial, by
  intro pc e h
  have h : at_X6_goesTo pc = some e := h
  unfold at_X6_goesTo at h
  exact dd_at_ok vb_X6_goesTo_0 h⟩
theorem vb_X6_beatAhead_0 : dd_bLs 59 cd_X6_beatAhead_0 [[], [416], [], [408], [233], [], [], [], [608, 610, 4], [612, 614, 5], [], [], [], [], [], [], [590, 591, 592], [], [410], [], [], [410], [], [], [], [], [], [], [], []] = true := by decide +kernel
theorem vy_X6_beatAhead : dd_okY 59 := ⟨by decide +kernel, ⟨by decide +kernel, by decide +kernel⟩, Or.inr (List.mem_filter.mpr ⟨List.mem_of_getElem? (i := 607) (by decide +kernel), by decide +kernel⟩), List.mem_filter.mpr ⟨List.mem_of_getElem? (i := 151) (by decide +kernel), by decide +kernel⟩, by decide +kernel, trivial, by
  intro pc e h
  have h : at_X6_beatAhead pc = some e := h
  unfold at_X6_beatAhead at h
  exact dd_at_ok vb_X6_beatAhead_0 h⟩
theorem vb_X6_comesIn_0 : dd_bLs 60 cd_X6_comesIn_0 [[], [], [], [], [], [], [], [], [416], [], [408], [233], [], [], [], [], [], [], [], [], [416], [], [], [], [], [], [416], [], [], [604, 605, 606], [], [], [], []] = true := by decide +kernel
theorem vy_X6_comesIn : dd_okY 60 := ⟨by decide +kernel, ⟨by decide +kernel, by decide +kernel⟩, Or.inr (List.mem_filter.mpr ⟨List.mem_of_getElem? (i := 603) (by decide +kernel), by decide +kernel⟩), List.mem_filter.mpr ⟨List.mem_of_getElem? (i := 151) (by decide +kernel), by decide +kernel⟩, by decide +kernel, trivial, by
  intro pc e h
  have h : at_X6_comesIn pc = some e := h
  unfold at_X6_comesIn at h
  exact dd_at_ok vb_X6_comesIn_0 h⟩
theorem vb_X6_beatNow_0 : dd_bLs 61 cd_X6_beatNow_0 [[], [], [1329, 576, 577], [], [], [608, 610, 4], [612, 614, 5], [], [], [], [], [], [408], [201], [], [], [], [], [], [408], [1330, 1331, 1332], [], [], [], [408], [242], [], [], [408], [201], [], [], [408], [], [416], [], [], [408], [1330, 1331, 1332], [], [], [], [632, 633, 634], []] = true := by decide +kernel
theorem vb_X6_beatNow_1 : dd_bLs 61 cd_X6_beatNow_1 [[], [408], [214], [], [], [408], [214], [], [], [], [], [], [1335, 852, 157, 853], [], [], [408], [], [], [1336, 1337, 1338], [], [408], [201], [], [], [], [408], [233], [], [], [], [], [408], [], [], [408], [233], [1340, 1077, 1078], [], [408], [], [], [1336, 1337, 1338], [], []] = true := by decide +kernel
theorem vy_X6_beatNow : dd_okY 61 := ⟨by decide +kernel, ⟨by decide +kernel, by decide +kernel⟩, Or.inr (List.mem_filter.mpr ⟨List.mem_of_getElem? (i := 1328) (by decide +kernel), by decide +kernel⟩), List.mem_filter.mpr ⟨List.mem_of_getElem? (i := 151) (by decide +kernel), by decide +kernel⟩, by decide +kernel, trivial, by
  intro pc e h
  have h : at_X6_beatNow pc = some e := h
  unfold at_X6_beatNow at h
  (repeat' split at h) <;> first | exact dd_at_ok vb_X6_beatNow_0 h | exact dd_at_ok vb_X6_beatNow_1 h⟩
theorem vb_X7_init_0 : dd_bLs 62 cd_X7_init_0 [[], [438, 179, 180], [], [], [293], [440], [], [], [439], []] = true := by decide +kernel
theorem vy_X7_init : dd_okY 62 := ⟨by decide +kernel, ⟨by decide +kernel, by decide +kernel⟩, Or.inr (List.mem_filter.mpr ⟨List.mem_of_getElem? (i := 437) (by decide +kernel), by decide +kernel⟩), List.mem_filter.mpr ⟨List.mem_of_getElem? (i := 152) (by decide +kernel), by decide +kernel⟩, by decide +kernel, trivial, by
  intro pc e h
  have h : at_X7_init pc = some e := h
  unfold at_X7_init at h
  exact dd_at_ok vb_X7_init_0 h⟩
theorem vb_X7_beside_0 : dd_bLs 63 cd_X7_beside_0 [[], [666], [], [], [], [], [], [667], [], [], [], [], [], [], [], [], [], [], [], [], [], [], [], []] = true := by decide +kernel
theorem vy_X7_beside : dd_okY 63 := ⟨by decide +kernel, ⟨by decide +kernel, by decide +kernel⟩, Or.inr (List.mem_filter.mpr ⟨List.mem_of_getElem? (i := 665) (by decide +kernel), by decide +kernel⟩), List.mem_filter.mpr ⟨List.mem_of_getElem? (i := 152) (by decide +kernel), by decide +kernel⟩, by decide +kernel, trivial, by
  intro pc e h
  have h : at_X7_beside pc = some e := h
  unfold at_X7_beside at h
  exact dd_at_ok vb_X7_beside_0 h⟩
theorem vb_X7_reached_0 : dd_bLs 64 cd_X7_reached_0 [[], [], [], [], [], [], [], [], [], [], [], [], [], [663, 664], [], [], [], [], [], [], [], []] = true := by decide +kernel
theorem vy_X7_reached : dd_okY 64 := ⟨by decide +kernel, ⟨by decide +kernel, by decide +kernel⟩, Or.inr (List.mem_filter.mpr ⟨List.mem_of_getElem? (i := 670) (by decide +kernel), by decide +kernel⟩), List.mem_filter.mpr ⟨List.mem_of_getElem? (i := 152) (by decide +kernel), by decide +kernel⟩, by decide +kernel, trivial, by
  intro pc e h
  have h : at_X7_reached pc = some e := h
  unfold at_X7_reached at h
  exact dd_at_ok vb_X7_reached_0 h⟩
theorem vb_X7_stepsBetween_0 : dd_bLs 65 cd_X7_stepsBetween_0 [[], [439], [188], [651], [], [], [], [], [], [], [], [], [], [], [], [], [], [], [], [], [], [], [], [], [], [], [], [], [], [663, 664], [], [], [], [], [], [], [], []] = true := by decide +kernel
theorem vy_X7_stepsBetween : dd_okY 65 := ⟨by decide +kernel, ⟨by decide +kernel, by decide +kernel⟩, Or.inr (List.mem_filter.mpr ⟨List.mem_of_getElem? (i := 1428) (by decide +kernel), by decide +kernel⟩), List.mem_filter.mpr ⟨List.mem_of_getElem? (i := 152) (by decide +kernel), by decide +kernel⟩, by decide +kernel, trivial, by
  intro pc e h
  have h : at_X7_stepsBetween pc = some e := h
  unfold at_X7_stepsBetween at h
  exact dd_at_ok vb_X7_stepsBetween_0 h⟩
theorem vb_X7_addSteps_0 : dd_bLs 66 cd_X7_addSteps_0 [[], [439], [188], [651], [], [], [], [], [], [], [], [], [], [], [], [], [], [], [], [], [], [], [], [], [], [], [], [], [], [], [], [], [], [], [], [], [], [440], [], [], [], [], [], [], [], [], [], [663, 664], [], [], [], [651], [], [], [], [], [], [], [], [], [], []] = true := by decide +kernel
theorem vy_X7_addSteps : dd_okY 66 := ⟨by decide +kernel, ⟨by decide +kernel, by decide +kernel⟩, Or.inr (List.mem_filter.mpr ⟨List.mem_of_getElem? (i := 662) (by decide +kernel), by decide +kernel⟩), List.mem_filter.mpr ⟨List.mem_of_getElem? (i := 152) (by decide +kernel), by decide +kernel⟩, by decide +kernel, trivial, by
  intro pc e h
  have h : at_X7_addSteps pc = some e := h
  unfold at_X7_addSteps at h
  exact dd_at_ok vb_X7_addSteps_0 h⟩
theorem vb_X7_leastTogether_0 : dd_bLs 67 cd_X7_leastTogether_0 [[], [439], [647, 648, 649], [], [], [], [], [439], [188], [651], [], [], [], [440], [], [652, 653], [], [], [], [], [439], [225], [], [], [439], [], [655, 656, 657], [], [], [], [439], [203], [], [], [659, 661, 7], [], [], [439], [203], [], [], [], [439], [188], [651]] = true := by decide +kernel
theorem vb_X7_leastTogether_1 : dd_bLs 67 cd_X7_leastTogether_1 [[], [668, 669], [], [], [], [], [], [], [], [], [], [], [], [], [], [], [], [440], [], [], [], [440], [], [], [], [], [], [], [], [], [], [], [], [], [], [], [], [], [], [], [], [], [], [], []] = true := by decide +kernel
theorem vy_X7_leastTogether : dd_okY 67 := ⟨by decide +kernel, ⟨by decide +kernel, by decide +kernel⟩, Or.inr (List.mem_filter.mpr ⟨List.mem_of_getElem? (i := 646) (by decide +kernel), by decide +kernel⟩), List.mem_filter.mpr ⟨List.mem_of_getElem? (i := 152) (by decide +kernel), by decide +kernel⟩, by decide +kernel, trivial, by
  intro pc e h
  have h : at_X7_leastTogether pc = some e := h
  unfold at_X7_leastTogether at h
  (repeat' split at h) <;> first | exact dd_at_ok vb_X7_leastTogether_0 h | exact dd_at_ok vb_X7_leastTogether_1 h⟩
