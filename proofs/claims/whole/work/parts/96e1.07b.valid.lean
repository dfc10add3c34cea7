theorem vb_X0_init_0 : dd_bLs 0 cd_X0_init_0 [[], [324, 179, 180], [], [], [325, 326], [328], [], [], [], [], [], [], [328], [], [325, 182, 145], [], [327, 184], [], [], [], []] = true := by decide +kernel
theorem vy_X0_init : dd_okY 0 := ⟨by decide +kernel, ⟨by decide +kernel, by decide +kernel⟩, Or.inr (List.mem_filter.mpr ⟨List.mem_of_getElem? (i := 323) (by decide +kernel), by decide +kernel⟩), List.mem_filter.mpr ⟨List.mem_of_getElem? (i := 147) (by decide +kernel), by decide +kernel⟩, by decide +kernel, trivial, by
  intro pc e h
  have h : at_X0_init pc = some e := h
  unfold at_X0_init at h
  exact dd_at_ok vb_X0_init_0 h⟩
theorem vb_X0_remember_0 : dd_bLs 1 cd_X0_remember_0 [[], [330], [], [], [], [], [329], [], [], [], [], [329], [], [], [330], [], [], [330], [], [328], [], [329], [], [330], [], [], [], [], [], [809, 810, 811], [], [], [330], [], [], [330], []] = true := by decide +kernel
theorem vy_X0_remember : dd_okY 1 := ⟨by decide +kernel, ⟨by decide +kernel, by decide +kernel⟩, Or.inr (List.mem_filter.mpr ⟨List.mem_of_getElem? (i := 1320) (by decide +kernel), by decide +kernel⟩), List.mem_filter.mpr ⟨List.mem_of_getElem? (i := 147) (by decide +kernel), by decide +kernel⟩, by decide +kernel, trivial, by
  intro pc e h
  have h : at_X0_remember pc = some e := h
  unfold at_X0_remember at h
  exact dd_at_ok vb_X0_remember_0 h⟩
theorem vb_X0_takeBack_0 : dd_bLs 2 cd_X0_takeBack_0 [[], [330], [], [], [], [], [], [330], [], [], [330], [], [], [328], [], [329], [], [330], [], [], [], [], [809, 810, 811], [], []] = true := by decide +kernel
theorem vy_X0_takeBack : dd_okY 2 := ⟨by decide +kernel, ⟨by decide +kernel, by decide +kernel⟩, Or.inr (List.mem_filter.mpr ⟨List.mem_of_getElem? (i := 808) (by decide +kernel), by decide +kernel⟩), List.mem_filter.mpr ⟨List.mem_of_getElem? (i := 147) (by decide +kernel), by decide +kernel⟩, by decide +kernel, trivial, by
  intro pc e h
  have h : at_X0_takeBack pc = some e := h
  unfold at_X0_takeBack at h
  exact dd_at_ok vb_X0_takeBack_0 h⟩
theorem vb_X0_forget_0 : dd_bLs 3 cd_X0_forget_0 [[], [], [330], []] = true := by decide +kernel
theorem vy_X0_forget : dd_okY 3 := ⟨by decide +kernel, ⟨by decide +kernel, by decide +kernel⟩, Or.inr (List.mem_filter.mpr ⟨List.mem_of_getElem? (i := 831) (by decide +kernel), by decide +kernel⟩), List.mem_filter.mpr ⟨List.mem_of_getElem? (i := 147) (by decide +kernel), by decide +kernel⟩, by decide +kernel, trivial, by
  intro pc e h
  have h : at_X0_forget pc = some e := h
  unfold at_X0_forget at h
  exact dd_at_ok vb_X0_forget_0 h⟩
theorem vb_X1_init_0 : dd_bLs 4 cd_X1_init_0 [[], [451, 179, 180], [], [], [465], [454], [], [], [465], [455], [], [], [452], [], [], [453], []] = true := by decide +kernel
theorem vy_X1_init : dd_okY 4 := ⟨by decide +kernel, ⟨by decide +kernel, by decide +kernel⟩, Or.inr (List.mem_filter.mpr ⟨List.mem_of_getElem? (i := 450) (by decide +kernel), by decide +kernel⟩), List.mem_filter.mpr ⟨List.mem_of_getElem? (i := 153) (by decide +kernel), by decide +kernel⟩, by decide +kernel, trivial, by
  intro pc e h
  have h : at_X1_init pc = some e := h
  unfold at_X1_init at h
  exact dd_at_ok vb_X1_init_0 h⟩
theorem vb_X1_thinkFor_0 : dd_bLs 5 cd_X1_thinkFor_0 [[], [453], [], [1466, 576, 577], [], [], [], [], [], [], [453], [411], [], [], [], [], [454], [], [], [], [1467, 1469, 41], [], [], [455], [], [], [], [1467, 1469, 41], [], [], [], []] = true := by decide +kernel
theorem vy_X1_thinkFor : dd_okY 5 := ⟨by decide +kernel, ⟨by decide +kernel, by decide +kernel⟩, Or.inr (List.mem_filter.mpr ⟨List.mem_of_getElem? (i := 1465) (by decide +kernel), by decide +kernel⟩), List.mem_filter.mpr ⟨List.mem_of_getElem? (i := 153) (by decide +kernel), by decide +kernel⟩, by decide +kernel, trivial, by
  intro pc e h
  have h : at_X1_thinkFor pc = some e := h
  unfold at_X1_thinkFor at h
  exact dd_at_ok vb_X1_thinkFor_0 h⟩
theorem vb_X1_leads_0 : dd_bLs 6 cd_X1_leads_0 [[], [], [], [], [], [], [], [], [452], [], [1471, 629, 630], [], [], [], [452], [232], [], [], [453], [], [1472, 591, 592], [], [453], [], [1473, 1474, 1475], [], [], [], [], [], [], [], [], [], [], []] = true := by decide +kernel
theorem vy_X1_leads : dd_okY 6 := ⟨by decide +kernel, ⟨by decide +kernel, by decide +kernel⟩, Or.inr (List.mem_filter.mpr ⟨List.mem_of_getElem? (i := 1470) (by decide +kernel), by decide +kernel⟩), List.mem_filter.mpr ⟨List.mem_of_getElem? (i := 153) (by decide +kernel), by decide +kernel⟩, by decide +kernel, trivial, by
  intro pc e h
  have h : at_X1_leads pc = some e := h
  unfold at_X1_leads at h
  exact dd_at_ok vb_X1_leads_0 h⟩
theorem vb_X1_oneBeatOn_0 : dd_bLs 7 cd_X1_oneBeatOn_0 [[], [], [], [455], [], [], [], [1485, 664], [], [452], [189], [1486], [], [], [], [], [], [], [454], [], [], [], [], [], [], [], [], [], [], [], [], [], [], [], [], [], [], [], [], [452], [], [1487, 625, 626], [], [], [], [], [], [], []] = true := by decide +kernel
theorem vy_X1_oneBeatOn : dd_okY 7 := ⟨by decide +kernel, ⟨by decide +kernel, by decide +kernel⟩, Or.inr (List.mem_filter.mpr ⟨List.mem_of_getElem? (i := 1484) (by decide +kernel), by decide +kernel⟩), List.mem_filter.mpr ⟨List.mem_of_getElem? (i := 153) (by decide +kernel), by decide +kernel⟩, by decide +kernel, trivial, by
  intro pc e h
  have h : at_X1_oneBeatOn pc = some e := h
  unfold at_X1_oneBeatOn at h
  exact dd_at_ok vb_X1_oneBeatOn_0 h⟩
theorem vb_X1_fewest_0 : dd_bLs 8 cd_X1_fewest_0 [[], [], [], [], [], [], [], [], [], [], [], [452], [232], [], [], [], [], [], [], [], [], [], [], [], [452], [246], [], [], [], [], [], [], [1481, 1483, 42], [], [], [], [], []] = true := by decide +kernel
theorem vy_X1_fewest : dd_okY 8 := ⟨by decide +kernel, ⟨by decide +kernel, by decide +kernel⟩, Or.inr (List.mem_filter.mpr ⟨List.mem_of_getElem? (i := 1480) (by decide +kernel), by decide +kernel⟩), List.mem_filter.mpr ⟨List.mem_of_getElem? (i := 153) (by decide +kernel), by decide +kernel⟩, by decide +kernel, trivial, by
  intro pc e h
  have h : at_X1_fewest pc = some e := h
  unfold at_X1_fewest at h
  exact dd_at_ok vb_X1_fewest_0 h⟩
theorem vb_X1_leastFirst_0 : dd_bLs 9 cd_X1_leastFirst_0 [[], [], [1499, 1463, 1464], [], [452], [202], [], [], [], [], [], [], [], [1500, 1478, 1479], [], [], [], [], [], [], [], [], [], [], [], [], [], [1501, 1503, 43], [], [], [], [], [1500, 1478, 1479], [], [], [], [], [], [], [], []] = true := by decide +kernel
theorem vy_X1_leastFirst : dd_okY 9 := ⟨by decide +kernel, ⟨by decide +kernel, by decide +kernel⟩, Or.inr (List.mem_filter.mpr ⟨List.mem_of_getElem? (i := 1498) (by decide +kernel), by decide +kernel⟩), List.mem_filter.mpr ⟨List.mem_of_getElem? (i := 153) (by decide +kernel), by decide +kernel⟩, by decide +kernel, trivial, by
  intro pc e h
  have h : at_X1_leastFirst pc = some e := h
  unfold at_X1_leastFirst at h
  exact dd_at_ok vb_X1_leastFirst_0 h⟩
theorem vb_X1_ledTo_0 : dd_bLs 10 cd_X1_ledTo_0 [[], [], [], [454], [], [452], [246], [], [], [], [], [], [455], [], [452], [246], [], [], [], [], [], [], [], [], [], [], [], [], [], [], [], [], [], [452], [], [1487, 625, 626], [], [], [452], [], [], [1505, 633, 634], []] = true := by decide +kernel
theorem vy_X1_ledTo : dd_okY 10 := ⟨by decide +kernel, ⟨by decide +kernel, by decide +kernel⟩, Or.inr (List.mem_filter.mpr ⟨List.mem_of_getElem? (i := 1504) (by decide +kernel), by decide +kernel⟩), List.mem_filter.mpr ⟨List.mem_of_getElem? (i := 153) (by decide +kernel), by decide +kernel⟩, by decide +kernel, trivial, by
  intro pc e h
  have h : at_X1_ledTo pc = some e := h
  unfold at_X1_ledTo at h
  exact dd_at_ok vb_X1_ledTo_0 h⟩
theorem vb_X1_reachedIn_0 : dd_bLs 11 cd_X1_reachedIn_0 [[], [], [], [], [], [], [], [], [], [], [], [], [452], [246], [], [], [], [], [1481, 1483, 42], [], [], [], [], [1517, 767], []] = true := by decide +kernel
theorem vy_X1_reachedIn : dd_okY 11 := ⟨by decide +kernel, ⟨by decide +kernel, by decide +kernel⟩, Or.inr (List.mem_filter.mpr ⟨List.mem_of_getElem? (i := 1516) (by decide +kernel), by decide +kernel⟩), List.mem_filter.mpr ⟨List.mem_of_getElem? (i := 153) (by decide +kernel), by decide +kernel⟩, by decide +kernel, trivial, by
  intro pc e h
  have h : at_X1_reachedIn pc = some e := h
  unfold at_X1_reachedIn at h
  exact dd_at_ok vb_X1_reachedIn_0 h⟩
theorem vb_X2_init_0 : dd_bLs 12 cd_X2_init_0 [[], [299, 179, 180], [], [], [293], [300], [], [], [302], []] = true := by decide +kernel
theorem vy_X2_init : dd_okY 12 := ⟨by decide +kernel, ⟨by decide +kernel, by decide +kernel⟩, Or.inr (List.mem_filter.mpr ⟨List.mem_of_getElem? (i := 298) (by decide +kernel), by decide +kernel⟩), List.mem_filter.mpr ⟨List.mem_of_getElem? (i := 146) (by decide +kernel), by decide +kernel⟩, by decide +kernel, trivial, by
  intro pc e h
  have h : at_X2_init pc = some e := h
  unfold at_X2_init at h
  exact dd_at_ok vb_X2_init_0 h⟩
theorem vb_X2_clear_0 : dd_bLs 13 cd_X2_clear_0 [[], [], [301], [], [], [302], []] = true := by decide +kernel
theorem vy_X2_clear : dd_okY 13 := ⟨by decide +kernel, ⟨by decide +kernel, by decide +kernel⟩, Or.inr (List.mem_filter.mpr ⟨List.mem_of_getElem? (i := 1212) (by decide +kernel), by decide +kernel⟩), List.mem_filter.mpr ⟨List.mem_of_getElem? (i := 146) (by decide +kernel), by decide +kernel⟩, by decide +kernel, trivial, by
  intro pc e h
  have h : at_X2_clear pc = some e := h
  unfold at_X2_clear at h
  exact dd_at_ok vb_X2_clear_0 h⟩
theorem vb_X2_copyFrom_0 : dd_bLs 14 cd_X2_copyFrom_0 [[], [300], [], [], [300], [], [], [300], [], [823, 589, 588, 156], [], [], [301], [301], [], [], [302], [302], []] = true := by decide +kernel
theorem vy_X2_copyFrom : dd_okY 14 := ⟨by decide +kernel, ⟨by decide +kernel, by decide +kernel⟩, Or.inr (List.mem_filter.mpr ⟨List.mem_of_getElem? (i := 822) (by decide +kernel), by decide +kernel⟩), List.mem_filter.mpr ⟨List.mem_of_getElem? (i := 146) (by decide +kernel), by decide +kernel⟩, by decide +kernel, trivial, by
  intro pc e h
  have h : at_X2_copyFrom pc = some e := h
  unfold at_X2_copyFrom at h
  exact dd_at_ok vb_X2_copyFrom_0 h⟩
theorem vb_X2_add_0 : dd_bLs 15 cd_X2_add_0 [[], [301], [], [300], [], [], [], [300], [], [301], [], [], [], [], [301], [], [], [301], []] = true := by decide +kernel
theorem vy_X2_add : dd_okY 15 := ⟨by decide +kernel, ⟨by decide +kernel, by decide +kernel⟩, Or.inr (List.mem_filter.mpr ⟨List.mem_of_getElem? (i := 957) (by decide +kernel), by decide +kernel⟩), List.mem_filter.mpr ⟨List.mem_of_getElem? (i := 146) (by decide +kernel), by decide +kernel⟩, by decide +kernel, trivial, by
  intro pc e h
  have h : at_X2_add pc = some e := h
  unfold at_X2_add at h
  exact dd_at_ok vb_X2_add_0 h⟩
theorem vb_X2_weigh_0 : dd_bLs 16 cd_X2_weigh_0 [[], [], [304], [], [], [306], [], [], [], [], [], [], [], [], [], [], [301], [], [], [300], [], [], [], [], [], [], [], [], [], [], [], [], [], [], [], [], [], [], [], [304], [], [], [], [], [], [], []] = true := by decide +kernel
theorem vb_X2_weigh_1 : dd_bLs 16 cd_X2_weigh_1 [[], [304], [], [], [], [], [], [], [], [], [], [], [], [], [], [], [], [], [], [], [], [], [], [], [], [], [], [], [], [], [], [], [], [], [], [], [], [], [], [], [], [], [], [], [], [], []] = true := by decide +kernel
theorem vb_X2_weigh_2 : dd_bLs 16 cd_X2_weigh_2 [[], [], [], [], [], [], [], [], [], [], [], [], [], [], [], [], [], [], [], [], [], [], [], [], [], [], [], [], [], [], [], [], [], [], [], [], [], [], [], [], [], [], [], [], [], [], []] = true := by decide +kernel
theorem vb_X2_weigh_3 : dd_bLs 16 cd_X2_weigh_3 [[], [], [], [], [], [], [], [], [], [], [], [306], [], [], [], [], [], [], [], [], [306], [], [], [], [], [], [], [], [], [], [], [], [], [], [], [], [], [], [], [], [], [], [], [], [], [], []] = true := by decide +kernel
theorem vy_X2_weigh : dd_okY 16 := ⟨by decide +kernel, ⟨by decide +kernel, by decide +kernel⟩, Or.inr (List.mem_filter.mpr ⟨List.mem_of_getElem? (i := 623) (by decide +kernel), by decide +kernel⟩), List.mem_filter.mpr ⟨List.mem_of_getElem? (i := 146) (by decide +kernel), by decide +kernel⟩, by decide +kernel, trivial, by
  intro pc e h
  have h : at_X2_weigh pc = some e := h
  unfold at_X2_weigh at h
  (repeat' split at h) <;> first | exact dd_at_ok vb_X2_weigh_0 h | exact dd_at_ok vb_X2_weigh_1 h | exact dd_at_ok vb_X2_weigh_2 h | exact dd_at_ok vb_X2_weigh_3 h⟩
theorem vb_X3_init_0 : dd_bLs 17 cd_X3_init_0 [[], [], [379, 345], [], [], [293], [381], [], [], [380], []] = true := by decide +kernel
theorem vy_X3_init : dd_okY 17 := ⟨by decide +kernel, ⟨by decide +kernel, by decide +kernel⟩, Or.inr (List.mem_filter.mpr ⟨List.mem_of_getElem? (i := 378) (by decide +kernel), by decide +kernel⟩), List.mem_filter.mpr ⟨List.mem_of_getElem? (i := 150) (by decide +kernel), by decide +kernel⟩, by decide +kernel, trivial, by
  intro pc e h
  have h : at_X3_init pc = some e := h
  unfold at_X3_init at h
  exact dd_at_ok vb_X3_init_0 h⟩
theorem vb_X3_readLine_0 : dd_bLs 18 cd_X3_readLine_0 [[], [870], [871, 872, 874, 0, 875, 0], [], [], [925, 926, 928, 0, 855, 0], [], [], [], [], [929], [871, 872, 874, 0, 875, 0], [], [], [930], [871, 872, 874, 0, 875, 0], [], [], [929], [871, 872, 874, 0, 875, 0], [], [], [], [], [], [], [925, 926, 928, 0, 855, 0], [], [], [931, 932, 934, 0, 935, 0], [], [], []] = true := by decide +kernel
theorem vb_X3_readLine_1 : dd_bLs 18 cd_X3_readLine_1 [[], [], [], [], [], [], [], [], [], [949, 950, 952, 0, 944, 0], [], [], [953], [871, 872, 874, 0, 875, 0], [], [], [380], [], [954, 955, 956], [], [], [925, 926, 928, 0, 855, 0], [], [958, 960, 14], [], [], [], [], [380], [], [954, 955, 956], [], []] = true := by decide +kernel
theorem vy_X3_readLine : dd_okY 18 := ⟨by decide +kernel, ⟨by decide +kernel, by decide +kernel⟩, Or.inr (List.mem_filter.mpr ⟨List.mem_of_getElem? (i := 869) (by decide +kernel), by decide +kernel⟩), List.mem_filter.mpr ⟨List.mem_of_getElem? (i := 150) (by decide +kernel), by decide +kernel⟩, by decide +kernel, trivial, by
  intro pc e h
  have h : at_X3_readLine pc = some e := h
  unfold at_X3_readLine at h
  (repeat' split at h) <;> first | exact dd_at_ok vb_X3_readLine_0 h | exact dd_at_ok vb_X3_readLine_1 h⟩
theorem vb_X3_readCondition_0 : dd_bLs 19 cd_X3_readCondition_0 [[], [], [382], [], [], [383], [], [], [384], [], [], [], [], [], [], [], [], [], [], [962], [871, 872, 874, 0, 875, 0], [], [], [], [963, 964, 966, 0, 967, 0], [], [], [383], [], [], [], [949, 950, 952, 0, 944, 0], [], [], [969, 971, 15], [], [], [977, 979, 17], [], [], [], [], [], []] = true := by decide +kernel
theorem vb_X3_readCondition_1 : dd_bLs 19 cd_X3_readCondition_1 [[], [1013], [871, 872, 874, 0, 875, 0], [], [], [1014], [871, 872, 874, 0, 875, 0], [], [], [], [1013], [871, 872, 874, 0, 875, 0], [], [], [], [], [1015, 1017, 21], [], [], [], [], [384], [], [], [], [1019, 1021, 22], [], [], [], [], [963, 964, 966, 0, 967, 0], [], [], [1023, 1025, 23], [], [], [949, 950, 952, 0, 944, 0], [], [], [], [], [949, 950, 952, 0, 944, 0], []] = true := by decide +kernel
theorem vy_X3_readCondition : dd_okY 19 := ⟨by decide +kernel, ⟨by decide +kernel, by decide +kernel⟩, Or.inr (List.mem_filter.mpr ⟨List.mem_of_getElem? (i := 961) (by decide +kernel), by decide +kernel⟩), List.mem_filter.mpr ⟨List.mem_of_getElem? (i := 150) (by decide +kernel), by decide +kernel⟩, by decide +kernel, trivial, by
  intro pc e h
  have h : at_X3_readCondition pc = some e := h
  unfold at_X3_readCondition at h
  (repeat' split at h) <;> first | exact dd_at_ok vb_X3_readCondition_0 h | exact dd_at_ok vb_X3_readCondition_1 h⟩
theorem vb_X3_open_0 : dd_bLs 20 cd_X3_open_0 [[], [], [963, 964, 966, 0, 967, 0], [], [], [], [], [], [], [], [973, 975, 16], [], [], [383], [], [], [383], [], [], [384], [], [], [], [], [], [], [384], [], [925, 926, 928, 0, 855, 0], []] = true := by decide +kernel
theorem vy_X3_open : dd_okY 20 := ⟨by decide +kernel, ⟨by decide +kernel, by decide +kernel⟩, Or.inr (List.mem_filter.mpr ⟨List.mem_of_getElem? (i := 972) (by decide +kernel), by decide +kernel⟩), List.mem_filter.mpr ⟨List.mem_of_getElem? (i := 150) (by decide +kernel), by decide +kernel⟩, by decide +kernel, trivial, by
  intro pc e h
  have h : at_X3_open pc = some e := h
  unfold at_X3_open at h
  exact dd_at_ok vb_X3_open_0 h⟩
theorem vb_X3_putUp_0 : dd_bLs 21 cd_X3_putUp_0 [[], [382], [], [381], [], [], [], [381], [], [382], [], [], [], [], [382], [], [], [382], []] = true := by decide +kernel
theorem vy_X3_putUp : dd_okY 21 := ⟨by decide +kernel, ⟨by decide +kernel, by decide +kernel⟩, Or.inr (List.mem_filter.mpr ⟨List.mem_of_getElem? (i := 976) (by decide +kernel), by decide +kernel⟩), List.mem_filter.mpr ⟨List.mem_of_getElem? (i := 150) (by decide +kernel), by decide +kernel⟩, by decide +kernel, trivial, by
  intro pc e h
  have h : at_X3_putUp pc = some e := h
  unfold at_X3_putUp at h
  exact dd_at_ok vb_X3_putUp_0 h⟩
theorem vb_X3_isTop_0 : dd_bLs 22 cd_X3_isTop_0 [[], [382], [], [], [381], [], [382], [], [], [], [], [], [], [], [], []] = true := by decide +kernel
theorem vy_X3_isTop : dd_okY 22 := ⟨by decide +kernel, ⟨by decide +kernel, by decide +kernel⟩, Or.inr (List.mem_filter.mpr ⟨List.mem_of_getElem? (i := 1012) (by decide +kernel), by decide +kernel⟩), List.mem_filter.mpr ⟨List.mem_of_getElem? (i := 150) (by decide +kernel), by decide +kernel⟩, by decide +kernel, trivial, by
  intro pc e h
  have h : at_X3_isTop pc = some e := h
  unfold at_X3_isTop at h
  exact dd_at_ok vb_X3_isTop_0 h⟩
theorem vb_X3_join_0 : dd_bLs 23 cd_X3_join_0 [[], [], [1019, 1021, 22], [], [], [973, 975, 16], [], [925, 926, 928, 0, 855, 0], []] = true := by decide +kernel
theorem vy_X3_join : dd_okY 23 := ⟨by decide +kernel, ⟨by decide +kernel, by decide +kernel⟩, Or.inr (List.mem_filter.mpr ⟨List.mem_of_getElem? (i := 1018) (by decide +kernel), by decide +kernel⟩), List.mem_filter.mpr ⟨List.mem_of_getElem? (i := 150) (by decide +kernel), by decide +kernel⟩, by decide +kernel, trivial, by
  intro pc e h
  have h : at_X3_join pc = some e := h
  unfold at_X3_join at h
  exact dd_at_ok vb_X3_join_0 h⟩
theorem vb_X3_addJoins_0 : dd_bLs 24 cd_X3_addJoins_0 [[], [382], [], [], [], [1009, 1011, 20], [], [], [], [], [], [], [1009, 1011, 20], [], [], [], [382], [], [], [382], [], [380], [], [381], [], [382], [], [954, 955, 956], [], []] = true := by decide +kernel
theorem vy_X3_addJoins : dd_okY 24 := ⟨by decide +kernel, ⟨by decide +kernel, by decide +kernel⟩, Or.inr (List.mem_filter.mpr ⟨List.mem_of_getElem? (i := 1022) (by decide +kernel), by decide +kernel⟩), List.mem_filter.mpr ⟨List.mem_of_getElem? (i := 150) (by decide +kernel), by decide +kernel⟩, by decide +kernel, trivial, by
  intro pc e h
  have h : at_X3_addJoins pc = some e := h
  unfold at_X3_addJoins at h
  exact dd_at_ok vb_X3_addJoins_0 h⟩
theorem vb_X3_addNots_0 : dd_bLs 25 cd_X3_addNots_0 [[], [382], [], [], [], [1009, 1011, 20], [], [], [], [382], [], [], [382], [], [], [383], [], [], [383], [], [380], [], [954, 955, 956], [], []] = true := by decide +kernel
theorem vy_X3_addNots : dd_okY 25 := ⟨by decide +kernel, ⟨by decide +kernel, by decide +kernel⟩, Or.inr (List.mem_filter.mpr ⟨List.mem_of_getElem? (i := 1008) (by decide +kernel), by decide +kernel⟩), List.mem_filter.mpr ⟨List.mem_of_getElem? (i := 150) (by decide +kernel), by decide +kernel⟩, by decide +kernel, trivial, by
  intro pc e h
  have h : at_X3_addNots pc = some e := h
  unfold at_X3_addNots at h
  exact dd_at_ok vb_X3_addNots_0 h⟩
theorem vb_X3_close_0 : dd_bLs 26 cd_X3_close_0 [[], [], [1019, 1021, 22], [], [], [1009, 1011, 20], [], [], [], [382], [], [], [382], [], [], [383], [], [], [383], [], [], [384], [], [], [384], [], [1005, 1007, 19], [], [925, 926, 928, 0, 855, 0], []] = true := by decide +kernel
theorem vy_X3_close : dd_okY 26 := ⟨by decide +kernel, ⟨by decide +kernel, by decide +kernel⟩, Or.inr (List.mem_filter.mpr ⟨List.mem_of_getElem? (i := 1026) (by decide +kernel), by decide +kernel⟩), List.mem_filter.mpr ⟨List.mem_of_getElem? (i := 150) (by decide +kernel), by decide +kernel⟩, by decide +kernel, trivial, by
  intro pc e h
  have h : at_X3_close pc = some e := h
  unfold at_X3_close at h
  exact dd_at_ok vb_X3_close_0 h⟩
theorem vb_X3_readAtom_0 : dd_bLs 27 cd_X3_readAtom_0 [[], [981], [871, 872, 874, 0, 875, 0], [], [], [982], [871, 872, 874, 0, 875, 0], [], [], [380], [], [981], [871, 872, 874, 0, 875, 0], [], [], [], [], [954, 955, 956], [], [925, 926, 928, 0, 855, 0], [], [], [983, 985, 18], [], [], [], [], [], [963, 964, 966, 0, 967, 0], [], [], [], [963, 964, 966, 0, 967, 0], [], [], [949, 950, 952, 0, 944, 0], [], [], [], [963, 964, 966, 0, 967, 0], [], [], [], [], [], [], [380], [], [954, 955, 956], [], [925, 926, 928, 0, 855, 0], [], [983, 985, 18], [], [], [], [], [380], [], [954, 955, 956], [], [1005, 1007, 19], [], []] = true := by decide +kernel
theorem vy_X3_readAtom : dd_okY 27 := ⟨by decide +kernel, ⟨by decide +kernel, by decide +kernel⟩, Or.inr (List.mem_filter.mpr ⟨List.mem_of_getElem? (i := 980) (by decide +kernel), by decide +kernel⟩), List.mem_filter.mpr ⟨List.mem_of_getElem? (i := 150) (by decide +kernel), by decide +kernel⟩, by decide +kernel, trivial, by
  intro pc e h
  have h : at_X3_readAtom pc = some e := h
  unfold at_X3_readAtom at h
  exact dd_at_ok vb_X3_readAtom_0 h⟩
theorem vb_X3_readSum_0 : dd_bLs 28 cd_X3_readSum_0 [[], [], [], [], [], [], [987, 988, 990, 0, 991, 0], [], [], [], [993, 994, 996, 0, 938, 0], [], [], [997], [871, 872, 874, 0, 875, 0], [], [], [], [], [998], [871, 872, 874, 0, 875, 0], [], [], [], [], [999], [871, 872, 874, 0, 875, 0], [], [], [], [], [1000], [871, 872, 874, 0, 875, 0], [], [], [], [], [1001], [871, 872, 874, 0, 875, 0], [], [], [], [], [1002]] = true := by decide +kernel
theorem vb_X3_readSum_1 : dd_bLs 28 cd_X3_readSum_1 [[871, 872, 874, 0, 875, 0], [], [], [], [], [1003], [871, 872, 874, 0, 875, 0], [], [], [], [], [1004], [871, 872, 874, 0, 875, 0], [], [], [], [], [], [], [], [], [], [949, 950, 952, 0, 944, 0], [], [], [380], [], [954, 955, 956], [], [925, 926, 928, 0, 855, 0], [], [], [963, 964, 966, 0, 967, 0], [], [], [], [], [925, 926, 928, 0, 855, 0], [], [], [], [949, 950, 952, 0, 944, 0], []] = true := by decide +kernel
theorem vy_X3_readSum : dd_okY 28 := ⟨by decide +kernel, ⟨by decide +kernel, by decide +kernel⟩, Or.inr (List.mem_filter.mpr ⟨List.mem_of_getElem? (i := 986) (by decide +kernel), by decide +kernel⟩), List.mem_filter.mpr ⟨List.mem_of_getElem? (i := 150) (by decide +kernel), by decide +kernel⟩, by decide +kernel, trivial, by
  intro pc e h
  have h : at_X3_readSum pc = some e := h
  unfold at_X3_readSum at h
  (repeat' split at h) <;> first | exact dd_at_ok vb_X3_readSum_0 h | exact dd_at_ok vb_X3_readSum_1 h⟩
theorem vb_X4_init_0 : dd_bLs 29 cd_X4_init_0 [[], [347, 179, 180], [], [], [354], [], [], [349], []] = true := by decide +kernel
theorem vy_X4_init : dd_okY 29 := ⟨by decide +kernel, ⟨by decide +kernel, by decide +kernel⟩, Or.inr (List.mem_filter.mpr ⟨List.mem_of_getElem? (i := 346) (by decide +kernel), by decide +kernel⟩), List.mem_filter.mpr ⟨List.mem_of_getElem? (i := 148) (by decide +kernel), by decide +kernel⟩, by decide +kernel, trivial, by
  intro pc e h
  have h : at_X4_init pc = some e := h
  unfold at_X4_init at h
  exact dd_at_ok vb_X4_init_0 h⟩
theorem vb_X4_readLines_0 : dd_bLs 30 cd_X4_readLines_0 [[], [], [], [349], [], [851, 852, 157, 853], [350], [], [], [353], [], [], [354], [], [854, 856, 857, 858, 855, 855], [], [351], [], [], [], [], [], [], [], [], [], [864, 866, 867, 1027, 868, 1028], [], [], [], [], [351], [], [], [], [], [], [1109, 1111, 1112, 1113, 1110, 1110], [], [], [], [], [], [], [943, 945, 946, 947, 944, 944], [], [], []] = true := by decide +kernel
theorem vy_X4_readLines : dd_okY 30 := ⟨by decide +kernel, ⟨by decide +kernel, by decide +kernel⟩, Or.inr (List.mem_filter.mpr ⟨List.mem_of_getElem? (i := 850) (by decide +kernel), by decide +kernel⟩), List.mem_filter.mpr ⟨List.mem_of_getElem? (i := 148) (by decide +kernel), by decide +kernel⟩, by decide +kernel, trivial, by
  intro pc e h
  have h : at_X4_readLines pc = some e := h
  unfold at_X4_readLines at h
  exact dd_at_ok vb_X4_readLines_0 h⟩
