theorem vb_X10_sounds_0 : dd_bLs 144 cd_X10_sounds_0 [[], [1534, 1536, 44], [], [], [], [505], [1544, 1545, 1546], [], [], [505], [1556, 1557, 1558], []] = true := by decide +kernel
theorem vy_X10_sounds : dd_okY 144 := ⟨by decide +kernel, ⟨by decide +kernel, by decide +kernel⟩, Or.inr (List.mem_filter.mpr ⟨List.mem_of_getElem? (i := 1533) (by decide +kernel), by decide +kernel⟩), List.mem_filter.mpr ⟨List.mem_of_getElem? (i := 144) (by decide +kernel), by decide +kernel⟩, by decide +kernel, trivial, by
  intro pc e h
  have h : at_X10_sounds pc = some e := h
  unfold at_X10_sounds at h
  exact dd_at_ok vb_X10_sounds_0 h⟩
theorem vb_X10_listen_0 : dd_bLs 145 cd_X10_listen_0 [[], [1534, 1536, 44], [], [505], [1567, 1568, 1569], []] = true := by decide +kernel
theorem vy_X10_listen : dd_okY 145 := ⟨by decide +kernel, ⟨by decide +kernel, by decide +kernel⟩, Or.inr (List.mem_filter.mpr ⟨List.mem_of_getElem? (i := 1566) (by decide +kernel), by decide +kernel⟩), List.mem_filter.mpr ⟨List.mem_of_getElem? (i := 144) (by decide +kernel), by decide +kernel⟩, by decide +kernel, trivial, by
  intro pc e h
  have h : at_X10_listen pc = some e := h
  unfold at_X10_listen at h
  exact dd_at_ok vb_X10_listen_0 h⟩
theorem vb_X10_hearTold_0 : dd_bLs 146 cd_X10_hearTold_0 [[], [505], [], [496], [], [841, 843, 13], [1538, 1539, 1540], [], [], [488], [222], [], [1116, 165, 370, 42, 1], []] = true := by decide +kernel
theorem vy_X10_hearTold : dd_okY 146 := ⟨by decide +kernel, ⟨by decide +kernel, by decide +kernel⟩, Or.inr (List.mem_filter.mpr ⟨List.mem_of_getElem? (i := 1537) (by decide +kernel), by decide +kernel⟩), List.mem_filter.mpr ⟨List.mem_of_getElem? (i := 144) (by decide +kernel), by decide +kernel⟩, by decide +kernel, trivial, by
  intro pc e h
  have h : at_X10_hearTold pc = some e := h
  unfold at_X10_hearTold at h
  exact dd_at_ok vb_X10_hearTold_0 h⟩
theorem vb_X10_ears_0 : dd_bLs 147 cd_X10_ears_0 [[], [841, 843, 13], [], [], [], [1286, 1288, 35], [], [], [1583, 1585, 47], [], [1116, 165, 375, 43, 1], [], [], [], [], [], [], [], [], [], [], [], [1588, 1590, 48], [], [], [], [], [], [], [], [], [], [], []] = true := by decide +kernel
theorem vy_X10_ears : dd_okY 147 := ⟨by decide +kernel, ⟨by decide +kernel, by decide +kernel⟩, Or.inr (List.mem_filter.mpr ⟨List.mem_of_getElem? (i := 1582) (by decide +kernel), by decide +kernel⟩), List.mem_filter.mpr ⟨List.mem_of_getElem? (i := 144) (by decide +kernel), by decide +kernel⟩, by decide +kernel, trivial, by
  intro pc e h
  have h : at_X10_ears pc = some e := h
  unfold at_X10_ears at h
  exact dd_at_ok vb_X10_ears_0 h⟩
theorem vb_X10_tellsEars_0 : dd_bLs 148 cd_X10_tellsEars_0 [[], [], [], [], [], [], [], [], [], [], [], [], [], [], [], [], [], [496], [], [], [], [], [488], [], [1245, 629, 630], [], [], [], [488], [235], [], [], [496], [], [], [], [], [], [], [], [], [], [], [], []] = true := by decide +kernel
theorem vy_X10_tellsEars : dd_okY 148 := ⟨by decide +kernel, ⟨by decide +kernel, by decide +kernel⟩, Or.inr (List.mem_filter.mpr ⟨List.mem_of_getElem? (i := 1586) (by decide +kernel), by decide +kernel⟩), List.mem_filter.mpr ⟨List.mem_of_getElem? (i := 144) (by decide +kernel), by decide +kernel⟩, by decide +kernel, trivial, by
  intro pc e h
  have h : at_X10_tellsEars pc = some e := h
  unfold at_X10_tellsEars at h
  exact dd_at_ok vb_X10_tellsEars_0 h⟩
theorem vb_X10_earFits_0 : dd_bLs 149 cd_X10_earFits_0 [[], [501], [], [575, 576, 577], [], [501], [413], [], [], [], [], [], [], [], [], [], [], [], [501], [], [496], [], [], [1526, 591, 592], [], [501], [758, 759, 760], [], [496], [], [], [], [], [], [], [], [], [], [], [], [], [], [], [], []] = true := by decide +kernel
theorem vy_X10_earFits : dd_okY 149 := ⟨by decide +kernel, ⟨by decide +kernel, by decide +kernel⟩, Or.inr (List.mem_filter.mpr ⟨List.mem_of_getElem? (i := 1591) (by decide +kernel), by decide +kernel⟩), List.mem_filter.mpr ⟨List.mem_of_getElem? (i := 144) (by decide +kernel), by decide +kernel⟩, by decide +kernel, trivial, by
  intro pc e h
  have h : at_X10_earFits pc = some e := h
  unfold at_X10_earFits at h
  exact dd_at_ok vb_X10_earFits_0 h⟩
theorem vb_X10_code_0 : dd_bLs 150 cd_X10_code_0 [[], [], [], [], [], [], [], [], [], [], [675, 676], [], [], [], [], [], [488], [], [681, 682, 683], [], [], [], [], [], [], [], [], []] = true := by decide +kernel
theorem vy_X10_code : dd_okY 150 := ⟨by decide +kernel, ⟨by decide +kernel, by decide +kernel⟩, Or.inr (List.mem_filter.mpr ⟨List.mem_of_getElem? (i := 674) (by decide +kernel), by decide +kernel⟩), List.mem_filter.mpr ⟨List.mem_of_getElem? (i := 144) (by decide +kernel), by decide +kernel⟩, by decide +kernel, trivial, by
  intro pc e h
  have h : at_X10_code pc = some e := h
  unfold at_X10_code at h
  exact dd_at_ok vb_X10_code_0 h⟩
theorem vb_X10_shifted_0 : dd_bLs 151 cd_X10_shifted_0 [[], [], [1269, 1271, 33], [], [], [1269, 1271, 33], [], [], [], [1599, 1601, 49], [], [], [], [], [], [], [488], [], [], [], [1604, 1605, 1606], [], [], [], [], [], [], []] = true := by decide +kernel
theorem vy_X10_shifted : dd_okY 151 := ⟨by decide +kernel, ⟨by decide +kernel, by decide +kernel⟩, Or.inr (List.mem_filter.mpr ⟨List.mem_of_getElem? (i := 1598) (by decide +kernel), by decide +kernel⟩), List.mem_filter.mpr ⟨List.mem_of_getElem? (i := 144) (by decide +kernel), by decide +kernel⟩, by decide +kernel, trivial, by
  intro pc e h
  have h : at_X10_shifted pc = some e := h
  unfold at_X10_shifted at h
  exact dd_at_ok vb_X10_shifted_0 h⟩
theorem vb_X10_silence_0 : dd_bLs 152 cd_X10_silence_0 [[], [], [1269, 1271, 33], [], [488], [], [693, 694, 695], []] = true := by decide +kernel
theorem vy_X10_silence : dd_okY 152 := ⟨by decide +kernel, ⟨by decide +kernel, by decide +kernel⟩, Or.inr (List.mem_filter.mpr ⟨List.mem_of_getElem? (i := 1614) (by decide +kernel), by decide +kernel⟩), List.mem_filter.mpr ⟨List.mem_of_getElem? (i := 144) (by decide +kernel), by decide +kernel⟩, by decide +kernel, trivial, by
  intro pc e h
  have h : at_X10_silence pc = some e := h
  unfold at_X10_silence at h
  exact dd_at_ok vb_X10_silence_0 h⟩
theorem vb_X10_hush_0 : dd_bLs 153 cd_X10_hush_0 [[], [], [1269, 1271, 33], [], [], [], [], [], [], [], [], [], [], [488], [199], [], [], [], [], [], [], [], [], [], [], [], [], [], [], [], [], [], [636, 637, 157, 638], [], [], [], [], [], [1622, 852, 157, 853], []] = true := by decide +kernel
theorem vy_X10_hush : dd_okY 153 := ⟨by decide +kernel, ⟨by decide +kernel, by decide +kernel⟩, Or.inr (List.mem_filter.mpr ⟨List.mem_of_getElem? (i := 1621) (by decide +kernel), by decide +kernel⟩), List.mem_filter.mpr ⟨List.mem_of_getElem? (i := 144) (by decide +kernel), by decide +kernel⟩, by decide +kernel, trivial, by
  intro pc e h
  have h : at_X10_hush pc = some e := h
  unfold at_X10_hush at h
  exact dd_at_ok vb_X10_hush_0 h⟩
theorem vb_X10_quiet_0 : dd_bLs 154 cd_X10_quiet_0 [[], [], [], [], [], [], [], [], [488], [222], [], [], [488], [], [693, 694, 695], [], [], [], [], [], [], [], [], [], [], [], []] = true := by decide +kernel
theorem vy_X10_quiet : dd_okY 154 := ⟨by decide +kernel, ⟨by decide +kernel, by decide +kernel⟩, Or.inr (List.mem_filter.mpr ⟨List.mem_of_getElem? (i := 692) (by decide +kernel), by decide +kernel⟩), List.mem_filter.mpr ⟨List.mem_of_getElem? (i := 144) (by decide +kernel), by decide +kernel⟩, by decide +kernel, trivial, by
  intro pc e h
  have h : at_X10_quiet pc = some e := h
  unfold at_X10_quiet at h
  exact dd_at_ok vb_X10_quiet_0 h⟩
theorem vb_X10_mends_0 : dd_bLs 155 cd_X10_mends_0 [[], [], [1286, 1288, 35], [], [501], [], [575, 576, 577], [], [501], [600, 601, 602], [], [], [], [], [], [], [], [], [], [], [], [], [], [], [], [], [501], [], [575, 576, 577], [], [501], [415], [], [], [], [], [], [], [], [], [501], [600, 601, 602], [], [], [], [], [], [], [], [], [], [], [], [], [], [], []] = true := by decide +kernel
theorem vy_X10_mends : dd_okY 155 := ⟨by decide +kernel, ⟨by decide +kernel, by decide +kernel⟩, Or.inr (List.mem_filter.mpr ⟨List.mem_of_getElem? (i := 1629) (by decide +kernel), by decide +kernel⟩), List.mem_filter.mpr ⟨List.mem_of_getElem? (i := 144) (by decide +kernel), by decide +kernel⟩, by decide +kernel, trivial, by
  intro pc e h
  have h : at_X10_mends pc = some e := h
  unfold at_X10_mends at h
  exact dd_at_ok vb_X10_mends_0 h⟩
theorem vb_X10_meet_0 : dd_bLs 156 cd_X10_meet_0 [[], [], [1286, 1288, 35], [], [], [1286, 1288, 35], [], [], [], [1599, 1601, 49], [], [501], [], [575, 576, 577], [], [502], [], [575, 576, 577], [], [], [], [], [], [], [501], [417], [], [502], [417], [], [], [], [], [501], [1295, 605, 606], [], [502], [1295, 605, 606], [], [], [], []] = true := by decide +kernel
theorem vy_X10_meet : dd_okY 156 := ⟨by decide +kernel, ⟨by decide +kernel, by decide +kernel⟩, Or.inr (List.mem_filter.mpr ⟨List.mem_of_getElem? (i := 1636) (by decide +kernel), by decide +kernel⟩), List.mem_filter.mpr ⟨List.mem_of_getElem? (i := 144) (by decide +kernel), by decide +kernel⟩, by decide +kernel, trivial, by
  intro pc e h
  have h : at_X10_meet pc = some e := h
  unfold at_X10_meet at h
  exact dd_at_ok vb_X10_meet_0 h⟩
theorem vb_X10_sooner_0 : dd_bLs 157 cd_X10_sooner_0 [[], [], [], [], [], [], [], [], [488], [226], [], [], [501], [], [575, 576, 577], [], [501], [], [419], [], [501], [600, 601, 602], [], [], [488], [], [701, 656, 657], [], [], [], [], [], [], [], [], [], [], [], [], [], [], []] = true := by decide +kernel
theorem vy_X10_sooner : dd_okY 157 := ⟨by decide +kernel, ⟨by decide +kernel, by decide +kernel⟩, Or.inr (List.mem_filter.mpr ⟨List.mem_of_getElem? (i := 700) (by decide +kernel), by decide +kernel⟩), List.mem_filter.mpr ⟨List.mem_of_getElem? (i := 144) (by decide +kernel), by decide +kernel⟩, by decide +kernel, trivial, by
  intro pc e h
  have h : at_X10_sooner pc = some e := h
  unfold at_X10_sooner at h
  exact dd_at_ok vb_X10_sooner_0 h⟩
theorem vb_X10_loudest_0 : dd_bLs 158 cd_X10_loudest_0 [[], [], [], [], [], [], [], [571, 573, 3], [], [], [], [], [], [], [], []] = true := by decide +kernel
theorem vy_X10_loudest : dd_okY 158 := ⟨by decide +kernel, ⟨by decide +kernel, by decide +kernel⟩, Or.inr (List.mem_filter.mpr ⟨List.mem_of_getElem? (i := 705) (by decide +kernel), by decide +kernel⟩), List.mem_filter.mpr ⟨List.mem_of_getElem? (i := 144) (by decide +kernel), by decide +kernel⟩, by decide +kernel, trivial, by
  intro pc e h
  have h : at_X10_loudest pc = some e := h
  unfold at_X10_loudest at h
  exact dd_at_ok vb_X10_loudest_0 h⟩
theorem vb_X10_watch_0 : dd_bLs 159 cd_X10_watch_0 [[], [488], [710, 648, 649], [], [], [], [], [], [], [], [], [], [675, 676], [], [675, 676], [], [], [], [], [], [], [], [], [], [], [], [], [], [], [], [], [711, 713, 9], [], [], [], [], [], [], []] = true := by decide +kernel
theorem vy_X10_watch : dd_okY 159 := ⟨by decide +kernel, ⟨by decide +kernel, by decide +kernel⟩, Or.inr (List.mem_filter.mpr ⟨List.mem_of_getElem? (i := 709) (by decide +kernel), by decide +kernel⟩), List.mem_filter.mpr ⟨List.mem_of_getElem? (i := 144) (by decide +kernel), by decide +kernel⟩, by decide +kernel, trivial, by
  intro pc e h
  have h : at_X10_watch pc = some e := h
  unfold at_X10_watch at h
  exact dd_at_ok vb_X10_watch_0 h⟩
theorem vb_X10_allWatched_0 : dd_bLs 160 cd_X10_allWatched_0 [[], [], [], [], [488], [226], [], [], [], [], [], [], [], [], [], [], [715, 717, 10], [], [], [], [], [], [], []] = true := by decide +kernel
theorem vy_X10_allWatched : dd_okY 160 := ⟨by decide +kernel, ⟨by decide +kernel, by decide +kernel⟩, Or.inr (List.mem_filter.mpr ⟨List.mem_of_getElem? (i := 714) (by decide +kernel), by decide +kernel⟩), List.mem_filter.mpr ⟨List.mem_of_getElem? (i := 144) (by decide +kernel), by decide +kernel⟩, by decide +kernel, trivial, by
  intro pc e h
  have h : at_X10_allWatched pc = some e := h
  unfold at_X10_allWatched at h
  exact dd_at_ok vb_X10_allWatched_0 h⟩
theorem vb_X10_isWatched_0 : dd_bLs 161 cd_X10_isWatched_0 [[], [], [], [], [488], [226], [], [], [], [], [], [], [], [], [], [], [], [], [], [], [488], [204], [], [], [], [488], [204], [], [], [719, 595], [], [], [], [], [], [], [], []] = true := by decide +kernel
theorem vy_X10_isWatched : dd_okY 161 := ⟨by decide +kernel, ⟨by decide +kernel, by decide +kernel⟩, Or.inr (List.mem_filter.mpr ⟨List.mem_of_getElem? (i := 718) (by decide +kernel), by decide +kernel⟩), List.mem_filter.mpr ⟨List.mem_of_getElem? (i := 144) (by decide +kernel), by decide +kernel⟩, by decide +kernel, trivial, by
  intro pc e h
  have h : at_X10_isWatched pc = some e := h
  unfold at_X10_isWatched at h
  exact dd_at_ok vb_X10_isWatched_0 h⟩
theorem vb_X10_clearings_0 : dd_bLs 162 cd_X10_clearings_0 [[], [503], [724, 725, 726], []] = true := by decide +kernel
theorem vy_X10_clearings : dd_okY 162 := ⟨by decide +kernel, ⟨by decide +kernel, by decide +kernel⟩, Or.inr (List.mem_filter.mpr ⟨List.mem_of_getElem? (i := 723) (by decide +kernel), by decide +kernel⟩), List.mem_filter.mpr ⟨List.mem_of_getElem? (i := 144) (by decide +kernel), by decide +kernel⟩, by decide +kernel, trivial, by
  intro pc e h
  have h : at_X10_clearings pc = some e := h
  unfold at_X10_clearings at h
  exact dd_at_ok vb_X10_clearings_0 h⟩
theorem vb_X10_splits_0 : dd_bLs 163 cd_X10_splits_0 [[], [503], [732, 733, 734], []] = true := by decide +kernel
theorem vy_X10_splits : dd_okY 163 := ⟨by decide +kernel, ⟨by decide +kernel, by decide +kernel⟩, Or.inr (List.mem_filter.mpr ⟨List.mem_of_getElem? (i := 731) (by decide +kernel), by decide +kernel⟩), List.mem_filter.mpr ⟨List.mem_of_getElem? (i := 144) (by decide +kernel), by decide +kernel⟩, by decide +kernel, trivial, by
  intro pc e h
  have h : at_X10_splits pc = some e := h
  unfold at_X10_splits at h
  exact dd_at_ok vb_X10_splits_0 h⟩
theorem vb_X10_rests_0 : dd_bLs 164 cd_X10_rests_0 [[], [], [1286, 1288, 35], [], [488], [], [701, 656, 657], [], [], [], [], [488], [], [488], [204], [], [], [784, 785, 786], [], [], [], [], [], [], [], [], [], [], [], [], [], [], [], [], [1644, 1645], [], [], [], [], []] = true := by decide +kernel
theorem vb_X10_rests_1 : dd_bLs 164 cd_X10_rests_1 [[1644, 1645], [], [], [], [], [], [], [], [1647, 1648], [], [], [], [], [1647, 1648], [], [], [], [], [], [], [], [], [], [], [], [], [], [], [], [], [], [], [], [], [], [], [], [], []] = true := by decide +kernel
theorem vy_X10_rests : dd_okY 164 := ⟨by decide +kernel, ⟨by decide +kernel, by decide +kernel⟩, Or.inr (List.mem_filter.mpr ⟨List.mem_of_getElem? (i := 1643) (by decide +kernel), by decide +kernel⟩), List.mem_filter.mpr ⟨List.mem_of_getElem? (i := 144) (by decide +kernel), by decide +kernel⟩, by decide +kernel, trivial, by
  intro pc e h
  have h : at_X10_rests pc = some e := h
  unfold at_X10_rests at h
  (repeat' split at h) <;> first | exact dd_at_ok vb_X10_rests_0 h | exact dd_at_ok vb_X10_rests_1 h⟩
theorem vb_X10_hisGain_0 : dd_bLs 165 cd_X10_hisGain_0 [[], [], [], [], [], [], [], [], [], [], [], [], [], [], [], []] = true := by decide +kernel
theorem vy_X10_hisGain : dd_okY 165 := ⟨by decide +kernel, ⟨by decide +kernel, by decide +kernel⟩, Or.inr (List.mem_filter.mpr ⟨List.mem_of_getElem? (i := 1646) (by decide +kernel), by decide +kernel⟩), List.mem_filter.mpr ⟨List.mem_of_getElem? (i := 144) (by decide +kernel), by decide +kernel⟩, by decide +kernel, trivial, by
  intro pc e h
  have h : at_X10_hisGain pc = some e := h
  unfold at_X10_hisGain at h
  exact dd_at_ok vb_X10_hisGain_0 h⟩
theorem vb_X10_theirGain_0 : dd_bLs 166 cd_X10_theirGain_0 [[], [], [], [], [], [], [], [], [], [], []] = true := by decide +kernel
theorem vy_X10_theirGain : dd_okY 166 := ⟨by decide +kernel, ⟨by decide +kernel, by decide +kernel⟩, Or.inr (List.mem_filter.mpr ⟨List.mem_of_getElem? (i := 1649) (by decide +kernel), by decide +kernel⟩), List.mem_filter.mpr ⟨List.mem_of_getElem? (i := 144) (by decide +kernel), by decide +kernel⟩, by decide +kernel, trivial, by
  intro pc e h
  have h : at_X10_theirGain pc = some e := h
  unfold at_X10_theirGain at h
  exact dd_at_ok vb_X10_theirGain_0 h⟩
theorem vb_X10_hearing_0 : dd_bLs 167 cd_X10_hearing_0 [[], [], [], [], [], [], [488], [226], [], [], [], [754, 756, 12], [], [], [], [], [], [], [], [], [], [], []] = true := by decide +kernel
theorem vy_X10_hearing : dd_okY 167 := ⟨by decide +kernel, ⟨by decide +kernel, by decide +kernel⟩, Or.inr (List.mem_filter.mpr ⟨List.mem_of_getElem? (i := 753) (by decide +kernel), by decide +kernel⟩), List.mem_filter.mpr ⟨List.mem_of_getElem? (i := 144) (by decide +kernel), by decide +kernel⟩, by decide +kernel, trivial, by
  intro pc e h
  have h : at_X10_hearing pc = some e := h
  unfold at_X10_hearing at h
  exact dd_at_ok vb_X10_hearing_0 h⟩
theorem vb_X10_dense_0 : dd_bLs 168 cd_X10_dense_0 [[], [488], [191], [766, 767], []] = true := by decide +kernel
theorem vy_X10_dense : dd_okY 168 := ⟨by decide +kernel, ⟨by decide +kernel, by decide +kernel⟩, Or.inr (List.mem_filter.mpr ⟨List.mem_of_getElem? (i := 765) (by decide +kernel), by decide +kernel⟩), List.mem_filter.mpr ⟨List.mem_of_getElem? (i := 144) (by decide +kernel), by decide +kernel⟩, by decide +kernel, trivial, by
  intro pc e h
  have h : at_X10_dense pc = some e := h
  unfold at_X10_dense at h
  exact dd_at_ok vb_X10_dense_0 h⟩
theorem vb_X10_ferny_0 : dd_bLs 169 cd_X10_ferny_0 [[], [], [], [], [], [], [], [], [], [], [488], [195], [], [], [], [], [], [488], [195], [], [], [], [], [], [], [], [], []] = true := by decide +kernel
theorem vy_X10_ferny : dd_okY 169 := ⟨by decide +kernel, ⟨by decide +kernel, by decide +kernel⟩, Or.inr (List.mem_filter.mpr ⟨List.mem_of_getElem? (i := 775) (by decide +kernel), by decide +kernel⟩), List.mem_filter.mpr ⟨List.mem_of_getElem? (i := 144) (by decide +kernel), by decide +kernel⟩, by decide +kernel, trivial, by
  intro pc e h
  have h : at_X10_ferny pc = some e := h
  unfold at_X10_ferny at h
  exact dd_at_ok vb_X10_ferny_0 h⟩
theorem vb_X10_out_0 : dd_bLs 170 cd_X10_out_0 [[], [488], [710, 648, 649], []] = true := by decide +kernel
theorem vy_X10_out : dd_okY 170 := ⟨by decide +kernel, ⟨by decide +kernel, by decide +kernel⟩, Or.inr (List.mem_filter.mpr ⟨List.mem_of_getElem? (i := 779) (by decide +kernel), by decide +kernel⟩), List.mem_filter.mpr ⟨List.mem_of_getElem? (i := 144) (by decide +kernel), by decide +kernel⟩, by decide +kernel, trivial, by
  intro pc e h
  have h : at_X10_out pc = some e := h
  unfold at_X10_out at h
  exact dd_at_ok vb_X10_out_0 h⟩
theorem vb_X10_far_0 : dd_bLs 171 cd_X10_far_0 [[], [], [], [], [], [], [], [], [488], [226], [], [], [488], [], [488], [204], [], [], [784, 785, 786], [], [], [488], [], [701, 656, 657], [], [], [], [], [], [], [], [], [], [], [], []] = true := by decide +kernel
theorem vy_X10_far : dd_okY 171 := ⟨by decide +kernel, ⟨by decide +kernel, by decide +kernel⟩, Or.inr (List.mem_filter.mpr ⟨List.mem_of_getElem? (i := 783) (by decide +kernel), by decide +kernel⟩), List.mem_filter.mpr ⟨List.mem_of_getElem? (i := 144) (by decide +kernel), by decide +kernel⟩, by decide +kernel, trivial, by
  intro pc e h
  have h : at_X10_far pc = some e := h
  unfold at_X10_far at h
  exact dd_at_ok vb_X10_far_0 h⟩
theorem vb_X10_worst_0 : dd_bLs 172 cd_X10_worst_0 [[], [], [], [], [], [], [], [], [488], [226], [], [], [488], [216], [], [], [], [], [], [488], [216], [], [], [], [], [], [], [], [], []] = true := by decide +kernel
theorem vy_X10_worst : dd_okY 172 := ⟨by decide +kernel, ⟨by decide +kernel, by decide +kernel⟩, Or.inr (List.mem_filter.mpr ⟨List.mem_of_getElem? (i := 792) (by decide +kernel), by decide +kernel⟩), List.mem_filter.mpr ⟨List.mem_of_getElem? (i := 144) (by decide +kernel), by decide +kernel⟩, by decide +kernel, trivial, by
  intro pc e h
  have h : at_X10_worst pc = some e := h
  unfold at_X10_worst at h
  exact dd_at_ok vb_X10_worst_0 h⟩
theorem vb_X10_odds_0 : dd_bLs 173 cd_X10_odds_0 [[], [], [1286, 1288, 35], [], [], [], [], [1312, 1314, 38], [], [], [], [488], [], [701, 656, 657], [], [], [], [754, 756, 12], [], [], [], [], [], [], [], [], [], [], [], [488], [243], [], [], [], [], [], [], [], [], []] = true := by decide +kernel
theorem vy_X10_odds : dd_okY 173 := ⟨by decide +kernel, ⟨by decide +kernel, by decide +kernel⟩, Or.inr (List.mem_filter.mpr ⟨List.mem_of_getElem? (i := 1656) (by decide +kernel), by decide +kernel⟩), List.mem_filter.mpr ⟨List.mem_of_getElem? (i := 144) (by decide +kernel), by decide +kernel⟩, by decide +kernel, trivial, by
  intro pc e h
  have h : at_X10_odds pc = some e := h
  unfold at_X10_odds at h
  exact dd_at_ok vb_X10_odds_0 h⟩
theorem vb_X10_twins_0 : dd_bLs 174 cd_X10_twins_0 [[], [], [], [], [], [], [488], [226], [], [], [], [], [], [], [], [488], [226], [], [], [488], [208], [], [], [], [488], [208], [], [], [], [], [488], [212], [], [], [], [488], [212], [], [], [], [], [], [], [], [], [], []] = true := by decide +kernel
theorem vy_X10_twins : dd_okY 174 := ⟨by decide +kernel, ⟨by decide +kernel, by decide +kernel⟩, Or.inr (List.mem_filter.mpr ⟨List.mem_of_getElem? (i := 796) (by decide +kernel), by decide +kernel⟩), List.mem_filter.mpr ⟨List.mem_of_getElem? (i := 144) (by decide +kernel), by decide +kernel⟩, by decide +kernel, trivial, by
  intro pc e h
  have h : at_X10_twins pc = some e := h
  unfold at_X10_twins at h
  exact dd_at_ok vb_X10_twins_0 h⟩
theorem vb_X10_ahead_0 : dd_bLs 175 cd_X10_ahead_0 [[], [], [1286, 1288, 35], [], [], [], [], [1312, 1314, 38], [], [], [], [1291, 1293, 36], []] = true := by decide +kernel
theorem vy_X10_ahead : dd_okY 175 := ⟨by decide +kernel, ⟨by decide +kernel, by decide +kernel⟩, Or.inr (List.mem_filter.mpr ⟨List.mem_of_getElem? (i := 1663) (by decide +kernel), by decide +kernel⟩), List.mem_filter.mpr ⟨List.mem_of_getElem? (i := 144) (by decide +kernel), by decide +kernel⟩, by decide +kernel, trivial, by
  intro pc e h
  have h : at_X10_ahead pc = some e := h
  unfold at_X10_ahead at h
  exact dd_at_ok vb_X10_ahead_0 h⟩
theorem vb_X10_cellAhead_0 : dd_bLs 176 cd_X10_cellAhead_0 [[], [501], [], [575, 576, 577], [], [], [], [], [], [], [501], [1295, 605, 606], [], [], [], [501], [417], []] = true := by decide +kernel
theorem vy_X10_cellAhead : dd_okY 176 := ⟨by decide +kernel, ⟨by decide +kernel, by decide +kernel⟩, Or.inr (List.mem_filter.mpr ⟨List.mem_of_getElem? (i := 1294) (by decide +kernel), by decide +kernel⟩), List.mem_filter.mpr ⟨List.mem_of_getElem? (i := 144) (by decide +kernel), by decide +kernel⟩, by decide +kernel, trivial, by
  intro pc e h
  have h : at_X10_cellAhead pc = some e := h
  unfold at_X10_cellAhead at h
  exact dd_at_ok vb_X10_cellAhead_0 h⟩
theorem vb_X10_trial_0 : dd_bLs 177 cd_X10_trial_0 [[], [], [], [], [1312, 1314, 38], [], [489], [], [488], [818, 810, 811], [], [], [1321, 1323, 39], [], [], [], [], [488], [1300, 1301, 1302], [], [], [488], [230], [], [], [488], [], [489], [818, 810, 811], [], []] = true := by decide +kernel
theorem vy_X10_trial : dd_okY 177 := ⟨by decide +kernel, ⟨by decide +kernel, by decide +kernel⟩, Or.inr (List.mem_filter.mpr ⟨List.mem_of_getElem? (i := 1670) (by decide +kernel), by decide +kernel⟩), List.mem_filter.mpr ⟨List.mem_of_getElem? (i := 144) (by decide +kernel), by decide +kernel⟩, by decide +kernel, trivial, by
  intro pc e h
  have h : at_X10_trial pc = some e := h
  unfold at_X10_trial at h
  exact dd_at_ok vb_X10_trial_0 h⟩
theorem vb_X10_span_0 : dd_bLs 178 cd_X10_span_0 [[], [], [], [], [1312, 1314, 38], [], [], [], [], [], [489], [], [488], [818, 810, 811], [], [], [], [], [], [], [488], [], [253], [], [], [1321, 1323, 39], [], [], [488], [230], [675, 676], [], [], [], [1622, 852, 157, 853], [], [], [], [636, 637, 157, 638], [], [], [488], [], [489], [818, 810, 811], [], [], [], [], [], [], [], []] = true := by decide +kernel
theorem vy_X10_span : dd_okY 178 := ⟨by decide +kernel, ⟨by decide +kernel, by decide +kernel⟩, Or.inr (List.mem_filter.mpr ⟨List.mem_of_getElem? (i := 1677) (by decide +kernel), by decide +kernel⟩), List.mem_filter.mpr ⟨List.mem_of_getElem? (i := 144) (by decide +kernel), by decide +kernel⟩, by decide +kernel, trivial, by
  intro pc e h
  have h : at_X10_span pc = some e := h
  unfold at_X10_span at h
  exact dd_at_ok vb_X10_span_0 h⟩
theorem vb_X10_led_0 : dd_bLs 179 cd_X10_led_0 [[], [], [1286, 1288, 35], [], [], [], [], [], [488], [219], [], [], [], [], [], [], [488], [], [], [1685, 1686, 1687], [], [], [], [], [488], [], [], [1685, 1686, 1687], [], [], [], [], [], [], [], [], []] = true := by decide +kernel
theorem vy_X10_led : dd_okY 179 := ⟨by decide +kernel, ⟨by decide +kernel, by decide +kernel⟩, Or.inr (List.mem_filter.mpr ⟨List.mem_of_getElem? (i := 1684) (by decide +kernel), by decide +kernel⟩), List.mem_filter.mpr ⟨List.mem_of_getElem? (i := 144) (by decide +kernel), by decide +kernel⟩, by decide +kernel, trivial, by
  intro pc e h
  have h : at_X10_led pc = some e := h
  unfold at_X10_led at h
  exact dd_at_ok vb_X10_led_0 h⟩
theorem vb_X10_log_0 : dd_bLs 180 cd_X10_log_0 [[], [], [], [], [], [1246, 168, 449, 45, 1], [], [488], [], [], [1685, 1686, 1687], []] = true := by decide +kernel
theorem vy_X10_log : dd_okY 180 := ⟨by decide +kernel, ⟨by decide +kernel, by decide +kernel⟩, Or.inr (List.mem_filter.mpr ⟨List.mem_of_getElem? (i := 1695) (by decide +kernel), by decide +kernel⟩), List.mem_filter.mpr ⟨List.mem_of_getElem? (i := 144) (by decide +kernel), by decide +kernel⟩, by decide +kernel, trivial, by
  intro pc e h
  have h : at_X10_log pc = some e := h
  unfold at_X10_log at h
  exact dd_at_ok vb_X10_log_0 h⟩
theorem vb_X10_seed_0 : dd_bLs 181 cd_X10_seed_0 [[], [488], [253], [], [], [488], [], [253], [], []] = true := by decide +kernel
theorem vy_X10_seed : dd_okY 181 := ⟨by decide +kernel, ⟨by decide +kernel, by decide +kernel⟩, Or.inr (List.mem_filter.mpr ⟨List.mem_of_getElem? (i := 800) (by decide +kernel), by decide +kernel⟩), List.mem_filter.mpr ⟨List.mem_of_getElem? (i := 144) (by decide +kernel), by decide +kernel⟩, by decide +kernel, trivial, by
  intro pc e h
  have h : at_X10_seed pc = some e := h
  unfold at_X10_seed at h
  exact dd_at_ok vb_X10_seed_0 h⟩
theorem vb_X10_undo_0 : dd_bLs 182 cd_X10_undo_0 [[], [495], [], [488], [805, 806, 807], []] = true := by decide +kernel
theorem vy_X10_undo : dd_okY 182 := ⟨by decide +kernel, ⟨by decide +kernel, by decide +kernel⟩, Or.inr (List.mem_filter.mpr ⟨List.mem_of_getElem? (i := 804) (by decide +kernel), by decide +kernel⟩), List.mem_filter.mpr ⟨List.mem_of_getElem? (i := 144) (by decide +kernel), by decide +kernel⟩, by decide +kernel, trivial, by
  intro pc e h
  have h : at_X10_undo pc = some e := h
  unfold at_X10_undo at h
  exact dd_at_ok vb_X10_undo_0 h⟩
theorem vb_X10_image_0 : dd_bLs 183 cd_X10_image_0 [[], [490], [], [488], [818, 810, 811], [], [493], [], [491], [819, 820, 821], [], [], [494], []] = true := by decide +kernel
theorem vy_X10_image : dd_okY 183 := ⟨by decide +kernel, ⟨by decide +kernel, by decide +kernel⟩, Or.inr (List.mem_filter.mpr ⟨List.mem_of_getElem? (i := 817) (by decide +kernel), by decide +kernel⟩), List.mem_filter.mpr ⟨List.mem_of_getElem? (i := 144) (by decide +kernel), by decide +kernel⟩, by decide +kernel, trivial, by
  intro pc e h
  have h : at_X10_image pc = some e := h
  unfold at_X10_image at h
  exact dd_at_ok vb_X10_image_0 h⟩
theorem vb_X10_back_0 : dd_bLs 184 cd_X10_back_0 [[], [494], [], [], [], [], [488], [], [490], [818, 810, 811], [], [491], [], [493], [819, 820, 821], [], [495], [828, 829, 830], [], []] = true := by decide +kernel
theorem vy_X10_back : dd_okY 184 := ⟨by decide +kernel, ⟨by decide +kernel, by decide +kernel⟩, Or.inr (List.mem_filter.mpr ⟨List.mem_of_getElem? (i := 827) (by decide +kernel), by decide +kernel⟩), List.mem_filter.mpr ⟨List.mem_of_getElem? (i := 144) (by decide +kernel), by decide +kernel⟩, by decide +kernel, trivial, by
  intro pc e h
  have h : at_X10_back pc = some e := h
  unfold at_X10_back at h
  exact dd_at_ok vb_X10_back_0 h⟩
theorem vb_X11_thrown_0 : dd_bLs 185 cd_X11_thrown_0 [[], [1707], []] = true := by decide +kernel
theorem vy_X11_thrown : dd_okY 185 := ⟨by decide +kernel, ⟨by decide +kernel, by decide +kernel⟩, Or.inr (List.mem_filter.mpr ⟨List.mem_of_getElem? (i := 1700) (by decide +kernel), by decide +kernel⟩), List.mem_filter.mpr ⟨List.mem_of_getElem? (i := 155) (by decide +kernel), by decide +kernel⟩, by decide +kernel, trivial, by
  intro pc e h
  have h : at_X11_thrown pc = some e := h
  unfold at_X11_thrown at h
  exact dd_at_ok vb_X11_thrown_0 h⟩
theorem vb_X11_throwsIf_0 : dd_bLs 186 cd_X11_throwsIf_0 [[], [], [], [], [1707], [], []] = true := by decide +kernel
theorem vy_X11_throwsIf : dd_okY 186 := ⟨by decide +kernel, ⟨by decide +kernel, by decide +kernel⟩, Or.inr (List.mem_filter.mpr ⟨List.mem_of_getElem? (i := 1990) (by decide +kernel), by decide +kernel⟩), List.mem_filter.mpr ⟨List.mem_of_getElem? (i := 155) (by decide +kernel), by decide +kernel⟩, by decide +kernel, trivial, by
  intro pc e h
  have h : at_X11_throwsIf pc = some e := h
  unfold at_X11_throwsIf at h
  exact dd_at_ok vb_X11_throwsIf_0 h⟩
theorem vb_X11_in_0 : dd_bLs 187 cd_X11_in_0 [[], [], [], [], [], [], [], [], [], []] = true := by decide +kernel
theorem vy_X11_in : dd_okY 187 := ⟨by decide +kernel, ⟨by decide +kernel, by decide +kernel⟩, Or.inr (List.mem_filter.mpr ⟨List.mem_of_getElem? (i := 2001) (by decide +kernel), by decide +kernel⟩), List.mem_filter.mpr ⟨List.mem_of_getElem? (i := 155) (by decide +kernel), by decide +kernel⟩, by decide +kernel, trivial, by
  intro pc e h
  have h : at_X11_in pc = some e := h
  unfold at_X11_in at h
  exact dd_at_ok vb_X11_in_0 h⟩
