theorem vb_X9_readFire_0 : dd_bLs 101 cd_X9_readFire_0 [[], [1041, 1042, 0, 1043, 0, 855], [], [1063, 1065, 26], [], [], [], [], [], [], [], [348], [], [1096, 1097, 1098], [], []] = true := by decide +kernel
theorem vy_X9_readFire : dd_okY 101 := ⟨by decide +kernel, ⟨by decide +kernel, by decide +kernel⟩, Or.inr (List.mem_filter.mpr ⟨List.mem_of_getElem? (i := 1095) (by decide +kernel), by decide +kernel⟩), List.mem_filter.mpr ⟨List.mem_of_getElem? (i := 149) (by decide +kernel), by decide +kernel⟩, by decide +kernel, trivial, by
  intro pc e h
  have h : at_X9_readFire pc = some e := h
  unfold at_X9_readFire at h
  exact dd_at_ok vb_X9_readFire_0 h⟩
theorem vb_X9_readSetting_0 : dd_bLs 102 cd_X9_readSetting_0 [[], [1105], [1031, 1032, 0, 1033, 0, 875], [], [], [1041, 1042, 0, 1043, 0, 855], [], [348], [], [], [1071, 1072, 0, 1073, 0, 935], [238], [], [348], [238], [], [], [], [], [], [], [], [1106], [1031, 1032, 0, 1033, 0, 875], [], [], [1041, 1042, 0, 1043, 0, 855], [], [348], [], [], [1071, 1072, 0, 1073, 0, 935], [241], [], [348], [241], [], [], [], [], [], [], [], [1107]] = true := by decide +kernel
theorem vb_X9_readSetting_1 : dd_bLs 102 cd_X9_readSetting_1 [[1031, 1032, 0, 1033, 0, 875], [], [], [1041, 1042, 0, 1043, 0, 855], [], [348], [], [], [1071, 1072, 0, 1073, 0, 935], [247], [], [348], [247], [], [], [], [], [], [], [], [1108], [1031, 1032, 0, 1033, 0, 875], [], [], [1041, 1042, 0, 1043, 0, 855], [], [348], [], [], [1071, 1072, 0, 1073, 0, 935], [250], [], [348], [250], [], [], [], [], [], [], [], [1038, 1039, 0, 1040, 0, 944], []] = true := by decide +kernel
theorem vy_X9_readSetting : dd_okY 102 := ⟨by decide +kernel, ⟨by decide +kernel, by decide +kernel⟩, Or.inr (List.mem_filter.mpr ⟨List.mem_of_getElem? (i := 1104) (by decide +kernel), by decide +kernel⟩), List.mem_filter.mpr ⟨List.mem_of_getElem? (i := 149) (by decide +kernel), by decide +kernel⟩, by decide +kernel, trivial, by
  intro pc e h
  have h : at_X9_readSetting pc = some e := h
  unfold at_X9_readSetting at h
  (repeat' split at h) <;> first | exact dd_at_ok vb_X9_readSetting_0 h | exact dd_at_ok vb_X9_readSetting_1 h⟩
theorem vb_X10_init_0 : dd_bLs 103 cd_X10_init_0 [[], [178, 179, 180], [], [181, 182, 145], [], [183, 184], [488], [], [181, 182, 145], [], [183, 184], [489], [], [181, 182, 145], [], [183, 184], [490], [], [294, 295, 146], [], [296, 297], [491], [], [294, 295, 146], [], [296, 297], [492], [], [294, 295, 146], [], [296, 297], [493], [], [319, 320, 147], [], [321, 322]] = true := by decide +kernel
theorem vb_X10_init_1 : dd_bLs 103 cd_X10_init_1 [[495], [], [], [293], [496], [], [], [498], [], [339, 340, 149], [], [], [496], [], [488], [341, 342], [499], [], [374, 375, 150], [], [], [496], [], [492], [376, 377], [500], [], [402, 403, 151], [], [], [488], [], [491], [404, 405], [501], []] = true := by decide +kernel
theorem vb_X10_init_2 : dd_bLs 103 cd_X10_init_2 [[402, 403, 151], [], [], [488], [], [491], [404, 405], [502], [], [433, 434, 152], [], [], [488], [435, 436], [503], [], [446, 447, 153], [], [], [488], [], [501], [448, 449], [504], [], [466, 467, 154], [], [], [488], [], [501], [468, 469], [505], []] = true := by decide +kernel
theorem vy_X10_init : dd_okY 103 := ⟨by decide +kernel, ⟨by decide +kernel, by decide +kernel⟩, Or.inr (List.mem_filter.mpr ⟨List.mem_of_getElem? (i := 177) (by decide +kernel), by decide +kernel⟩), List.mem_filter.mpr ⟨List.mem_of_getElem? (i := 144) (by decide +kernel), by decide +kernel⟩, by decide +kernel, trivial, by
  intro pc e h
  have h : at_X10_init pc = some e := h
  unfold at_X10_init at h
  (repeat' split at h) <;> first | exact dd_at_ok vb_X10_init_0 h | exact dd_at_ok vb_X10_init_1 h | exact dd_at_ok vb_X10_init_2 h⟩
theorem vb_X10_feed_0 : dd_bLs 104 cd_X10_feed_0 [[], [497], [], [], [], [], [], [], [], [], [547, 549, 2], [], [], [547, 549, 2], [], [], [547, 549, 2], [], [], [547, 549, 2], [], [], [547, 549, 2], [], [497], []] = true := by decide +kernel
theorem vy_X10_feed : dd_okY 104 := ⟨by decide +kernel, ⟨by decide +kernel, by decide +kernel⟩, Or.inr (List.mem_filter.mpr ⟨List.mem_of_getElem? (i := 546) (by decide +kernel), by decide +kernel⟩), List.mem_filter.mpr ⟨List.mem_of_getElem? (i := 144) (by decide +kernel), by decide +kernel⟩, by decide +kernel, trivial, by
  intro pc e h
  have h : at_X10_feed pc = some e := h
  unfold at_X10_feed at h
  exact dd_at_ok vb_X10_feed_0 h⟩
theorem vb_X10_putBytes_0 : dd_bLs 105 cd_X10_putBytes_0 [[], [], [], [], [], [497], [], [496], [], [], [], [496], [], [497], [], [], [], [], [], [], [], [], [497], [], [], [497], [], [], []] = true := by decide +kernel
theorem vy_X10_putBytes : dd_okY 105 := ⟨by decide +kernel, ⟨by decide +kernel, by decide +kernel⟩, Or.inr (List.mem_filter.mpr ⟨List.mem_of_getElem? (i := 550) (by decide +kernel), by decide +kernel⟩), List.mem_filter.mpr ⟨List.mem_of_getElem? (i := 144) (by decide +kernel), by decide +kernel⟩, by decide +kernel, trivial, by
  intro pc e h
  have h : at_X10_putBytes pc = some e := h
  unfold at_X10_putBytes at h
  exact dd_at_ok vb_X10_putBytes_0 h⟩
theorem vb_X10_end_0 : dd_bLs 106 cd_X10_end_0 [[], [], [], [], [497], [], [], [], [], [], [497], [], []] = true := by decide +kernel
theorem vy_X10_end : dd_okY 106 := ⟨by decide +kernel, ⟨by decide +kernel, by decide +kernel⟩, Or.inr (List.mem_filter.mpr ⟨List.mem_of_getElem? (i := 554) (by decide +kernel), by decide +kernel⟩), List.mem_filter.mpr ⟨List.mem_of_getElem? (i := 144) (by decide +kernel), by decide +kernel⟩, by decide +kernel, trivial, by
  intro pc e h
  have h : at_X10_end pc = some e := h
  unfold at_X10_end at h
  exact dd_at_ok vb_X10_end_0 h⟩
theorem vb_X10_useTapeUp_0 : dd_bLs 107 cd_X10_useTapeUp_0 [[], [497], [], [], [], [497], [], []] = true := by decide +kernel
theorem vy_X10_useTapeUp : dd_okY 107 := ⟨by decide +kernel, ⟨by decide +kernel, by decide +kernel⟩, Or.inr (List.mem_filter.mpr ⟨List.mem_of_getElem? (i := 844) (by decide +kernel), by decide +kernel⟩), List.mem_filter.mpr ⟨List.mem_of_getElem? (i := 144) (by decide +kernel), by decide +kernel⟩, by decide +kernel, trivial, by
  intro pc e h
  have h : at_X10_useTapeUp pc = some e := h
  unfold at_X10_useTapeUp at h
  exact dd_at_ok vb_X10_useTapeUp_0 h⟩
theorem vb_X10_wood_0 : dd_bLs 108 cd_X10_wood_0 [[], [489], [], [488], [818, 810, 811], [], [499], [], [841, 843, 13], [], [845, 846, 0, 848, 0, 849], [], [], [], [499], [355, 356], [498], [], [], [], [], [488], [], [489], [818, 810, 811], [1116, 165, 128, 29, 0], [], [489], [228], [], [], [], [488], [], [489], [818, 810, 811], [1186, 166, 138, 30, 0], [], [488], [], [228], [], [], [228], [], [495], [828, 829, 830], [], [488], [228], []] = true := by decide +kernel
theorem vy_X10_wood : dd_okY 108 := ⟨by decide +kernel, ⟨by decide +kernel, by decide +kernel⟩, Or.inr (List.mem_filter.mpr ⟨List.mem_of_getElem? (i := 840) (by decide +kernel), by decide +kernel⟩), List.mem_filter.mpr ⟨List.mem_of_getElem? (i := 144) (by decide +kernel), by decide +kernel⟩, by decide +kernel, trivial, by
  intro pc e h
  have h : at_X10_wood pc = some e := h
  unfold at_X10_wood at h
  exact dd_at_ok vb_X10_wood_0 h⟩
theorem vb_X10_law_0 : dd_bLs 109 cd_X10_law_0 [[], [492], [1209, 1210, 1211], [], [500], [], [841, 843, 13], [], [1213, 1214, 1215, 0, 849, 0], [], [], [], [500], [357, 358], [498], [], [], [], [1116, 165, 128, 29, 0], [], [492], [], [303], [], [491], [], [492], [819, 820, 821], [], [495], [828, 829, 830], [], []] = true := by decide +kernel
theorem vy_X10_law : dd_okY 109 := ⟨by decide +kernel, ⟨by decide +kernel, by decide +kernel⟩, Or.inr (List.mem_filter.mpr ⟨List.mem_of_getElem? (i := 1208) (by decide +kernel), by decide +kernel⟩), List.mem_filter.mpr ⟨List.mem_of_getElem? (i := 144) (by decide +kernel), by decide +kernel⟩, by decide +kernel, trivial, by
  intro pc e h
  have h : at_X10_law pc = some e := h
  unfold at_X10_law at h
  exact dd_at_ok vb_X10_law_0 h⟩
theorem vb_X10_fault_0 : dd_bLs 110 cd_X10_fault_0 [[], [498], []] = true := by decide +kernel
theorem vy_X10_fault : dd_okY 110 := ⟨by decide +kernel, ⟨by decide +kernel, by decide +kernel⟩, Or.inr (List.mem_filter.mpr ⟨List.mem_of_getElem? (i := 558) (by decide +kernel), by decide +kernel⟩), List.mem_filter.mpr ⟨List.mem_of_getElem? (i := 144) (by decide +kernel), by decide +kernel⟩, by decide +kernel, trivial, by
  intro pc e h
  have h : at_X10_fault pc = some e := h
  unfold at_X10_fault at h
  exact dd_at_ok vb_X10_fault_0 h⟩
theorem vb_X10_requireCell_0 : dd_bLs 111 cd_X10_requireCell_0 [[], [], [], [], [], [1229, 167, 157, 31, 0], []] = true := by decide +kernel
theorem vy_X10_requireCell : dd_okY 111 := ⟨by decide +kernel, ⟨by decide +kernel, by decide +kernel⟩, Or.inr (List.mem_filter.mpr ⟨List.mem_of_getElem? (i := 1228) (by decide +kernel), by decide +kernel⟩), List.mem_filter.mpr ⟨List.mem_of_getElem? (i := 144) (by decide +kernel), by decide +kernel⟩, by decide +kernel, trivial, by
  intro pc e h
  have h : at_X10_requireCell pc = some e := h
  unfold at_X10_requireCell at h
  exact dd_at_ok vb_X10_requireCell_0 h⟩
theorem vb_X10_requirePart_0 : dd_bLs 112 cd_X10_requirePart_0 [[], [], [], [], [488], [222], [], [1229, 167, 163, 33, 0], []] = true := by decide +kernel
theorem vy_X10_requirePart : dd_okY 112 := ⟨by decide +kernel, ⟨by decide +kernel, by decide +kernel⟩, Or.inr (List.mem_filter.mpr ⟨List.mem_of_getElem? (i := 1272) (by decide +kernel), by decide +kernel⟩), List.mem_filter.mpr ⟨List.mem_of_getElem? (i := 144) (by decide +kernel), by decide +kernel⟩, by decide +kernel, trivial, by
  intro pc e h
  have h : at_X10_requirePart pc = some e := h
  unfold at_X10_requirePart at h
  exact dd_at_ok vb_X10_requirePart_0 h⟩
theorem vb_X10_requireBoy_0 : dd_bLs 113 cd_X10_requireBoy_0 [[], [], [], [], [488], [226], [], [1229, 167, 168, 35, 0], []] = true := by decide +kernel
theorem vy_X10_requireBoy : dd_okY 113 := ⟨by decide +kernel, ⟨by decide +kernel, by decide +kernel⟩, Or.inr (List.mem_filter.mpr ⟨List.mem_of_getElem? (i := 1289) (by decide +kernel), by decide +kernel⟩), List.mem_filter.mpr ⟨List.mem_of_getElem? (i := 144) (by decide +kernel), by decide +kernel⟩, by decide +kernel, trivial, by
  intro pc e h
  have h : at_X10_requireBoy pc = some e := h
  unfold at_X10_requireBoy at h
  exact dd_at_ok vb_X10_requireBoy_0 h⟩
theorem vb_X10_requireBeat_0 : dd_bLs 114 cd_X10_requireBeat_0 [[], [], [], [], [], [1229, 167, 170, 34, 0], []] = true := by decide +kernel
theorem vy_X10_requireBeat : dd_okY 114 := ⟨by decide +kernel, ⟨by decide +kernel, by decide +kernel⟩, Or.inr (List.mem_filter.mpr ⟨List.mem_of_getElem? (i := 1277) (by decide +kernel), by decide +kernel⟩), List.mem_filter.mpr ⟨List.mem_of_getElem? (i := 144) (by decide +kernel), by decide +kernel⟩, by decide +kernel, trivial, by
  intro pc e h
  have h : at_X10_requireBeat pc = some e := h
  unfold at_X10_requireBeat at h
  exact dd_at_ok vb_X10_requireBeat_0 h⟩
theorem vb_X10_requireNumber_0 : dd_bLs 115 cd_X10_requireNumber_0 [[], [], [], [], [], [], [1116, 165, 172, 37, 0], []] = true := by decide +kernel
theorem vy_X10_requireNumber : dd_okY 115 := ⟨by decide +kernel, ⟨by decide +kernel, by decide +kernel⟩, Or.inr (List.mem_filter.mpr ⟨List.mem_of_getElem? (i := 1315) (by decide +kernel), by decide +kernel⟩), List.mem_filter.mpr ⟨List.mem_of_getElem? (i := 144) (by decide +kernel), by decide +kernel⟩, by decide +kernel, trivial, by
  intro pc e h
  have h : at_X10_requireNumber pc = some e := h
  unfold at_X10_requireNumber at h
  exact dd_at_ok vb_X10_requireNumber_0 h⟩
theorem vb_X10_requireTwo_0 : dd_bLs 116 cd_X10_requireTwo_0 [[], [], [], [1116, 165, 174, 44, 0], []] = true := by decide +kernel
theorem vy_X10_requireTwo : dd_okY 116 := ⟨by decide +kernel, ⟨by decide +kernel, by decide +kernel⟩, Or.inr (List.mem_filter.mpr ⟨List.mem_of_getElem? (i := 1602) (by decide +kernel), by decide +kernel⟩), List.mem_filter.mpr ⟨List.mem_of_getElem? (i := 144) (by decide +kernel), by decide +kernel⟩, by decide +kernel, trivial, by
  intro pc e h
  have h : at_X10_requireTwo pc = some e := h
  unfold at_X10_requireTwo at h
  exact dd_at_ok vb_X10_requireTwo_0 h⟩
theorem vb_X10_cell_0 : dd_bLs 117 cd_X10_cell_0 [[], [], [1225, 1227, 32], [], [], [], [488], [], [1245, 629, 630], [], [], [], [], [], [], [488], [195], [], [], [], [], [488], [], [784, 785, 786], [], [1246, 168, 192, 32, 0]] = true := by decide +kernel
theorem vy_X10_cell : dd_okY 117 := ⟨by decide +kernel, ⟨by decide +kernel, by decide +kernel⟩, Or.inr (List.mem_filter.mpr ⟨List.mem_of_getElem? (i := 1224) (by decide +kernel), by decide +kernel⟩), List.mem_filter.mpr ⟨List.mem_of_getElem? (i := 144) (by decide +kernel), by decide +kernel⟩, by decide +kernel, trivial, by
  intro pc e h
  have h : at_X10_cell pc = some e := h
  unfold at_X10_cell at h
  exact dd_at_ok vb_X10_cell_0 h⟩
theorem vb_X10_note_0 : dd_bLs 118 cd_X10_note_0 [[], [], [1269, 1271, 33], [], [], [1274, 1276, 34], [], [488], [199], [], [], [], [], [], [], []] = true := by decide +kernel
theorem vy_X10_note : dd_okY 118 := ⟨by decide +kernel, ⟨by decide +kernel, by decide +kernel⟩, Or.inr (List.mem_filter.mpr ⟨List.mem_of_getElem? (i := 1268) (by decide +kernel), by decide +kernel⟩), List.mem_filter.mpr ⟨List.mem_of_getElem? (i := 144) (by decide +kernel), by decide +kernel⟩, by decide +kernel, trivial, by
  intro pc e h
  have h : at_X10_note pc = some e := h
  unfold at_X10_note at h
  exact dd_at_ok vb_X10_note_0 h⟩
theorem vb_X10_boy_0 : dd_bLs 119 cd_X10_boy_0 [[], [], [1286, 1288, 35], [], [], [], [488], [204], [], [], [], [], [488], [208], [], [], [], [], [488], [212], [], [], [], [], [488], [], [701, 656, 657], [], [], [], [], [], []] = true := by decide +kernel
theorem vb_X10_boy_1 : dd_bLs 119 cd_X10_boy_1 [[488], [216], [], [], [], [], [488], [], [488], [204], [], [], [784, 785, 786], [], [], [], [754, 756, 12], [], [], [], [], [], [], [], [], [1291, 1293, 36], [], [], [], [1296, 1298, 37], [], [1246, 168, 231, 36, 0]] = true := by decide +kernel
theorem vy_X10_boy : dd_okY 119 := ⟨by decide +kernel, ⟨by decide +kernel, by decide +kernel⟩, Or.inr (List.mem_filter.mpr ⟨List.mem_of_getElem? (i := 1285) (by decide +kernel), by decide +kernel⟩), List.mem_filter.mpr ⟨List.mem_of_getElem? (i := 144) (by decide +kernel), by decide +kernel⟩, by decide +kernel, trivial, by
  intro pc e h
  have h : at_X10_boy pc = some e := h
  unfold at_X10_boy at h
  (repeat' split at h) <;> first | exact dd_at_ok vb_X10_boy_0 h | exact dd_at_ok vb_X10_boy_1 h⟩
theorem vb_X10_hearsNow_0 : dd_bLs 120 cd_X10_hearsNow_0 [[], [488], [], [701, 656, 657], [], [], [], [], [501], [], [575, 576, 577], [], [501], [758, 759, 760], []] = true := by decide +kernel
theorem vy_X10_hearsNow : dd_okY 120 := ⟨by decide +kernel, ⟨by decide +kernel, by decide +kernel⟩, Or.inr (List.mem_filter.mpr ⟨List.mem_of_getElem? (i := 757) (by decide +kernel), by decide +kernel⟩), List.mem_filter.mpr ⟨List.mem_of_getElem? (i := 144) (by decide +kernel), by decide +kernel⟩, by decide +kernel, trivial, by
  intro pc e h
  have h : at_X10_hearsNow pc = some e := h
  unfold at_X10_hearsNow at h
  exact dd_at_ok vb_X10_hearsNow_0 h⟩
theorem vb_X10_shareOf_0 : dd_bLs 121 cd_X10_shareOf_0 [[], [488], [1300, 1301, 1302], [], [], [], [], [], [], [], [488], [216], [], [], [], [], [], []] = true := by decide +kernel
theorem vy_X10_shareOf : dd_okY 121 := ⟨by decide +kernel, ⟨by decide +kernel, by decide +kernel⟩, Or.inr (List.mem_filter.mpr ⟨List.mem_of_getElem? (i := 1299) (by decide +kernel), by decide +kernel⟩), List.mem_filter.mpr ⟨List.mem_of_getElem? (i := 144) (by decide +kernel), by decide +kernel⟩, by decide +kernel, trivial, by
  intro pc e h
  have h : at_X10_shareOf pc = some e := h
  unfold at_X10_shareOf at h
  exact dd_at_ok vb_X10_shareOf_0 h⟩
theorem vb_X10_count_0 : dd_bLs 122 cd_X10_count_0 [[], [], [], [488], [222], [], [], [488], [226], [], [], [488], [228], [], [], [491], [303], [], [], [488], [235], [], [], [488], [239], [], [], [488], [243], [], [], [488], [248], [], [], [488], [251], [], [], [488], [563, 564, 565], [], [], [488], [230], [], [], [488], [219], [], [], [495], [331], [], [], []] = true := by decide +kernel
theorem vy_X10_count : dd_okY 122 := ⟨by decide +kernel, ⟨by decide +kernel, by decide +kernel⟩, Or.inr (List.mem_filter.mpr ⟨List.mem_of_getElem? (i := 562) (by decide +kernel), by decide +kernel⟩), List.mem_filter.mpr ⟨List.mem_of_getElem? (i := 144) (by decide +kernel), by decide +kernel⟩, by decide +kernel, trivial, by
  intro pc e h
  have h : at_X10_count pc = some e := h
  unfold at_X10_count at h
  exact dd_at_ok vb_X10_count_0 h⟩
theorem vb_X10_sing_0 : dd_bLs 123 cd_X10_sing_0 [[], [], [], [], [1312, 1314, 38], [], [495], [], [488], [1317, 1318, 1319], [], [], [1321, 1323, 39], []] = true := by decide +kernel
theorem vy_X10_sing : dd_okY 123 := ⟨by decide +kernel, ⟨by decide +kernel, by decide +kernel⟩, Or.inr (List.mem_filter.mpr ⟨List.mem_of_getElem? (i := 1311) (by decide +kernel), by decide +kernel⟩), List.mem_filter.mpr ⟨List.mem_of_getElem? (i := 144) (by decide +kernel), by decide +kernel⟩, by decide +kernel, trivial, by
  intro pc e h
  have h : at_X10_sing pc = some e := h
  unfold at_X10_sing at h
  exact dd_at_ok vb_X10_sing_0 h⟩
theorem vb_X10_beatOn_0 : dd_bLs 124 cd_X10_beatOn_0 [[], [], [], [], [], [], [], [], [], [], [], [488], [226], [], [], [488], [], [701, 656, 657], [], [], [501], [], [1325, 1326, 1327], [], [], [], [], [], [488], [1341, 1342, 1343], [], [], [], []] = true := by decide +kernel
theorem vy_X10_beatOn : dd_okY 124 := ⟨by decide +kernel, ⟨by decide +kernel, by decide +kernel⟩, Or.inr (List.mem_filter.mpr ⟨List.mem_of_getElem? (i := 1324) (by decide +kernel), by decide +kernel⟩), List.mem_filter.mpr ⟨List.mem_of_getElem? (i := 144) (by decide +kernel), by decide +kernel⟩, by decide +kernel, trivial, by
  intro pc e h
  have h : at_X10_beatOn pc = some e := h
  unfold at_X10_beatOn at h
  exact dd_at_ok vb_X10_beatOn_0 h⟩
theorem vb_X10_fire_0 : dd_bLs 125 cd_X10_fire_0 [[], [], [1225, 1227, 32], [], [488], [], [1245, 629, 630], [], [1354, 169, 287, 38, 1], [], [495], [], [488], [1317, 1318, 1319], [], [488], [235], [], [], [488], [], [1370, 1097, 1098], [], []] = true := by decide +kernel
theorem vy_X10_fire : dd_okY 125 := ⟨by decide +kernel, ⟨by decide +kernel, by decide +kernel⟩, Or.inr (List.mem_filter.mpr ⟨List.mem_of_getElem? (i := 1353) (by decide +kernel), by decide +kernel⟩), List.mem_filter.mpr ⟨List.mem_of_getElem? (i := 144) (by decide +kernel), by decide +kernel⟩, by decide +kernel, trivial, by
  intro pc e h
  have h : at_X10_fire pc = some e := h
  unfold at_X10_fire at h
  exact dd_at_ok vb_X10_fire_0 h⟩
theorem vb_X10_plant_0 : dd_bLs 126 cd_X10_plant_0 [[], [], [1225, 1227, 32], [], [], [], [488], [], [1378, 742, 743], [], [1354, 169, 296, 39, 1], [], [495], [], [488], [1317, 1318, 1319], [], [488], [], [1245, 629, 630], [], [], [], [], [], [], [], [], [], [488], [], [191], [], [], [], [], [191], [], []] = true := by decide +kernel
theorem vy_X10_plant : dd_okY 126 := ⟨by decide +kernel, ⟨by decide +kernel, by decide +kernel⟩, Or.inr (List.mem_filter.mpr ⟨List.mem_of_getElem? (i := 1377) (by decide +kernel), by decide +kernel⟩), List.mem_filter.mpr ⟨List.mem_of_getElem? (i := 144) (by decide +kernel), by decide +kernel⟩, by decide +kernel, trivial, by
  intro pc e h
  have h : at_X10_plant pc = some e := h
  unfold at_X10_plant at h
  exact dd_at_ok vb_X10_plant_0 h⟩
theorem vb_X10_part_0 : dd_bLs 127 cd_X10_part_0 [[], [], [1286, 1288, 35], [], [], [1269, 1271, 33], [], [495], [], [488], [1317, 1318, 1319], [], [488], [208], [], [], [], [], [488], [208], [], [], [], [], []] = true := by decide +kernel
theorem vy_X10_part : dd_okY 127 := ⟨by decide +kernel, ⟨by decide +kernel, by decide +kernel⟩, Or.inr (List.mem_filter.mpr ⟨List.mem_of_getElem? (i := 1386) (by decide +kernel), by decide +kernel⟩), List.mem_filter.mpr ⟨List.mem_of_getElem? (i := 144) (by decide +kernel), by decide +kernel⟩, by decide +kernel, trivial, by
  intro pc e h
  have h : at_X10_part pc = some e := h
  unfold at_X10_part at h
  exact dd_at_ok vb_X10_part_0 h⟩
theorem vb_X10_tune_0 : dd_bLs 128 cd_X10_tune_0 [[], [], [1269, 1271, 33], [], [], [1274, 1276, 34], [], [], [], [], [1312, 1314, 38], [], [495], [], [488], [1317, 1318, 1319], [], [488], [199], [], [], [], [], [], [], [], [], [488], [199], [], [], [], [], [], [], [], [], []] = true := by decide +kernel
theorem vy_X10_tune : dd_okY 128 := ⟨by decide +kernel, ⟨by decide +kernel, by decide +kernel⟩, Or.inr (List.mem_filter.mpr ⟨List.mem_of_getElem? (i := 1393) (by decide +kernel), by decide +kernel⟩), List.mem_filter.mpr ⟨List.mem_of_getElem? (i := 144) (by decide +kernel), by decide +kernel⟩, by decide +kernel, trivial, by
  intro pc e h
  have h : at_X10_tune pc = some e := h
  unfold at_X10_tune at h
  exact dd_at_ok vb_X10_tune_0 h⟩
theorem vb_X10_call_0 : dd_bLs 129 cd_X10_call_0 [[], [], [1286, 1288, 35], [], [488], [], [701, 656, 657], [], [1354, 169, 302, 40, 1], [], [495], [], [488], [1317, 1318, 1319], [], [488], [204], [], [], [], [], [488], [], [], [488], [235], [1402, 1077, 1078], [], []] = true := by decide +kernel
theorem vy_X10_call : dd_okY 129 := ⟨by decide +kernel, ⟨by decide +kernel, by decide +kernel⟩, Or.inr (List.mem_filter.mpr ⟨List.mem_of_getElem? (i := 1400) (by decide +kernel), by decide +kernel⟩), List.mem_filter.mpr ⟨List.mem_of_getElem? (i := 144) (by decide +kernel), by decide +kernel⟩, by decide +kernel, trivial, by
  intro pc e h
  have h : at_X10_call pc = some e := h
  unfold at_X10_call at h
  exact dd_at_ok vb_X10_call_0 h⟩
theorem vb_X10_send_0 : dd_bLs 130 cd_X10_send_0 [[], [], [1286, 1288, 35], [], [], [1225, 1227, 32], [], [488], [], [1245, 629, 630], [], [], [], [488], [235], [], [1354, 169, 308, 41, 1], [], [495], [], [488], [1317, 1318, 1319], [], [488], [204], [], [], [], [], [488], [], [], [1402, 1077, 1078], [], []] = true := by decide +kernel
theorem vy_X10_send : dd_okY 130 := ⟨by decide +kernel, ⟨by decide +kernel, by decide +kernel⟩, Or.inr (List.mem_filter.mpr ⟨List.mem_of_getElem? (i := 1409) (by decide +kernel), by decide +kernel⟩), List.mem_filter.mpr ⟨List.mem_of_getElem? (i := 144) (by decide +kernel), by decide +kernel⟩, by decide +kernel, trivial, by
  intro pc e h
  have h : at_X10_send pc = some e := h
  unfold at_X10_send at h
  exact dd_at_ok vb_X10_send_0 h⟩
theorem vb_X10_loud_0 : dd_bLs 131 cd_X10_loud_0 [[], [], [], [], [1312, 1314, 38], [], [495], [], [488], [1317, 1318, 1319], [], [488], [239], [], [], [488], [], [239], [], []] = true := by decide +kernel
theorem vy_X10_loud : dd_okY 131 := ⟨by decide +kernel, ⟨by decide +kernel, by decide +kernel⟩, Or.inr (List.mem_filter.mpr ⟨List.mem_of_getElem? (i := 1417) (by decide +kernel), by decide +kernel⟩), List.mem_filter.mpr ⟨List.mem_of_getElem? (i := 144) (by decide +kernel), by decide +kernel⟩, by decide +kernel, trivial, by
  intro pc e h
  have h : at_X10_loud pc = some e := h
  unfold at_X10_loud at h
  exact dd_at_ok vb_X10_loud_0 h⟩
theorem vb_X10_path_0 : dd_bLs 132 cd_X10_path_0 [[], [], [1225, 1227, 32], [], [], [1225, 1227, 32], [], [503], [], [], [1425, 1426, 1427], []] = true := by decide +kernel
theorem vy_X10_path : dd_okY 132 := ⟨by decide +kernel, ⟨by decide +kernel, by decide +kernel⟩, Or.inr (List.mem_filter.mpr ⟨List.mem_of_getElem? (i := 1424) (by decide +kernel), by decide +kernel⟩), List.mem_filter.mpr ⟨List.mem_of_getElem? (i := 144) (by decide +kernel), by decide +kernel⟩, by decide +kernel, trivial, by
  intro pc e h
  have h : at_X10_path pc = some e := h
  unfold at_X10_path at h
  exact dd_at_ok vb_X10_path_0 h⟩
theorem vb_X10_soon_0 : dd_bLs 133 cd_X10_soon_0 [[], [], [1286, 1288, 35], [], [501], [], [575, 576, 577], [], [501], [600, 601, 602], []] = true := by decide +kernel
theorem vy_X10_soon : dd_okY 133 := ⟨by decide +kernel, ⟨by decide +kernel, by decide +kernel⟩, Or.inr (List.mem_filter.mpr ⟨List.mem_of_getElem? (i := 1435) (by decide +kernel), by decide +kernel⟩), List.mem_filter.mpr ⟨List.mem_of_getElem? (i := 144) (by decide +kernel), by decide +kernel⟩, by decide +kernel, trivial, by
  intro pc e h
  have h : at_X10_soon pc = some e := h
  unfold at_X10_soon at h
  exact dd_at_ok vb_X10_soon_0 h⟩
theorem vb_X10_by_0 : dd_bLs 134 cd_X10_by_0 [[], [], [1286, 1288, 35], [], [], [1269, 1271, 33], [], [], [], [1443, 1445, 40], []] = true := by decide +kernel
theorem vy_X10_by : dd_okY 134 := ⟨by decide +kernel, ⟨by decide +kernel, by decide +kernel⟩, Or.inr (List.mem_filter.mpr ⟨List.mem_of_getElem? (i := 1442) (by decide +kernel), by decide +kernel⟩), List.mem_filter.mpr ⟨List.mem_of_getElem? (i := 144) (by decide +kernel), by decide +kernel⟩, by decide +kernel, trivial, by
  intro pc e h
  have h : at_X10_by pc = some e := h
  unfold at_X10_by at h
  exact dd_at_ok vb_X10_by_0 h⟩
theorem vb_X10_soonBy_0 : dd_bLs 135 cd_X10_soonBy_0 [[], [501], [], [575, 576, 577], [], [501], [], [1447, 584, 585], [], [501], [600, 601, 602], []] = true := by decide +kernel
theorem vy_X10_soonBy : dd_okY 135 := ⟨by decide +kernel, ⟨by decide +kernel, by decide +kernel⟩, Or.inr (List.mem_filter.mpr ⟨List.mem_of_getElem? (i := 1446) (by decide +kernel), by decide +kernel⟩), List.mem_filter.mpr ⟨List.mem_of_getElem? (i := 144) (by decide +kernel), by decide +kernel⟩, by decide +kernel, trivial, by
  intro pc e h
  have h : at_X10_soonBy pc = some e := h
  unfold at_X10_soonBy at h
  exact dd_at_ok vb_X10_soonBy_0 h⟩
theorem vb_X10_best_0 : dd_bLs 136 cd_X10_best_0 [[], [], [1286, 1288, 35], [], [], [], [], [], [], [], [], [488], [222], [], [], [], [], [1443, 1445, 40], [], [], [], [], [], [], [], [], [], [], [], [], [], [], []] = true := by decide +kernel
theorem vy_X10_best : dd_okY 136 := ⟨by decide +kernel, ⟨by decide +kernel, by decide +kernel⟩, Or.inr (List.mem_filter.mpr ⟨List.mem_of_getElem? (i := 1454) (by decide +kernel), by decide +kernel⟩), List.mem_filter.mpr ⟨List.mem_of_getElem? (i := 144) (by decide +kernel), by decide +kernel⟩, by decide +kernel, trivial, by
  intro pc e h
  have h : at_X10_best pc = some e := h
  unfold at_X10_best at h
  exact dd_at_ok vb_X10_best_0 h⟩
theorem vb_X10_all_0 : dd_bLs 137 cd_X10_all_0 [[], [], [488], [239], [571, 573, 3], []] = true := by decide +kernel
theorem vy_X10_all : dd_okY 137 := ⟨by decide +kernel, ⟨by decide +kernel, by decide +kernel⟩, Or.inr (List.mem_filter.mpr ⟨List.mem_of_getElem? (i := 570) (by decide +kernel), by decide +kernel⟩), List.mem_filter.mpr ⟨List.mem_of_getElem? (i := 144) (by decide +kernel), by decide +kernel⟩, by decide +kernel, trivial, by
  intro pc e h
  have h : at_X10_all pc = some e := h
  unfold at_X10_all at h
  exact dd_at_ok vb_X10_all_0 h⟩
theorem vb_X10_allInWith_0 : dd_bLs 138 cd_X10_allInWith_0 [[], [], [], [], [], [], [488], [226], [], [], [501], [], [575, 576, 577], [], [501], [], [419], [], [501], [600, 601, 602], [], [], [], [], [], [], [], [], [636, 637, 157, 638], [], [], [], [], []] = true := by decide +kernel
theorem vy_X10_allInWith : dd_okY 138 := ⟨by decide +kernel, ⟨by decide +kernel, by decide +kernel⟩, Or.inr (List.mem_filter.mpr ⟨List.mem_of_getElem? (i := 574) (by decide +kernel), by decide +kernel⟩), List.mem_filter.mpr ⟨List.mem_of_getElem? (i := 144) (by decide +kernel), by decide +kernel⟩, by decide +kernel, trivial, by
  intro pc e h
  have h : at_X10_allInWith pc = some e := h
  unfold at_X10_allInWith at h
  exact dd_at_ok vb_X10_allInWith_0 h⟩
theorem vb_X10_should_0 : dd_bLs 139 cd_X10_should_0 [[], [503], [643, 644, 645], []] = true := by decide +kernel
theorem vy_X10_should : dd_okY 139 := ⟨by decide +kernel, ⟨by decide +kernel, by decide +kernel⟩, Or.inr (List.mem_filter.mpr ⟨List.mem_of_getElem? (i := 642) (by decide +kernel), by decide +kernel⟩), List.mem_filter.mpr ⟨List.mem_of_getElem? (i := 144) (by decide +kernel), by decide +kernel⟩, by decide +kernel, trivial, by
  intro pc e h
  have h : at_X10_should pc = some e := h
  unfold at_X10_should at h
  exact dd_at_ok vb_X10_should_0 h⟩
theorem vb_X10_calls_0 : dd_bLs 140 cd_X10_calls_0 [[], [], [1286, 1288, 35], [], [504], [], [1462, 1463, 1464], [], [504], [], [488], [204], [], [], [], [], [1477, 1478, 1479], []] = true := by decide +kernel
theorem vy_X10_calls : dd_okY 140 := ⟨by decide +kernel, ⟨by decide +kernel, by decide +kernel⟩, Or.inr (List.mem_filter.mpr ⟨List.mem_of_getElem? (i := 1461) (by decide +kernel), by decide +kernel⟩), List.mem_filter.mpr ⟨List.mem_of_getElem? (i := 144) (by decide +kernel), by decide +kernel⟩, by decide +kernel, trivial, by
  intro pc e h
  have h : at_X10_calls pc = some e := h
  unfold at_X10_calls at h
  exact dd_at_ok vb_X10_calls_0 h⟩
theorem vb_X10_first_0 : dd_bLs 141 cd_X10_first_0 [[], [], [1286, 1288, 35], [], [488], [], [701, 656, 657], [], [], [], [], [504], [], [1495, 1496, 1497], []] = true := by decide +kernel
theorem vy_X10_first : dd_okY 141 := ⟨by decide +kernel, ⟨by decide +kernel, by decide +kernel⟩, Or.inr (List.mem_filter.mpr ⟨List.mem_of_getElem? (i := 1494) (by decide +kernel), by decide +kernel⟩), List.mem_filter.mpr ⟨List.mem_of_getElem? (i := 144) (by decide +kernel), by decide +kernel⟩, by decide +kernel, trivial, by
  intro pc e h
  have h : at_X10_first pc = some e := h
  unfold at_X10_first at h
  exact dd_at_ok vb_X10_first_0 h⟩
theorem vb_X10_can_0 : dd_bLs 142 cd_X10_can_0 [[], [], [1286, 1288, 35], [], [], [], [], [1312, 1314, 38], [], [504], [], [1462, 1463, 1464], [], [504], [], [488], [204], [], [], [], [1513, 1514, 1515], []] = true := by decide +kernel
theorem vy_X10_can : dd_okY 142 := ⟨by decide +kernel, ⟨by decide +kernel, by decide +kernel⟩, Or.inr (List.mem_filter.mpr ⟨List.mem_of_getElem? (i := 1512) (by decide +kernel), by decide +kernel⟩), List.mem_filter.mpr ⟨List.mem_of_getElem? (i := 144) (by decide +kernel), by decide +kernel⟩, by decide +kernel, trivial, by
  intro pc e h
  have h : at_X10_can pc = some e := h
  unfold at_X10_can at h
  exact dd_at_ok vb_X10_can_0 h⟩
theorem vb_X10_lost_0 : dd_bLs 143 cd_X10_lost_0 [[], [], [1269, 1271, 33], [], [], [], [], [1312, 1314, 38], [], [], [], [], [], [], [], [], [], [], [488], [], [1245, 629, 630], [], [], [501], [], [488], [226], [], [], [], [1525, 580, 581], [], [501], [], [1526, 591, 592], [], [501], [600, 601, 602], [], [], [], [], [], [], [], [], [], [], [], [], [], [], [], [], [], [], []] = true := by decide +kernel
theorem vy_X10_lost : dd_okY 143 := ⟨by decide +kernel, ⟨by decide +kernel, by decide +kernel⟩, Or.inr (List.mem_filter.mpr ⟨List.mem_of_getElem? (i := 1524) (by decide +kernel), by decide +kernel⟩), List.mem_filter.mpr ⟨List.mem_of_getElem? (i := 144) (by decide +kernel), by decide +kernel⟩, by decide +kernel, trivial, by
  intro pc e h
  have h : at_X10_lost pc = some e := h
  unfold at_X10_lost at h
  exact dd_at_ok vb_X10_lost_0 h⟩
