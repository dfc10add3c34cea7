theorem vb_X7_pieces_0 : dd_bLs 68 cd_X7_pieces_0 [[], [439], [188], [651], [], [], [], [], [], [], [], [], [], [], [], [], [], [], [], [], [], [], [], [], [668, 669], [651], [], [], [], [], [], [], [], []] = true := by decide +kernel
theorem vy_X7_pieces : dd_okY 68 := ⟨by decide +kernel, ⟨by decide +kernel, by decide +kernel⟩, Or.inr (List.mem_filter.mpr ⟨List.mem_of_getElem? (i := 727) (by decide +kernel), by decide +kernel⟩), List.mem_filter.mpr ⟨List.mem_of_getElem? (i := 152) (by decide +kernel), by decide +kernel⟩, by decide +kernel, trivial, by
  intro pc e h
  have h : at_X7_pieces pc = some e := h
  unfold at_X7_pieces at h
  exact dd_at_ok vb_X7_pieces_0 h⟩
theorem vb_X7_partingCells_0 : dd_bLs 69 cd_X7_partingCells_0 [[], [439], [188], [651], [], [], [], [736, 738, 11], [], [439], [234], [], [668, 669], [], [], [], [], [], [], [], [], [], [], [439], [], [740, 629, 630], [], [], [439], [], [741, 742, 743], [], [], [439], [234], [], [], [], [], [651], [], [], [668, 669], [], [], [], [651], [], [], [], [], [], [], [], [], [], []] = true := by decide +kernel
theorem vy_X7_partingCells : dd_okY 69 := ⟨by decide +kernel, ⟨by decide +kernel, by decide +kernel⟩, Or.inr (List.mem_filter.mpr ⟨List.mem_of_getElem? (i := 735) (by decide +kernel), by decide +kernel⟩), List.mem_filter.mpr ⟨List.mem_of_getElem? (i := 152) (by decide +kernel), by decide +kernel⟩, by decide +kernel, trivial, by
  intro pc e h
  have h : at_X7_partingCells pc = some e := h
  unfold at_X7_partingCells at h
  exact dd_at_ok vb_X7_partingCells_0 h⟩
theorem vb_X7_lostCells_0 : dd_bLs 70 cd_X7_lostCells_0 [[], [], [], [], [], [], [439], [225], [], [], [439], [], [655, 656, 657], [], [], [], [], [439], [203], [], [], [], [], [], [], [], [], []] = true := by decide +kernel
theorem vy_X7_lostCells : dd_okY 70 := ⟨by decide +kernel, ⟨by decide +kernel, by decide +kernel⟩, Or.inr (List.mem_filter.mpr ⟨List.mem_of_getElem? (i := 739) (by decide +kernel), by decide +kernel⟩), List.mem_filter.mpr ⟨List.mem_of_getElem? (i := 152) (by decide +kernel), by decide +kernel⟩, by decide +kernel, trivial, by
  intro pc e h
  have h : at_X7_lostCells pc = some e := h
  unfold at_X7_lostCells at h
  exact dd_at_ok vb_X7_lostCells_0 h⟩
theorem vb_X8_init_0 : dd_bLs 71 cd_X8_init_0 [[], [186, 179, 180], [], [], [293], [192], [], [], [293], [196], [], [], [293], [200], [], [], [293], [205], [], [], [293], [209], [], [], [293], [213], [], [], [293], [217], [], [], [231], [], [], [236], [], [], [240], [], [], [252], []] = true := by decide +kernel
theorem vy_X8_init : dd_okY 71 := ⟨by decide +kernel, ⟨by decide +kernel, by decide +kernel⟩, Or.inr (List.mem_filter.mpr ⟨List.mem_of_getElem? (i := 185) (by decide +kernel), by decide +kernel⟩), List.mem_filter.mpr ⟨List.mem_of_getElem? (i := 145) (by decide +kernel), by decide +kernel⟩, by decide +kernel, trivial, by
  intro pc e h
  have h : at_X8_init pc = some e := h
  unfold at_X8_init at h
  exact dd_at_ok vb_X8_init_0 h⟩
theorem vb_X8_copyFrom_0 : dd_bLs 72 cd_X8_copyFrom_0 [[], [], [187], [187], [], [192], [], [], [192], [], [], [192], [], [813, 589, 588, 156], [], [196], [], [], [196], [], [], [196], [], [813, 589, 588, 156], [], [200], [], [], [200], [], [], [200], [], [813, 589, 588, 156], [], [205], [], [], [205], []] = true := by decide +kernel
theorem vb_X8_copyFrom_1 : dd_bLs 72 cd_X8_copyFrom_1 [[], [205], [], [813, 589, 588, 156], [], [209], [], [], [209], [], [], [209], [], [813, 589, 588, 156], [], [213], [], [], [213], [], [], [213], [], [813, 589, 588, 156], [], [217], [], [], [217], [], [], [217], [], [813, 589, 588, 156], [], [], [218], [218], [], []] = true := by decide +kernel
theorem vb_X8_copyFrom_2 : dd_bLs 72 cd_X8_copyFrom_2 [[220], [220], [], [], [223], [223], [], [], [227], [227], [], [], [229], [229], [], [], [231], [231], [], [], [236], [236], [], [], [240], [240], [], [], [244], [244], [], [], [249], [249], [], [], [252], [252], []] = true := by decide +kernel
theorem vy_X8_copyFrom : dd_okY 72 := ⟨by decide +kernel, ⟨by decide +kernel, by decide +kernel⟩, Or.inr (List.mem_filter.mpr ⟨List.mem_of_getElem? (i := 812) (by decide +kernel), by decide +kernel⟩), List.mem_filter.mpr ⟨List.mem_of_getElem? (i := 145) (by decide +kernel), by decide +kernel⟩, by decide +kernel, trivial, by
  intro pc e h
  have h : at_X8_copyFrom pc = some e := h
  unfold at_X8_copyFrom at h
  (repeat' split at h) <;> first | exact dd_at_ok vb_X8_copyFrom_0 h | exact dd_at_ok vb_X8_copyFrom_1 h | exact dd_at_ok vb_X8_copyFrom_2 h⟩
theorem vb_X8_apart_0 : dd_bLs 73 cd_X8_apart_0 [[], [], [], [], [], [], [], [597, 598, 157, 599], [], [], [], [], [], [], [], [597, 598, 157, 599], [], []] = true := by decide +kernel
theorem vy_X8_apart : dd_okY 73 := ⟨by decide +kernel, ⟨by decide +kernel, by decide +kernel⟩, Or.inr (List.mem_filter.mpr ⟨List.mem_of_getElem? (i := 596) (by decide +kernel), by decide +kernel⟩), List.mem_filter.mpr ⟨List.mem_of_getElem? (i := 145) (by decide +kernel), by decide +kernel⟩, by decide +kernel, trivial, by
  intro pc e h
  have h : at_X8_apart pc = some e := h
  unfold at_X8_apart at h
  exact dd_at_ok vb_X8_apart_0 h⟩
theorem vb_X8_nearOf_0 : dd_bLs 74 cd_X8_nearOf_0 [[], [], [231], [788, 595], []] = true := by decide +kernel
theorem vy_X8_nearOf : dd_okY 74 := ⟨by decide +kernel, ⟨by decide +kernel, by decide +kernel⟩, Or.inr (List.mem_filter.mpr ⟨List.mem_of_getElem? (i := 787) (by decide +kernel), by decide +kernel⟩), List.mem_filter.mpr ⟨List.mem_of_getElem? (i := 145) (by decide +kernel), by decide +kernel⟩, by decide +kernel, trivial, by
  intro pc e h
  have h : at_X8_nearOf pc = some e := h
  unfold at_X8_nearOf at h
  exact dd_at_ok vb_X8_nearOf_0 h⟩
theorem vb_X8_isOpen_0 : dd_bLs 75 cd_X8_isOpen_0 [[], [], [], [], [], [], [187], [], [], [], [], [], [], [], [], [], [], []] = true := by decide +kernel
theorem vy_X8_isOpen : dd_okY 75 := ⟨by decide +kernel, ⟨by decide +kernel, by decide +kernel⟩, Or.inr (List.mem_filter.mpr ⟨List.mem_of_getElem? (i := 631) (by decide +kernel), by decide +kernel⟩), List.mem_filter.mpr ⟨List.mem_of_getElem? (i := 145) (by decide +kernel), by decide +kernel⟩, by decide +kernel, trivial, by
  intro pc e h
  have h : at_X8_isOpen pc = some e := h
  unfold at_X8_isOpen at h
  exact dd_at_ok vb_X8_isOpen_0 h⟩
theorem vb_X8_isIn_0 : dd_bLs 76 cd_X8_isIn_0 [[], [229], [], [], [], [], [], [], [], [], []] = true := by decide +kernel
theorem vy_X8_isIn : dd_okY 76 := ⟨by decide +kernel, ⟨by decide +kernel, by decide +kernel⟩, Or.inr (List.mem_filter.mpr ⟨List.mem_of_getElem? (i := 658) (by decide +kernel), by decide +kernel⟩), List.mem_filter.mpr ⟨List.mem_of_getElem? (i := 145) (by decide +kernel), by decide +kernel⟩, by decide +kernel, trivial, by
  intro pc e h
  have h : at_X8_isIn pc = some e := h
  unfold at_X8_isIn at h
  exact dd_at_ok vb_X8_isIn_0 h⟩
theorem vb_X8_lostBoys_0 : dd_bLs 77 cd_X8_lostBoys_0 [[], [], [223], [], [], [], [], [229], [], [], [], []] = true := by decide +kernel
theorem vy_X8_lostBoys : dd_okY 77 := ⟨by decide +kernel, ⟨by decide +kernel, by decide +kernel⟩, Or.inr (List.mem_filter.mpr ⟨List.mem_of_getElem? (i := 650) (by decide +kernel), by decide +kernel⟩), List.mem_filter.mpr ⟨List.mem_of_getElem? (i := 145) (by decide +kernel), by decide +kernel⟩, by decide +kernel, trivial, by
  intro pc e h
  have h : at_X8_lostBoys pc = some e := h
  unfold at_X8_lostBoys at h
  exact dd_at_ok vb_X8_lostBoys_0 h⟩
theorem vb_X8_isLostAt_0 : dd_bLs 78 cd_X8_isLostAt_0 [[], [], [], [], [223], [], [], [], [749, 656, 657], [], [], [200], [], [], [], [], [], [], [], [], [], []] = true := by decide +kernel
theorem vy_X8_isLostAt : dd_okY 78 := ⟨by decide +kernel, ⟨by decide +kernel, by decide +kernel⟩, Or.inr (List.mem_filter.mpr ⟨List.mem_of_getElem? (i := 748) (by decide +kernel), by decide +kernel⟩), List.mem_filter.mpr ⟨List.mem_of_getElem? (i := 145) (by decide +kernel), by decide +kernel⟩, by decide +kernel, trivial, by
  intro pc e h
  have h : at_X8_isLostAt pc = some e := h
  unfold at_X8_isLostAt at h
  exact dd_at_ok vb_X8_isLostAt_0 h⟩
theorem vb_X8_canPlant_0 : dd_bLs 79 cd_X8_canPlant_0 [[], [], [231], [], [], [], [745, 746, 747], [], [], [], [], []] = true := by decide +kernel
theorem vy_X8_canPlant : dd_okY 79 := ⟨by decide +kernel, ⟨by decide +kernel, by decide +kernel⟩, Or.inr (List.mem_filter.mpr ⟨List.mem_of_getElem? (i := 744) (by decide +kernel), by decide +kernel⟩), List.mem_filter.mpr ⟨List.mem_of_getElem? (i := 145) (by decide +kernel), by decide +kernel⟩, by decide +kernel, trivial, by
  intro pc e h
  have h : at_X8_canPlant pc = some e := h
  unfold at_X8_canPlant at h
  exact dd_at_ok vb_X8_canPlant_0 h⟩
theorem vb_X8_stepTo_0 : dd_bLs 80 cd_X8_stepTo_0 [[], [], [], [], [], [], [], [], [], [], [], [], [], [], [], [], [], [], [], [], [], [], [], [], [], [], [], [], [], [], [], [], [], [], [], [], [], [], [], [], [], [], [], [], [], [], [], [], [], [], [], [], [], [628, 629, 630], [], [], [], [], []] = true := by decide +kernel
theorem vy_X8_stepTo : dd_okY 80 := ⟨by decide +kernel, ⟨by decide +kernel, by decide +kernel⟩, Or.inr (List.mem_filter.mpr ⟨List.mem_of_getElem? (i := 635) (by decide +kernel), by decide +kernel⟩), List.mem_filter.mpr ⟨List.mem_of_getElem? (i := 145) (by decide +kernel), by decide +kernel⟩, by decide +kernel, trivial, by
  intro pc e h
  have h : at_X8_stepTo pc = some e := h
  unfold at_X8_stepTo at h
  exact dd_at_ok vb_X8_stepTo_0 h⟩
theorem vb_X8_stepNearer_0 : dd_bLs 81 cd_X8_stepNearer_0 [[], [231], [], [], [], [], [], [], [], [], [231], [], [], [], [], [], [], [], [], [], [], [], [], [], [], [], [], [], [], [], [], [], [], [], [], [], [], [], [], [], []] = true := by decide +kernel
theorem vb_X8_stepNearer_1 : dd_bLs 81 cd_X8_stepNearer_1 [[], [], [], [], [], [], [597, 598, 157, 599], [], [597, 598, 157, 599], [], [], [], [], [], [], [], [], [], [], [], [], [], [], [], [], [], [], [], [628, 629, 630], [], [], [], [], [], [628, 629, 630], [], [], [], [], []] = true := by decide +kernel
theorem vy_X8_stepNearer : dd_okY 81 := ⟨by decide +kernel, ⟨by decide +kernel, by decide +kernel⟩, Or.inr (List.mem_filter.mpr ⟨List.mem_of_getElem? (i := 627) (by decide +kernel), by decide +kernel⟩), List.mem_filter.mpr ⟨List.mem_of_getElem? (i := 145) (by decide +kernel), by decide +kernel⟩, by decide +kernel, trivial, by
  intro pc e h
  have h : at_X8_stepNearer pc = some e := h
  unfold at_X8_stepNearer at h
  (repeat' split at h) <;> first | exact dd_at_ok vb_X8_stepNearer_0 h | exact dd_at_ok vb_X8_stepNearer_1 h⟩
theorem vb_X8_putBoy_0 : dd_bLs 82 cd_X8_putBoy_0 [[], [200], [], [], [], [], [], [231], [], [], [], [229], [], [], [], [], [229], [], [], [], [229], [], [], [], [], [], [], [229], []] = true := by decide +kernel
theorem vy_X8_putBoy : dd_okY 82 := ⟨by decide +kernel, ⟨by decide +kernel, by decide +kernel⟩, Or.inr (List.mem_filter.mpr ⟨List.mem_of_getElem? (i := 1079) (by decide +kernel), by decide +kernel⟩), List.mem_filter.mpr ⟨List.mem_of_getElem? (i := 145) (by decide +kernel), by decide +kernel⟩, by decide +kernel, trivial, by
  intro pc e h
  have h : at_X8_putBoy pc = some e := h
  unfold at_X8_putBoy at h
  exact dd_at_ok vb_X8_putBoy_0 h⟩
theorem vb_X8_putFire_0 : dd_bLs 83 cd_X8_putFire_0 [[], [], [231], [], [], [], [], [223], [], [], [], [], [], [749, 656, 657], [], [], [], [], [200], [], [], [1100, 1077, 1078], [], [], []] = true := by decide +kernel
theorem vy_X8_putFire : dd_okY 83 := ⟨by decide +kernel, ⟨by decide +kernel, by decide +kernel⟩, Or.inr (List.mem_filter.mpr ⟨List.mem_of_getElem? (i := 1099) (by decide +kernel), by decide +kernel⟩), List.mem_filter.mpr ⟨List.mem_of_getElem? (i := 145) (by decide +kernel), by decide +kernel⟩, by decide +kernel, trivial, by
  intro pc e h
  have h : at_X8_putFire pc = some e := h
  unfold at_X8_putFire at h
  exact dd_at_ok vb_X8_putFire_0 h⟩
theorem vb_X8_takeDraw_0 : dd_bLs 84 cd_X8_takeDraw_0 [[], [1334], [], [252], [], [], [], [252], [], [252], [], [], [], [], []] = true := by decide +kernel
theorem vy_X8_takeDraw : dd_okY 84 := ⟨by decide +kernel, ⟨by decide +kernel, by decide +kernel⟩, Or.inr (List.mem_filter.mpr ⟨List.mem_of_getElem? (i := 1333) (by decide +kernel), by decide +kernel⟩), List.mem_filter.mpr ⟨List.mem_of_getElem? (i := 145) (by decide +kernel), by decide +kernel⟩, by decide +kernel, trivial, by
  intro pc e h
  have h : at_X8_takeDraw pc = some e := h
  unfold at_X8_takeDraw at h
  exact dd_at_ok vb_X8_takeDraw_0 h⟩
theorem vb_X8_endBeat_0 : dd_bLs 85 cd_X8_endBeat_0 [[], [], [244], [], [], [], [], [244], [], [244], [], [], [], [249], [], [], [], [1345, 852, 157, 853], [249], []] = true := by decide +kernel
theorem vy_X8_endBeat : dd_okY 85 := ⟨by decide +kernel, ⟨by decide +kernel, by decide +kernel⟩, Or.inr (List.mem_filter.mpr ⟨List.mem_of_getElem? (i := 1344) (by decide +kernel), by decide +kernel⟩), List.mem_filter.mpr ⟨List.mem_of_getElem? (i := 145) (by decide +kernel), by decide +kernel⟩, by decide +kernel, trivial, by
  intro pc e h
  have h : at_X8_endBeat pc = some e := h
  unfold at_X8_endBeat at h
  exact dd_at_ok vb_X8_endBeat_0 h⟩
theorem vb_X8_writeRow_0 : dd_bLs 86 cd_X8_writeRow_0 [[], [218], [], [], [], [217], [], [], [217], [], [], [813, 589, 588, 156], [], [], [218], [], [], [218], [], [217], [], [218], [], [249], [], [], [], [244], [], [], [], [], [], [], [], [], [], [], [], [], [200], [], [], [], [], [], [], [218], [], [], [218], []] = true := by decide +kernel
theorem vy_X8_writeRow : dd_okY 86 := ⟨by decide +kernel, ⟨by decide +kernel, by decide +kernel⟩, Or.inr (List.mem_filter.mpr ⟨List.mem_of_getElem? (i := 1339) (by decide +kernel), by decide +kernel⟩), List.mem_filter.mpr ⟨List.mem_of_getElem? (i := 145) (by decide +kernel), by decide +kernel⟩, by decide +kernel, trivial, by
  intro pc e h
  have h : at_X8_writeRow pc = some e := h
  unfold at_X8_writeRow at h
  exact dd_at_ok vb_X8_writeRow_0 h⟩
theorem vb_X8_rowOf_0 : dd_bLs 87 cd_X8_rowOf_0 [[], [], [], [], [218], [], [], [], [], [217], [], [218], [], [], [], [], [], [], [], [], [], [], [], [], [], [], [], [], [], [], [], [], [], [], [], [], [], [], [], [], [], [], [], [], [], []] = true := by decide +kernel
theorem vy_X8_rowOf : dd_okY 87 := ⟨by decide +kernel, ⟨by decide +kernel, by decide +kernel⟩, Or.inr (List.mem_filter.mpr ⟨List.mem_of_getElem? (i := 1688) (by decide +kernel), by decide +kernel⟩), List.mem_filter.mpr ⟨List.mem_of_getElem? (i := 145) (by decide +kernel), by decide +kernel⟩, by decide +kernel, trivial, by
  intro pc e h
  have h : at_X8_rowOf pc = some e := h
  unfold at_X8_rowOf at h
  exact dd_at_ok vb_X8_rowOf_0 h⟩
theorem vb_X8_badOfAll_0 : dd_bLs 88 cd_X8_badOfAll_0 [[], [], [], [], [], [], [223], [], [], [], [213], [], [], [], [], [], [], [], []] = true := by decide +kernel
theorem vy_X8_badOfAll : dd_okY 88 := ⟨by decide +kernel, ⟨by decide +kernel, by decide +kernel⟩, Or.inr (List.mem_filter.mpr ⟨List.mem_of_getElem? (i := 1303) (by decide +kernel), by decide +kernel⟩), List.mem_filter.mpr ⟨List.mem_of_getElem? (i := 145) (by decide +kernel), by decide +kernel⟩, by decide +kernel, trivial, by
  intro pc e h
  have h : at_X8_badOfAll pc = some e := h
  unfold at_X8_badOfAll at h
  exact dd_at_ok vb_X8_badOfAll_0 h⟩
theorem vb_X8_fernsOfAll_0 : dd_bLs 89 cd_X8_fernsOfAll_0 [[], [], [], [192], [], [], [], [], [], [], [], [], [], [], [], [], [], [], [], [], [], [], [], [], []] = true := by decide +kernel
theorem vy_X8_fernsOfAll : dd_okY 89 := ⟨by decide +kernel, ⟨by decide +kernel, by decide +kernel⟩, Or.inr (List.mem_filter.mpr ⟨List.mem_of_getElem? (i := 566) (by decide +kernel), by decide +kernel⟩), List.mem_filter.mpr ⟨List.mem_of_getElem? (i := 145) (by decide +kernel), by decide +kernel⟩, by decide +kernel, trivial, by
  intro pc e h
  have h : at_X8_fernsOfAll pc = some e := h
  unfold at_X8_fernsOfAll at h
  exact dd_at_ok vb_X8_fernsOfAll_0 h⟩
theorem vb_X8_silencesOf_0 : dd_bLs 90 cd_X8_silencesOf_0 [[], [], [], [], [], [], [], [], [196], [], [], [], [], [], [], [], [], [], [], [], []] = true := by decide +kernel
theorem vy_X8_silencesOf : dd_okY 90 := ⟨by decide +kernel, ⟨by decide +kernel, by decide +kernel⟩, Or.inr (List.mem_filter.mpr ⟨List.mem_of_getElem? (i := 696) (by decide +kernel), by decide +kernel⟩), List.mem_filter.mpr ⟨List.mem_of_getElem? (i := 145) (by decide +kernel), by decide +kernel⟩, by decide +kernel, trivial, by
  intro pc e h
  have h : at_X8_silencesOf pc = some e := h
  unfold at_X8_silencesOf at h
  exact dd_at_ok vb_X8_silencesOf_0 h⟩
theorem vb_X8_isShifted_0 : dd_bLs 91 cd_X8_isShifted_0 [[], [], [], [], [], [], [196], [], [], [], [], [], [], [], [196], [], [], [], [], [], [], [], [], [], [], [], [], [], [], [], [], []] = true := by decide +kernel
theorem vy_X8_isShifted : dd_okY 91 := ⟨by decide +kernel, ⟨by decide +kernel, by decide +kernel⟩, Or.inr (List.mem_filter.mpr ⟨List.mem_of_getElem? (i := 1607) (by decide +kernel), by decide +kernel⟩), List.mem_filter.mpr ⟨List.mem_of_getElem? (i := 145) (by decide +kernel), by decide +kernel⟩, by decide +kernel, trivial, by
  intro pc e h
  have h : at_X8_isShifted pc = some e := h
  unfold at_X8_isShifted at h
  exact dd_at_ok vb_X8_isShifted_0 h⟩
theorem vb_X8_tellsApart_0 : dd_bLs 92 cd_X8_tellsApart_0 [[], [], [], [], [220], [], [], [], [], [], [], [], [220], [], [], [], [], [], [685, 687, 8], [], [], [], [], [], [], [], [], []] = true := by decide +kernel
theorem vy_X8_tellsApart : dd_okY 92 := ⟨by decide +kernel, ⟨by decide +kernel, by decide +kernel⟩, Or.inr (List.mem_filter.mpr ⟨List.mem_of_getElem? (i := 684) (by decide +kernel), by decide +kernel⟩), List.mem_filter.mpr ⟨List.mem_of_getElem? (i := 145) (by decide +kernel), by decide +kernel⟩, by decide +kernel, trivial, by
  intro pc e h
  have h : at_X8_tellsApart pc = some e := h
  unfold at_X8_tellsApart at h
  exact dd_at_ok vb_X8_tellsApart_0 h⟩
theorem vb_X8_areAlike_0 : dd_bLs 93 cd_X8_areAlike_0 [[], [], [], [], [], [], [], [], [], [], [], [], [196], [], [], [], [], [], [], [], [196], [], [], [], [], [], [], [], [], [], [], [], [], []] = true := by decide +kernel
theorem vy_X8_areAlike : dd_okY 93 := ⟨by decide +kernel, ⟨by decide +kernel, by decide +kernel⟩, Or.inr (List.mem_filter.mpr ⟨List.mem_of_getElem? (i := 688) (by decide +kernel), by decide +kernel⟩), List.mem_filter.mpr ⟨List.mem_of_getElem? (i := 145) (by decide +kernel), by decide +kernel⟩, by decide +kernel, trivial, by
  intro pc e h
  have h : at_X8_areAlike pc = some e := h
  unfold at_X8_areAlike at h
  exact dd_at_ok vb_X8_areAlike_0 h⟩
theorem vb_X9_init_0 : dd_bLs 94 cd_X9_init_0 [[], [], [344, 345], [], [], [348], []] = true := by decide +kernel
theorem vy_X9_init : dd_okY 94 := ⟨by decide +kernel, ⟨by decide +kernel, by decide +kernel⟩, Or.inr (List.mem_filter.mpr ⟨List.mem_of_getElem? (i := 343) (by decide +kernel), by decide +kernel⟩), List.mem_filter.mpr ⟨List.mem_of_getElem? (i := 149) (by decide +kernel), by decide +kernel⟩, by decide +kernel, trivial, by
  intro pc e h
  have h : at_X9_init pc = some e := h
  unfold at_X9_init at h
  exact dd_at_ok vb_X9_init_0 h⟩
theorem vb_X9_readLine_0 : dd_bLs 95 cd_X9_readLine_0 [[], [1030], [1031, 1032, 0, 1033, 0, 875], [], [], [1034, 1036, 24], [], [], [1050], [1031, 1032, 0, 1033, 0, 875], [], [], [1051, 1053, 25], [], [], [1080], [1031, 1032, 0, 1033, 0, 875], [], [], [1081, 1083, 27], [], [], [1086], [1031, 1032, 0, 1033, 0, 875], [], [], [1087, 1089, 28], [], [], [1091], [1031, 1032, 0, 1033, 0, 875], [], [], [1092, 1094, 29], [], [], [1101, 1103, 30], []] = true := by decide +kernel
theorem vy_X9_readLine : dd_okY 95 := ⟨by decide +kernel, ⟨by decide +kernel, by decide +kernel⟩, Or.inr (List.mem_filter.mpr ⟨List.mem_of_getElem? (i := 1029) (by decide +kernel), by decide +kernel⟩), List.mem_filter.mpr ⟨List.mem_of_getElem? (i := 149) (by decide +kernel), by decide +kernel⟩, by decide +kernel, trivial, by
  intro pc e h
  have h : at_X9_readLine pc = some e := h
  unfold at_X9_readLine at h
  exact dd_at_ok vb_X9_readLine_0 h⟩
theorem vb_X9_readPart_0 : dd_bLs 96 cd_X9_readPart_0 [[], [348], [221], [], [], [], [1038, 1039, 0, 1040, 0, 944], [], [], [1041, 1042, 0, 1043, 0, 855], [], [], [348], [197], [], [348], [221], [], [], [], [], [1044, 1045, 0, 1047, 0, 1048], [], [], [1038, 1039, 0, 1040, 0, 944], [], [], [1041, 1042, 0, 1043, 0, 855], [], [348], [], [221], [], [], [221], [], []] = true := by decide +kernel
theorem vy_X9_readPart : dd_okY 96 := ⟨by decide +kernel, ⟨by decide +kernel, by decide +kernel⟩, Or.inr (List.mem_filter.mpr ⟨List.mem_of_getElem? (i := 1037) (by decide +kernel), by decide +kernel⟩), List.mem_filter.mpr ⟨List.mem_of_getElem? (i := 149) (by decide +kernel), by decide +kernel⟩, by decide +kernel, trivial, by
  intro pc e h
  have h : at_X9_readPart pc = some e := h
  unfold at_X9_readPart at h
  exact dd_at_ok vb_X9_readPart_0 h⟩
theorem vb_X9_readBoy_0 : dd_bLs 97 cd_X9_readBoy_0 [[], [348], [224], [], [], [], [1038, 1039, 0, 1040, 0, 944], [], [], [1041, 1042, 0, 1043, 0, 855], [], [1055], [1056, 1057, 0, 1059, 0, 1060], [], [], [1063, 1065, 26], [], [], [], [], [], [], [], [1074], [1056, 1057, 0, 1059, 0, 1060], [], [], [], [348], [221], [], [], [1071, 1072, 0, 1073, 0, 935], [], [], [], [], [], [], [], [1075], [1056, 1057, 0, 1059, 0, 1060], [], [], []] = true := by decide +kernel
theorem vb_X9_readBoy_1 : dd_bLs 97 cd_X9_readBoy_1 [[1071, 1072, 0, 1073, 0, 935], [], [], [], [], [], [], [], [], [], [348], [224], [], [], [348], [], [224], [], [], [224], [], [348], [207], [], [], [], [], [348], [211], [], [], [], [], [348], [215], [], [], [], [], [348], [], [], [1076, 1077, 1078], [], []] = true := by decide +kernel
theorem vy_X9_readBoy : dd_okY 97 := ⟨by decide +kernel, ⟨by decide +kernel, by decide +kernel⟩, Or.inr (List.mem_filter.mpr ⟨List.mem_of_getElem? (i := 1054) (by decide +kernel), by decide +kernel⟩), List.mem_filter.mpr ⟨List.mem_of_getElem? (i := 149) (by decide +kernel), by decide +kernel⟩, by decide +kernel, trivial, by
  intro pc e h
  have h : at_X9_readBoy pc = some e := h
  unfold at_X9_readBoy at h
  (repeat' split at h) <;> first | exact dd_at_ok vb_X9_readBoy_0 h | exact dd_at_ok vb_X9_readBoy_1 h⟩
theorem vb_X9_takeOpenCell_0 : dd_bLs 98 cd_X9_takeOpenCell_0 [[], [348], [], [], [1067, 1068, 0, 1069, 0, 938], [1070, 629, 630], [], [], [1038, 1039, 0, 1040, 0, 944], [], [], [], [], [], [1071, 1072, 0, 1073, 0, 935], []] = true := by decide +kernel
theorem vy_X9_takeOpenCell : dd_okY 98 := ⟨by decide +kernel, ⟨by decide +kernel, by decide +kernel⟩, Or.inr (List.mem_filter.mpr ⟨List.mem_of_getElem? (i := 1066) (by decide +kernel), by decide +kernel⟩), List.mem_filter.mpr ⟨List.mem_of_getElem? (i := 149) (by decide +kernel), by decide +kernel⟩, by decide +kernel, trivial, by
  intro pc e h
  have h : at_X9_takeOpenCell pc = some e := h
  unfold at_X9_takeOpenCell at h
  exact dd_at_ok vb_X9_takeOpenCell_0 h⟩
theorem vb_X9_readTrees_0 : dd_bLs 99 cd_X9_readTrees_0 [[], [1041, 1042, 0, 1043, 0, 855], [], [], [1067, 1068, 0, 1069, 0, 938], [], [], [], [], [], [348], [], [1085, 742, 743], [], [], [1038, 1039, 0, 1040, 0, 944], [], [], [348], [], [190], [], [], [], [], [190], [], [1041, 1042, 0, 1043, 0, 855], [], []] = true := by decide +kernel
theorem vy_X9_readTrees : dd_okY 99 := ⟨by decide +kernel, ⟨by decide +kernel, by decide +kernel⟩, Or.inr (List.mem_filter.mpr ⟨List.mem_of_getElem? (i := 1084) (by decide +kernel), by decide +kernel⟩), List.mem_filter.mpr ⟨List.mem_of_getElem? (i := 149) (by decide +kernel), by decide +kernel⟩, by decide +kernel, trivial, by
  intro pc e h
  have h : at_X9_readTrees pc = some e := h
  unfold at_X9_readTrees at h
  exact dd_at_ok vb_X9_readTrees_0 h⟩
theorem vb_X9_readFerns_0 : dd_bLs 100 cd_X9_readFerns_0 [[], [1041, 1042, 0, 1043, 0, 855], [], [], [1071, 1072, 0, 1073, 0, 935], [], [], [], [], [], [], [], [], [1071, 1072, 0, 1073, 0, 935], [], [], [], [], [], [], [], [348], [193], [], [], [], [], []] = true := by decide +kernel
theorem vy_X9_readFerns : dd_okY 100 := ⟨by decide +kernel, ⟨by decide +kernel, by decide +kernel⟩, Or.inr (List.mem_filter.mpr ⟨List.mem_of_getElem? (i := 1090) (by decide +kernel), by decide +kernel⟩), List.mem_filter.mpr ⟨List.mem_of_getElem? (i := 149) (by decide +kernel), by decide +kernel⟩, by decide +kernel, trivial, by
  intro pc e h
  have h : at_X9_readFerns pc = some e := h
  unfold at_X9_readFerns at h
  exact dd_at_ok vb_X9_readFerns_0 h⟩
