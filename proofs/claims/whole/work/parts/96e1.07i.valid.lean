theorem vb_X11_tells_0 : dd_bLs 255 cd_X11_tells_0 [[], [], [], [], [], [], [1708], [], [], [], [], [1708], [], [], [], [], [], [], [], [], [], [], [1708], [], [], [1708], [], [], [], [], [1708], [], [], [1708]] = true := by decide +kernel
theorem vb_X11_tells_1 : dd_bLs 255 cd_X11_tells_1 [[], [], [], [], [1708], [], [], [], [], [1708], [], [], [], [], [1708], [], [], [], [], [1900, 1902, 68], [], [], [1708], [], [], [], [1708], [], [], [], [], [2075, 852, 157, 853], [], []] = true := by decide +kernel
theorem vy_X11_tells : dd_okY 255 := ⟨by decide +kernel, ⟨by decide +kernel, by decide +kernel⟩, Or.inr (List.mem_filter.mpr ⟨List.mem_of_getElem? (i := 2079) (by decide +kernel), by decide +kernel⟩), List.mem_filter.mpr ⟨List.mem_of_getElem? (i := 155) (by decide +kernel), by decide +kernel⟩, by decide +kernel, trivial, by
  intro pc e h
  have h : at_X11_tells pc = some e := h
  unfold at_X11_tells at h
  (repeat' split at h) <;> first | exact dd_at_ok vb_X11_tells_0 h | exact dd_at_ok vb_X11_tells_1 h⟩
theorem vb_X11_strays_0 : dd_bLs 256 cd_X11_strays_0 [[], [], [2070, 2072, 102], [], [1708], [], [], [], [], [], [], [], [], [], [], [1900, 1902, 68], [], [], [], [2070, 2072, 102], [], [2058, 2060, 99], [2062, 2064, 100], [], [1708], [], [], [1884, 1885], [], [], [], [], [1900, 1902, 68], [], [], [2075, 852, 157, 853], [], [], [], [], [2076, 2078, 103], []] = true := by decide +kernel
theorem vy_X11_strays : dd_okY 256 := ⟨by decide +kernel, ⟨by decide +kernel, by decide +kernel⟩, Or.inr (List.mem_filter.mpr ⟨List.mem_of_getElem? (i := 2069) (by decide +kernel), by decide +kernel⟩), List.mem_filter.mpr ⟨List.mem_of_getElem? (i := 155) (by decide +kernel), by decide +kernel⟩, by decide +kernel, trivial, by
  intro pc e h
  have h : at_X11_strays pc = some e := h
  unfold at_X11_strays at h
  exact dd_at_ok vb_X11_strays_0 h⟩
theorem vb_X11_beatEnds_0 : dd_bLs 257 cd_X11_beatEnds_0 [[], [1708], [], [], [], [], [], [], [], [1708], [], [], [], [], [], [], [1708], [], [], [], [], [1708], [], [], [], [1708], [], [], [], [], [2075, 852, 157, 853], [], []] = true := by decide +kernel
theorem vy_X11_beatEnds : dd_okY 257 := ⟨by decide +kernel, ⟨by decide +kernel, by decide +kernel⟩, Or.inr (List.mem_filter.mpr ⟨List.mem_of_getElem? (i := 2083) (by decide +kernel), by decide +kernel⟩), List.mem_filter.mpr ⟨List.mem_of_getElem? (i := 155) (by decide +kernel), by decide +kernel⟩, by decide +kernel, trivial, by
  intro pc e h
  have h : at_X11_beatEnds pc = some e := h
  unfold at_X11_beatEnds at h
  exact dd_at_ok vb_X11_beatEnds_0 h⟩
theorem vb_X11_oneBeat_0 : dd_bLs 258 cd_X11_oneBeat_0 [[], [], [], [], [], [], [1865, 1867, 61], [], [], [], [1896, 1898, 67], [], [], [], [], [], [], [2014, 2016, 89], [2018, 2020, 90], [], [], [], [], [], [2066, 2068, 101], [], [], [1896, 1898, 67], [], [], [], [], [], [], [2076, 2078, 103], [], [], [], [2080, 2082, 104], [], []] = true := by decide +kernel
theorem vy_X11_oneBeat : dd_okY 258 := ⟨by decide +kernel, ⟨by decide +kernel, by decide +kernel⟩, Or.inr (List.mem_filter.mpr ⟨List.mem_of_getElem? (i := 2013) (by decide +kernel), by decide +kernel⟩), List.mem_filter.mpr ⟨List.mem_of_getElem? (i := 155) (by decide +kernel), by decide +kernel⟩, by decide +kernel, trivial, by
  intro pc e h
  have h : at_X11_oneBeat pc = some e := h
  unfold at_X11_oneBeat at h
  exact dd_at_ok vb_X11_oneBeat_0 h⟩
theorem vb_X11_goesOn_0 : dd_bLs 259 cd_X11_goesOn_0 [[], [], [], [], [], [], [], [], [], [], [2010, 2012, 88], [], [], [], [], [], []] = true := by decide +kernel
theorem vy_X11_goesOn : dd_okY 259 := ⟨by decide +kernel, ⟨by decide +kernel, by decide +kernel⟩, Or.inr (List.mem_filter.mpr ⟨List.mem_of_getElem? (i := 2009) (by decide +kernel), by decide +kernel⟩), List.mem_filter.mpr ⟨List.mem_of_getElem? (i := 155) (by decide +kernel), by decide +kernel⟩, by decide +kernel, trivial, by
  intro pc e h
  have h : at_X11_goesOn pc = some e := h
  unfold at_X11_goesOn at h
  exact dd_at_ok vb_X11_goesOn_0 h⟩
theorem vb_X11_keepsAll_0 : dd_bLs 260 cd_X11_keepsAll_0 [[], [], [], [], [], [], [1711], [], [], [1708], [], [], [], [], [], []] = true := by decide +kernel
theorem vy_X11_keepsAll : dd_okY 260 := ⟨by decide +kernel, ⟨by decide +kernel, by decide +kernel⟩, Or.inr (List.mem_filter.mpr ⟨List.mem_of_getElem? (i := 2121) (by decide +kernel), by decide +kernel⟩), List.mem_filter.mpr ⟨List.mem_of_getElem? (i := 155) (by decide +kernel), by decide +kernel⟩, by decide +kernel, trivial, by
  intro pc e h
  have h : at_X11_keepsAll pc = some e := h
  unfold at_X11_keepsAll at h
  exact dd_at_ok vb_X11_keepsAll_0 h⟩
theorem vb_X11_bringsBack_0 : dd_bLs 261 cd_X11_bringsBack_0 [[], [], [], [], [], [], [1708], [], [], [1711], [], [], [], [], [], []] = true := by decide +kernel
theorem vy_X11_bringsBack : dd_okY 261 := ⟨by decide +kernel, ⟨by decide +kernel, by decide +kernel⟩, Or.inr (List.mem_filter.mpr ⟨List.mem_of_getElem? (i := 2125) (by decide +kernel), by decide +kernel⟩), List.mem_filter.mpr ⟨List.mem_of_getElem? (i := 155) (by decide +kernel), by decide +kernel⟩, by decide +kernel, trivial, by
  intro pc e h
  have h : at_X11_bringsBack pc = some e := h
  unfold at_X11_bringsBack at h
  exact dd_at_ok vb_X11_bringsBack_0 h⟩
theorem vb_X11_sing_0 : dd_bLs 262 cd_X11_sing_0 [[], [], [1707], [], [], [], [], [1999, 2000], [], [], [], [], [], [1987, 1989, 85], [], [], [], [], [2002, 2004, 86], [], [], [], [2006, 2008, 87], []] = true := by decide +kernel
theorem vy_X11_sing : dd_okY 262 := ⟨by decide +kernel, ⟨by decide +kernel, by decide +kernel⟩, Or.inr (List.mem_filter.mpr ⟨List.mem_of_getElem? (i := 1998) (by decide +kernel), by decide +kernel⟩), List.mem_filter.mpr ⟨List.mem_of_getElem? (i := 155) (by decide +kernel), by decide +kernel⟩, by decide +kernel, trivial, by
  intro pc e h
  have h : at_X11_sing pc = some e := h
  unfold at_X11_sing at h
  exact dd_at_ok vb_X11_sing_0 h⟩
theorem vb_X11_cell_0 : dd_bLs 263 cd_X11_cell_0 [[], [], [1707], [], [], [2088, 2089], [], [1987, 1989, 85], [], [], [], [], [], [1999, 2000], [], [], [], [], [], [1987, 1989, 85], [], [], [], [], [], [], [1708], [], [], [], [], [], [], [], [], [], [1708], [], [], [], [], [], [], [], [2038, 2040, 95], []] = true := by decide +kernel
theorem vy_X11_cell : dd_okY 263 := ⟨by decide +kernel, ⟨by decide +kernel, by decide +kernel⟩, Or.inr (List.mem_filter.mpr ⟨List.mem_of_getElem? (i := 2087) (by decide +kernel), by decide +kernel⟩), List.mem_filter.mpr ⟨List.mem_of_getElem? (i := 155) (by decide +kernel), by decide +kernel⟩, by decide +kernel, trivial, by
  intro pc e h
  have h : at_X11_cell pc = some e := h
  unfold at_X11_cell at h
  exact dd_at_ok vb_X11_cell_0 h⟩
theorem vb_X11_note_0 : dd_bLs 264 cd_X11_note_0 [[], [], [1707], [], [], [], [2095, 2097, 105], [], [], [2099, 2100], [], [], [], [], [], [1987, 1989, 85], [], [], [], [], [1708], [], [], [1857, 1858], [], []] = true := by decide +kernel
theorem vy_X11_note : dd_okY 264 := ⟨by decide +kernel, ⟨by decide +kernel, by decide +kernel⟩, Or.inr (List.mem_filter.mpr ⟨List.mem_of_getElem? (i := 2094) (by decide +kernel), by decide +kernel⟩), List.mem_filter.mpr ⟨List.mem_of_getElem? (i := 155) (by decide +kernel), by decide +kernel⟩, by decide +kernel, trivial, by
  intro pc e h
  have h : at_X11_note pc = some e := h
  unfold at_X11_note at h
  exact dd_at_ok vb_X11_note_0 h⟩
theorem vb_X11_aheadOf_0 : dd_bLs 265 cd_X11_aheadOf_0 [[], [2118, 2120, 109], [], [], [], [2006, 2008, 87], [], [], [], [], [1900, 1902, 68], [], [], [2122, 2124, 110], [], []] = true := by decide +kernel
theorem vy_X11_aheadOf : dd_okY 265 := ⟨by decide +kernel, ⟨by decide +kernel, by decide +kernel⟩, Or.inr (List.mem_filter.mpr ⟨List.mem_of_getElem? (i := 2117) (by decide +kernel), by decide +kernel⟩), List.mem_filter.mpr ⟨List.mem_of_getElem? (i := 155) (by decide +kernel), by decide +kernel⟩, by decide +kernel, trivial, by
  intro pc e h
  have h : at_X11_aheadOf pc = some e := h
  unfold at_X11_aheadOf at h
  exact dd_at_ok vb_X11_aheadOf_0 h⟩
theorem vb_X11_badOfAll_0 : dd_bLs 266 cd_X11_badOfAll_0 [[], [], [], [], [], [], [1865, 1867, 61], [], [], [], [], [], [1900, 1902, 68], [], [], [], [], [], []] = true := by decide +kernel
theorem vy_X11_badOfAll : dd_okY 266 := ⟨by decide +kernel, ⟨by decide +kernel, by decide +kernel⟩, Or.inr (List.mem_filter.mpr ⟨List.mem_of_getElem? (i := 2133) (by decide +kernel), by decide +kernel⟩), List.mem_filter.mpr ⟨List.mem_of_getElem? (i := 155) (by decide +kernel), by decide +kernel⟩, by decide +kernel, trivial, by
  intro pc e h
  have h : at_X11_badOfAll pc = some e := h
  unfold at_X11_badOfAll at h
  exact dd_at_ok vb_X11_badOfAll_0 h⟩
theorem vb_X11_shareOf_0 : dd_bLs 267 cd_X11_shareOf_0 [[], [2130, 2132, 112], [], [], [], [], [], [], [], [], [], [1900, 1902, 68], [], [], [], []] = true := by decide +kernel
theorem vy_X11_shareOf : dd_okY 267 := ⟨by decide +kernel, ⟨by decide +kernel, by decide +kernel⟩, Or.inr (List.mem_filter.mpr ⟨List.mem_of_getElem? (i := 2129) (by decide +kernel), by decide +kernel⟩), List.mem_filter.mpr ⟨List.mem_of_getElem? (i := 155) (by decide +kernel), by decide +kernel⟩, by decide +kernel, trivial, by
  intro pc e h
  have h : at_X11_shareOf pc = some e := h
  unfold at_X11_shareOf at h
  exact dd_at_ok vb_X11_shareOf_0 h⟩
theorem vb_X11_boy_0 : dd_bLs 268 cd_X11_boy_0 [[], [], [1707], [], [], [], [2106, 2108, 106], [], [1987, 1989, 85], [], [], [], [], [], [1999, 2000], [], [], [], [], [], [1987, 1989, 85], [], [], [], [], [], [], [], [], [], [1900, 1902, 68], [2038, 2040, 95], [], [], [], [1896, 1898, 67], [], [], [], [2110, 2112, 107], [], [], [], [], [], [], [], [], [2114, 2116, 108], [], [], [], [2126, 2128, 111], [], [], [], [], [1900, 1902, 68], []] = true := by decide +kernel
theorem vy_X11_boy : dd_okY 268 := ⟨by decide +kernel, ⟨by decide +kernel, by decide +kernel⟩, Or.inr (List.mem_filter.mpr ⟨List.mem_of_getElem? (i := 2105) (by decide +kernel), by decide +kernel⟩), List.mem_filter.mpr ⟨List.mem_of_getElem? (i := 155) (by decide +kernel), by decide +kernel⟩, by decide +kernel, trivial, by
  intro pc e h
  have h : at_X11_boy pc = some e := h
  unfold at_X11_boy at h
  exact dd_at_ok vb_X11_boy_0 h⟩
theorem vb_X11_fire_0 : dd_bLs 269 cd_X11_fire_0 [[], [], [1707], [], [], [2088, 2089], [], [1987, 1989, 85], [], [], [], [], [1878, 1880, 64], [], [1987, 1989, 85], [], [], [], [], [2002, 2004, 86], [], [1708], [], [], [], [], [], [1918, 1920, 72], [], []] = true := by decide +kernel
theorem vy_X11_fire : dd_okY 269 := ⟨by decide +kernel, ⟨by decide +kernel, by decide +kernel⟩, Or.inr (List.mem_filter.mpr ⟨List.mem_of_getElem? (i := 2137) (by decide +kernel), by decide +kernel⟩), List.mem_filter.mpr ⟨List.mem_of_getElem? (i := 155) (by decide +kernel), by decide +kernel⟩, by decide +kernel, trivial, by
  intro pc e h
  have h : at_X11_fire pc = some e := h
  unfold at_X11_fire at h
  exact dd_at_ok vb_X11_fire_0 h⟩
theorem vb_X11_plant_0 : dd_bLs 270 cd_X11_plant_0 [[], [], [1707], [], [], [2088, 2089], [], [1987, 1989, 85], [], [], [], [], [], [], [1708], [], [], [], [], [], [1892, 1894, 66], [], [], [], [], [], [1987, 1989, 85], [], [], [], [], [2002, 2004, 86], [], [], [1878, 1880, 64], [], [], [1708], [], [], [], [], [], [], [], [], [], [], [], [], [], [], [], []] = true := by decide +kernel
theorem vy_X11_plant : dd_okY 270 := ⟨by decide +kernel, ⟨by decide +kernel, by decide +kernel⟩, Or.inr (List.mem_filter.mpr ⟨List.mem_of_getElem? (i := 2141) (by decide +kernel), by decide +kernel⟩), List.mem_filter.mpr ⟨List.mem_of_getElem? (i := 155) (by decide +kernel), by decide +kernel⟩, by decide +kernel, trivial, by
  intro pc e h
  have h : at_X11_plant pc = some e := h
  unfold at_X11_plant at h
  exact dd_at_ok vb_X11_plant_0 h⟩
theorem vb_X11_isNow_0 : dd_bLs 271 cd_X11_isNow_0 [[], [2002, 2004, 86], [], [1708], [], [], [], [], [1708], [], [], [], [], []] = true := by decide +kernel
theorem vy_X11_isNow : dd_okY 271 := ⟨by decide +kernel, ⟨by decide +kernel, by decide +kernel⟩, Or.inr (List.mem_filter.mpr ⟨List.mem_of_getElem? (i := 2149) (by decide +kernel), by decide +kernel⟩), List.mem_filter.mpr ⟨List.mem_of_getElem? (i := 155) (by decide +kernel), by decide +kernel⟩, by decide +kernel, trivial, by
  intro pc e h
  have h : at_X11_isNow pc = some e := h
  unfold at_X11_isNow at h
  exact dd_at_ok vb_X11_isNow_0 h⟩
theorem vb_X11_part_0 : dd_bLs 272 cd_X11_part_0 [[], [], [1707], [], [], [], [2106, 2108, 106], [], [], [], [2095, 2097, 105], [], [], [], [], [], [1987, 1989, 85], [], [], [], [], [], [], [1884, 1885], [], [2146, 2148, 113], []] = true := by decide +kernel
theorem vy_X11_part : dd_okY 272 := ⟨by decide +kernel, ⟨by decide +kernel, by decide +kernel⟩, Or.inr (List.mem_filter.mpr ⟨List.mem_of_getElem? (i := 2145) (by decide +kernel), by decide +kernel⟩), List.mem_filter.mpr ⟨List.mem_of_getElem? (i := 155) (by decide +kernel), by decide +kernel⟩, by decide +kernel, trivial, by
  intro pc e h
  have h : at_X11_part pc = some e := h
  unfold at_X11_part at h
  exact dd_at_ok vb_X11_part_0 h⟩
theorem vb_X11_tune_0 : dd_bLs 273 cd_X11_tune_0 [[], [], [1707], [], [], [], [2095, 2097, 105], [], [], [2099, 2100], [], [], [], [], [], [1987, 1989, 85], [], [], [], [], [], [1999, 2000], [], [], [], [], [], [1987, 1989, 85], [], [], [], [], [], [], [1857, 1858], [], [2146, 2148, 113], []] = true := by decide +kernel
theorem vy_X11_tune : dd_okY 273 := ⟨by decide +kernel, ⟨by decide +kernel, by decide +kernel⟩, Or.inr (List.mem_filter.mpr ⟨List.mem_of_getElem? (i := 2153) (by decide +kernel), by decide +kernel⟩), List.mem_filter.mpr ⟨List.mem_of_getElem? (i := 155) (by decide +kernel), by decide +kernel⟩, by decide +kernel, trivial, by
  intro pc e h
  have h : at_X11_tune pc = some e := h
  unfold at_X11_tune at h
  exact dd_at_ok vb_X11_tune_0 h⟩
theorem vb_X11_call_0 : dd_bLs 274 cd_X11_call_0 [[], [], [1707], [], [], [], [2106, 2108, 106], [], [1987, 1989, 85], [], [], [], [], [1896, 1898, 67], [], [1987, 1989, 85], [], [], [], [], [2002, 2004, 86], [], [], [], [1900, 1902, 68], [], [], [], [1922, 1924, 73], [], []] = true := by decide +kernel
theorem vy_X11_call : dd_okY 274 := ⟨by decide +kernel, ⟨by decide +kernel, by decide +kernel⟩, Or.inr (List.mem_filter.mpr ⟨List.mem_of_getElem? (i := 2157) (by decide +kernel), by decide +kernel⟩), List.mem_filter.mpr ⟨List.mem_of_getElem? (i := 155) (by decide +kernel), by decide +kernel⟩, by decide +kernel, trivial, by
  intro pc e h
  have h : at_X11_call pc = some e := h
  unfold at_X11_call at h
  exact dd_at_ok vb_X11_call_0 h⟩
theorem vb_X11_send_0 : dd_bLs 275 cd_X11_send_0 [[], [], [1707], [], [], [], [2106, 2108, 106], [], [], [2088, 2089], [], [], [], [], [], [1987, 1989, 85], [], [], [], [], [1878, 1880, 64], [], [], [], [1708], [], [], [], [], [], [], [], [1987, 1989, 85], [], [], [], [], [2002, 2004, 86], [], [], [], [1900, 1902, 68], [], [], [1708], [], [], [1884, 1885], [], [], [], [1708], [], [], [1884, 1885], [], [], [], []] = true := by decide +kernel
theorem vy_X11_send : dd_okY 275 := ⟨by decide +kernel, ⟨by decide +kernel, by decide +kernel⟩, Or.inr (List.mem_filter.mpr ⟨List.mem_of_getElem? (i := 2161) (by decide +kernel), by decide +kernel⟩), List.mem_filter.mpr ⟨List.mem_of_getElem? (i := 155) (by decide +kernel), by decide +kernel⟩, by decide +kernel, trivial, by
  intro pc e h
  have h : at_X11_send pc = some e := h
  unfold at_X11_send at h
  exact dd_at_ok vb_X11_send_0 h⟩
theorem vb_X11_loud_0 : dd_bLs 276 cd_X11_loud_0 [[], [], [1707], [], [], [], [], [1999, 2000], [], [], [], [], [], [1987, 1989, 85], [], [], [], [], [], [], [2146, 2148, 113], []] = true := by decide +kernel
theorem vy_X11_loud : dd_okY 276 := ⟨by decide +kernel, ⟨by decide +kernel, by decide +kernel⟩, Or.inr (List.mem_filter.mpr ⟨List.mem_of_getElem? (i := 2165) (by decide +kernel), by decide +kernel⟩), List.mem_filter.mpr ⟨List.mem_of_getElem? (i := 155) (by decide +kernel), by decide +kernel⟩, by decide +kernel, trivial, by
  intro pc e h
  have h : at_X11_loud pc = some e := h
  unfold at_X11_loud at h
  exact dd_at_ok vb_X11_loud_0 h⟩
theorem vb_X11_looksAround_0 : dd_bLs 277 cd_X11_looksAround_0 [[], [], [], [], [], [], [1726], [], [], [], [], [], [], [], [1728], [], [], [1878, 1880, 64], [], [], [], [1726], [], [], [], [], [1727], [], [], [], [], [], [1728], [], [], [], [], [1728], [], [], [], [], [], [], []] = true := by decide +kernel
theorem vb_X11_looksAround_1 : dd_bLs 277 cd_X11_looksAround_1 [[], [1727], [], [], [], [2058, 2060, 99], [], [], [1726], [], [], [], [], [], [], [1726], [], [], [1726], [], [1727], [], [], [], [], [], [], [], [1727], [], [1728], [], [], [], [], [1728], [], [], [1728], [], [], [], [], []] = true := by decide +kernel
theorem vy_X11_looksAround : dd_okY 277 := ⟨by decide +kernel, ⟨by decide +kernel, by decide +kernel⟩, Or.inr (List.mem_filter.mpr ⟨List.mem_of_getElem? (i := 2173) (by decide +kernel), by decide +kernel⟩), List.mem_filter.mpr ⟨List.mem_of_getElem? (i := 155) (by decide +kernel), by decide +kernel⟩, by decide +kernel, trivial, by
  intro pc e h
  have h : at_X11_looksAround pc = some e := h
  unfold at_X11_looksAround at h
  (repeat' split at h) <;> first | exact dd_at_ok vb_X11_looksAround_0 h | exact dd_at_ok vb_X11_looksAround_1 h⟩
theorem vb_X11_path_0 : dd_bLs 278 cd_X11_path_0 [[], [], [1707], [], [], [2088, 2089], [], [], [2088, 2089], [], [], [], [], [], [1987, 1989, 85], [], [], [], [], [], [2170, 2172, 114], [], [1726], [], [], []] = true := by decide +kernel
theorem vy_X11_path : dd_okY 278 := ⟨by decide +kernel, ⟨by decide +kernel, by decide +kernel⟩, Or.inr (List.mem_filter.mpr ⟨List.mem_of_getElem? (i := 2169) (by decide +kernel), by decide +kernel⟩), List.mem_filter.mpr ⟨List.mem_of_getElem? (i := 155) (by decide +kernel), by decide +kernel⟩, by decide +kernel, trivial, by
  intro pc e h
  have h : at_X11_path pc = some e := h
  unfold at_X11_path at h
  exact dd_at_ok vb_X11_path_0 h⟩
theorem vb_X11_pathsTo_0 : dd_bLs 279 cd_X11_pathsTo_0 [[], [], [2170, 2172, 114], [], [], [], [], [], [], [1865, 1867, 61], [], [], [], [1896, 1898, 67], [], [], [], [1726], [], [], [], [1900, 1902, 68], [], [], [], [2178], [], [], [1726], [], [], [], [1900, 1902, 68], [], [], [], [], [], [2178], [], [2075, 852, 157, 853], []] = true := by decide +kernel
theorem vy_X11_pathsTo : dd_okY 279 := ⟨by decide +kernel, ⟨by decide +kernel, by decide +kernel⟩, Or.inr (List.mem_filter.mpr ⟨List.mem_of_getElem? (i := 2186) (by decide +kernel), by decide +kernel⟩), List.mem_filter.mpr ⟨List.mem_of_getElem? (i := 155) (by decide +kernel), by decide +kernel⟩, by decide +kernel, trivial, by
  intro pc e h
  have h : at_X11_pathsTo pc = some e := h
  unfold at_X11_pathsTo at h
  exact dd_at_ok vb_X11_pathsTo_0 h⟩
theorem vb_X11_outOnes_0 : dd_bLs 280 cd_X11_outOnes_0 [[], [], [], [], [], [], [1865, 1867, 61], [], [], [], [], [1896, 1898, 67], [], [], [], [], [], [], [], [], [], [], [], []] = true := by decide +kernel
theorem vy_X11_outOnes : dd_okY 280 := ⟨by decide +kernel, ⟨by decide +kernel, by decide +kernel⟩, Or.inr (List.mem_filter.mpr ⟨List.mem_of_getElem? (i := 2182) (by decide +kernel), by decide +kernel⟩), List.mem_filter.mpr ⟨List.mem_of_getElem? (i := 155) (by decide +kernel), by decide +kernel⟩, by decide +kernel, trivial, by
  intro pc e h
  have h : at_X11_outOnes pc = some e := h
  unfold at_X11_outOnes at h
  exact dd_at_ok vb_X11_outOnes_0 h⟩
theorem vb_X11_should_0 : dd_bLs 281 cd_X11_should_0 [[], [], [1707], [], [], [2178], [], [], [], [], [], [], [], [2179, 2181, 115], [], [], [], [1878, 1880, 64], [], [2178], [], [], [], [2183, 2185, 116], [], [], [], [], [], [], [], [], [], [], [2075, 852, 157, 853], [], [], [], [], []] = true := by decide +kernel
theorem vy_X11_should : dd_okY 281 := ⟨by decide +kernel, ⟨by decide +kernel, by decide +kernel⟩, Or.inr (List.mem_filter.mpr ⟨List.mem_of_getElem? (i := 2177) (by decide +kernel), by decide +kernel⟩), List.mem_filter.mpr ⟨List.mem_of_getElem? (i := 155) (by decide +kernel), by decide +kernel⟩, by decide +kernel, trivial, by
  intro pc e h
  have h : at_X11_should pc = some e := h
  unfold at_X11_should at h
  exact dd_at_ok vb_X11_should_0 h⟩
theorem vb_X11_clearings_0 : dd_bLs 282 cd_X11_clearings_0 [[], [], [1707], [], [], [], [], [], [], [], [], [], [2170, 2172, 114], [], [1728], [], [], [], [], [], [], [], [], [], [1728], [], [], [], [], [1727], [], [], [], [], [], [], [], [], [], [], [], [], [], [], [], [], [], [], [], [], [], []] = true := by decide +kernel
theorem vy_X11_clearings : dd_okY 282 := ⟨by decide +kernel, ⟨by decide +kernel, by decide +kernel⟩, Or.inr (List.mem_filter.mpr ⟨List.mem_of_getElem? (i := 2190) (by decide +kernel), by decide +kernel⟩), List.mem_filter.mpr ⟨List.mem_of_getElem? (i := 155) (by decide +kernel), by decide +kernel⟩, by decide +kernel, trivial, by
  intro pc e h
  have h : at_X11_clearings pc = some e := h
  unfold at_X11_clearings at h
  exact dd_at_ok vb_X11_clearings_0 h⟩
theorem vb_X11_withPath_0 : dd_bLs 283 cd_X11_withPath_0 [[], [], [1708], [], [], [2170, 2172, 114], [], [], [], [], [], [], [1865, 1867, 61], [], [], [], [], [1896, 1898, 67], [], [], [1726], [], [], [], [1900, 1902, 68], [], [], [], [], [], [], [], [], [], [], [], [], [], []] = true := by decide +kernel
theorem vy_X11_withPath : dd_okY 283 := ⟨by decide +kernel, ⟨by decide +kernel, by decide +kernel⟩, Or.inr (List.mem_filter.mpr ⟨List.mem_of_getElem? (i := 2198) (by decide +kernel), by decide +kernel⟩), List.mem_filter.mpr ⟨List.mem_of_getElem? (i := 155) (by decide +kernel), by decide +kernel⟩, by decide +kernel, trivial, by
  intro pc e h
  have h : at_X11_withPath pc = some e := h
  unfold at_X11_withPath at h
  exact dd_at_ok vb_X11_withPath_0 h⟩
theorem vb_X11_splits_0 : dd_bLs 284 cd_X11_splits_0 [[], [], [1707], [], [2195, 2197, 117], [], [], [], [], [], [], [], [], [], [], [1878, 1880, 64], [], [], [], [1708], [], [], [], [], [], [1892, 1894, 66], [], [], [], [1708], [], [], [], [], [], [], [], [2195, 2197, 117], [], [], [], [], [], [], [], [], [1708], [], [], [], [], [], [], [], [], []] = true := by decide +kernel
theorem vy_X11_splits : dd_okY 284 := ⟨by decide +kernel, ⟨by decide +kernel, by decide +kernel⟩, Or.inr (List.mem_filter.mpr ⟨List.mem_of_getElem? (i := 2194) (by decide +kernel), by decide +kernel⟩), List.mem_filter.mpr ⟨List.mem_of_getElem? (i := 155) (by decide +kernel), by decide +kernel⟩, by decide +kernel, trivial, by
  intro pc e h
  have h : at_X11_splits pc = some e := h
  unfold at_X11_splits at h
  exact dd_at_ok vb_X11_splits_0 h⟩
theorem vb_X11_noAhead_0 : dd_bLs 285 cd_X11_noAhead_0 [[], [], [], [1999, 2000], [], [], [], [], []] = true := by decide +kernel
theorem vy_X11_noAhead : dd_okY 285 := ⟨by decide +kernel, ⟨by decide +kernel, by decide +kernel⟩, Or.inr (List.mem_filter.mpr ⟨List.mem_of_getElem? (i := 2240) (by decide +kernel), by decide +kernel⟩), List.mem_filter.mpr ⟨List.mem_of_getElem? (i := 155) (by decide +kernel), by decide +kernel⟩, by decide +kernel, trivial, by
  intro pc e h
  have h : at_X11_noAhead pc = some e := h
  unfold at_X11_noAhead at h
  exact dd_at_ok vb_X11_noAhead_0 h⟩
theorem vb_X11_soonFor_0 : dd_bLs 286 cd_X11_soonFor_0 [[], [], [], [], [], [], [], [], [], [], [], [2179, 2181, 115], [], [], [], [], [], [], [], [], [], [2010, 2012, 88], [], [], [], [], [2122, 2124, 110], [], []] = true := by decide +kernel
theorem vy_X11_soonFor : dd_okY 286 := ⟨by decide +kernel, ⟨by decide +kernel, by decide +kernel⟩, Or.inr (List.mem_filter.mpr ⟨List.mem_of_getElem? (i := 2210) (by decide +kernel), by decide +kernel⟩), List.mem_filter.mpr ⟨List.mem_of_getElem? (i := 155) (by decide +kernel), by decide +kernel⟩, by decide +kernel, trivial, by
  intro pc e h
  have h : at_X11_soonFor pc = some e := h
  unfold at_X11_soonFor at h
  exact dd_at_ok vb_X11_soonFor_0 h⟩
