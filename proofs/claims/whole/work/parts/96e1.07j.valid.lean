theorem vb_X11_orNone_0 : dd_bLs 287 cd_X11_orNone_0 [[], [], [], [], [], [], []] = true := by decide +kernel
theorem vy_X11_orNone : dd_okY 287 := ⟨by decide +kernel, ⟨by decide +kernel, by decide +kernel⟩, Or.inr (List.mem_filter.mpr ⟨List.mem_of_getElem? (i := 2213) (by decide +kernel), by decide +kernel⟩), List.mem_filter.mpr ⟨List.mem_of_getElem? (i := 155) (by decide +kernel), by decide +kernel⟩, by decide +kernel, trivial, by
  intro pc e h
  have h : at_X11_orNone pc = some e := h
  unfold at_X11_orNone at h
  exact dd_at_ok vb_X11_orNone_0 h⟩
theorem vb_X11_soonOf_0 : dd_bLs 288 cd_X11_soonOf_0 [[], [2118, 2120, 109], [], [], [], [], [2207, 2209, 119], []] = true := by decide +kernel
theorem vy_X11_soonOf : dd_okY 288 := ⟨by decide +kernel, ⟨by decide +kernel, by decide +kernel⟩, Or.inr (List.mem_filter.mpr ⟨List.mem_of_getElem? (i := 2206) (by decide +kernel), by decide +kernel⟩), List.mem_filter.mpr ⟨List.mem_of_getElem? (i := 155) (by decide +kernel), by decide +kernel⟩, by decide +kernel, trivial, by
  intro pc e h
  have h : at_X11_soonOf pc = some e := h
  unfold at_X11_soonOf at h
  exact dd_at_ok vb_X11_soonOf_0 h⟩
theorem vb_X11_soonBy_0 : dd_bLs 289 cd_X11_soonBy_0 [[], [2118, 2120, 109], [], [1708], [], [], [1884, 1885], [], [], [], [], [], [], [2207, 2209, 119], []] = true := by decide +kernel
theorem vy_X11_soonBy : dd_okY 289 := ⟨by decide +kernel, ⟨by decide +kernel, by decide +kernel⟩, Or.inr (List.mem_filter.mpr ⟨List.mem_of_getElem? (i := 2221) (by decide +kernel), by decide +kernel⟩), List.mem_filter.mpr ⟨List.mem_of_getElem? (i := 155) (by decide +kernel), by decide +kernel⟩, by decide +kernel, trivial, by
  intro pc e h
  have h : at_X11_soonBy pc = some e := h
  unfold at_X11_soonBy at h
  exact dd_at_ok vb_X11_soonBy_0 h⟩
theorem vb_X11_soon_0 : dd_bLs 290 cd_X11_soon_0 [[], [], [1707], [], [], [], [2106, 2108, 106], [], [1987, 1989, 85], [], [], [], [], [], [2203, 2205, 118], [2211, 2212], []] = true := by decide +kernel
theorem vy_X11_soon : dd_okY 290 := ⟨by decide +kernel, ⟨by decide +kernel, by decide +kernel⟩, Or.inr (List.mem_filter.mpr ⟨List.mem_of_getElem? (i := 2202) (by decide +kernel), by decide +kernel⟩), List.mem_filter.mpr ⟨List.mem_of_getElem? (i := 155) (by decide +kernel), by decide +kernel⟩, by decide +kernel, trivial, by
  intro pc e h
  have h : at_X11_soon pc = some e := h
  unfold at_X11_soon at h
  exact dd_at_ok vb_X11_soon_0 h⟩
theorem vb_X11_by_0 : dd_bLs 291 cd_X11_by_0 [[], [], [1707], [], [], [], [2106, 2108, 106], [], [], [], [2095, 2097, 105], [], [], [], [], [], [1987, 1989, 85], [], [], [], [], [], [], [2218, 2220, 120], [2211, 2212], []] = true := by decide +kernel
theorem vy_X11_by : dd_okY 291 := ⟨by decide +kernel, ⟨by decide +kernel, by decide +kernel⟩, Or.inr (List.mem_filter.mpr ⟨List.mem_of_getElem? (i := 2217) (by decide +kernel), by decide +kernel⟩), List.mem_filter.mpr ⟨List.mem_of_getElem? (i := 155) (by decide +kernel), by decide +kernel⟩, by decide +kernel, trivial, by
  intro pc e h
  have h : at_X11_by pc = some e := h
  unfold at_X11_by at h
  exact dd_at_ok vb_X11_by_0 h⟩
theorem vb_X11_best_0 : dd_bLs 292 cd_X11_best_0 [[], [], [1707], [], [], [], [2106, 2108, 106], [], [1987, 1989, 85], [], [], [], [], [], [], [], [], [], [], [], [1853, 1855, 59], [], [], [], [], [2218, 2220, 120], [], [], [], [], [], [], [], [], [], [], [2075, 852, 157, 853], [], [], [], [], []] = true := by decide +kernel
theorem vy_X11_best : dd_okY 292 := ⟨by decide +kernel, ⟨by decide +kernel, by decide +kernel⟩, Or.inr (List.mem_filter.mpr ⟨List.mem_of_getElem? (i := 2225) (by decide +kernel), by decide +kernel⟩), List.mem_filter.mpr ⟨List.mem_of_getElem? (i := 155) (by decide +kernel), by decide +kernel⟩, by decide +kernel, trivial, by
  intro pc e h
  have h : at_X11_best pc = some e := h
  unfold at_X11_best at h
  exact dd_at_ok vb_X11_best_0 h⟩
theorem vb_X11_allBoys_0 : dd_bLs 293 cd_X11_allBoys_0 [[], [], [1865, 1867, 61], [], [], [], []] = true := by decide +kernel
theorem vy_X11_allBoys : dd_okY 293 := ⟨by decide +kernel, ⟨by decide +kernel, by decide +kernel⟩, Or.inr (List.mem_filter.mpr ⟨List.mem_of_getElem? (i := 2233) (by decide +kernel), by decide +kernel⟩), List.mem_filter.mpr ⟨List.mem_of_getElem? (i := 155) (by decide +kernel), by decide +kernel⟩, by decide +kernel, trivial, by
  intro pc e h
  have h : at_X11_allBoys pc = some e := h
  unfold at_X11_allBoys at h
  exact dd_at_ok vb_X11_allBoys_0 h⟩
theorem vb_X11_all_0 : dd_bLs 294 cd_X11_all_0 [[], [], [1707], [], [2118, 2120, 109], [], [], [2230, 2232, 121], [2207, 2209, 119], [2211, 2212], []] = true := by decide +kernel
theorem vy_X11_all : dd_okY 294 := ⟨by decide +kernel, ⟨by decide +kernel, by decide +kernel⟩, Or.inr (List.mem_filter.mpr ⟨List.mem_of_getElem? (i := 2229) (by decide +kernel), by decide +kernel⟩), List.mem_filter.mpr ⟨List.mem_of_getElem? (i := 155) (by decide +kernel), by decide +kernel⟩, by decide +kernel, trivial, by
  intro pc e h
  have h : at_X11_all pc = some e := h
  unfold at_X11_all at h
  exact dd_at_ok vb_X11_all_0 h⟩
theorem vb_X11_ahead_0 : dd_bLs 295 cd_X11_ahead_0 [[], [], [1707], [], [], [], [2106, 2108, 106], [], [1987, 1989, 85], [], [], [], [2238, 2239], [], [1987, 1989, 85], [], [], [], [], [], [], [2114, 2116, 108], []] = true := by decide +kernel
theorem vy_X11_ahead : dd_okY 295 := ⟨by decide +kernel, ⟨by decide +kernel, by decide +kernel⟩, Or.inr (List.mem_filter.mpr ⟨List.mem_of_getElem? (i := 2237) (by decide +kernel), by decide +kernel⟩), List.mem_filter.mpr ⟨List.mem_of_getElem? (i := 155) (by decide +kernel), by decide +kernel⟩, by decide +kernel, trivial, by
  intro pc e h
  have h : at_X11_ahead pc = some e := h
  unfold at_X11_ahead at h
  exact dd_at_ok vb_X11_ahead_0 h⟩
theorem vb_X11_mends_0 : dd_bLs 296 cd_X11_mends_0 [[], [], [1707], [], [], [], [2106, 2108, 106], [], [1987, 1989, 85], [], [], [], [], [], [], [], [2203, 2205, 118], [], [], [], [], [], [], [], [2118, 2120, 109], [], [1708], [], [], [], [1900, 1902, 68], [], [], [], [1857, 1858], [], [], [], [], [], [], [], [], [2207, 2209, 119], [], [], [], [], [], [], [], [], [], [], [2075, 852, 157, 853], [], [], [], [], []] = true := by decide +kernel
theorem vy_X11_mends : dd_okY 296 := ⟨by decide +kernel, ⟨by decide +kernel, by decide +kernel⟩, Or.inr (List.mem_filter.mpr ⟨List.mem_of_getElem? (i := 2244) (by decide +kernel), by decide +kernel⟩), List.mem_filter.mpr ⟨List.mem_of_getElem? (i := 155) (by decide +kernel), by decide +kernel⟩, by decide +kernel, trivial, by
  intro pc e h
  have h : at_X11_mends pc = some e := h
  unfold at_X11_mends at h
  exact dd_at_ok vb_X11_mends_0 h⟩
theorem vb_X11_meet_0 : dd_bLs 297 cd_X11_meet_0 [[], [], [1707], [], [], [], [2106, 2108, 106], [], [], [], [2106, 2108, 106], [], [], [], [], [], [1987, 1989, 85], [], [], [], [], [], [], [], [], [], [1987, 1989, 85], [], [], [], [], [], []] = true := by decide +kernel
theorem vb_X11_meet_1 : dd_bLs 297 cd_X11_meet_1 [[2118, 2120, 109], [], [], [], [], [], [], [], [], [], [], [], [1900, 1902, 68], [], [], [], [1900, 1902, 68], [], [], [], [], [], [], [], [2010, 2012, 88], [], [], [], [], [2122, 2124, 110], [], []] = true := by decide +kernel
theorem vy_X11_meet : dd_okY 297 := ⟨by decide +kernel, ⟨by decide +kernel, by decide +kernel⟩, Or.inr (List.mem_filter.mpr ⟨List.mem_of_getElem? (i := 2248) (by decide +kernel), by decide +kernel⟩), List.mem_filter.mpr ⟨List.mem_of_getElem? (i := 155) (by decide +kernel), by decide +kernel⟩, by decide +kernel, trivial, by
  intro pc e h
  have h : at_X11_meet pc = some e := h
  unfold at_X11_meet at h
  (repeat' split at h) <;> first | exact dd_at_ok vb_X11_meet_0 h | exact dd_at_ok vb_X11_meet_1 h⟩
theorem vb_X11_sooner_0 : dd_bLs 298 cd_X11_sooner_0 [[], [], [1707], [], [], [], [], [], [], [], [], [1865, 1867, 61], [], [], [], [1896, 1898, 67], [], [], [], [2118, 2120, 109], [], [1708], [], [], [], [], [], [], [], [2207, 2209, 119], [], [], [], [], [], [], [], [], [], [], [2075, 852, 157, 853], [], [], [], [], []] = true := by decide +kernel
theorem vy_X11_sooner : dd_okY 298 := ⟨by decide +kernel, ⟨by decide +kernel, by decide +kernel⟩, Or.inr (List.mem_filter.mpr ⟨List.mem_of_getElem? (i := 2252) (by decide +kernel), by decide +kernel⟩), List.mem_filter.mpr ⟨List.mem_of_getElem? (i := 155) (by decide +kernel), by decide +kernel⟩, by decide +kernel, trivial, by
  intro pc e h
  have h : at_X11_sooner pc = some e := h
  unfold at_X11_sooner at h
  exact dd_at_ok vb_X11_sooner_0 h⟩
theorem vb_X11_loudest_0 : dd_bLs 299 cd_X11_loudest_0 [[], [], [1707], [], [], [], [], [], [], [2118, 2120, 109], [], [1708], [], [], [], [], [], [2230, 2232, 121], [2207, 2209, 119], [], [], [], [], [], [], [], []] = true := by decide +kernel
theorem vy_X11_loudest : dd_okY 299 := ⟨by decide +kernel, ⟨by decide +kernel, by decide +kernel⟩, Or.inr (List.mem_filter.mpr ⟨List.mem_of_getElem? (i := 2256) (by decide +kernel), by decide +kernel⟩), List.mem_filter.mpr ⟨List.mem_of_getElem? (i := 155) (by decide +kernel), by decide +kernel⟩, by decide +kernel, trivial, by
  intro pc e h
  have h : at_X11_loudest pc = some e := h
  unfold at_X11_loudest at h
  exact dd_at_ok vb_X11_loudest_0 h⟩
theorem vb_X11_anyNote_0 : dd_bLs 300 cd_X11_anyNote_0 [[], [], [], [], [], [], [1730], [], [], [], [], [], [], [], [], [], [], [], [1729], [], [], [], [], [], [], [], [], [], [], [1708], [], [], [1884, 1885]] = true := by decide +kernel
theorem vb_X11_anyNote_1 : dd_bLs 300 cd_X11_anyNote_1 [[], [], [], [1708], [], [], [1884, 1885], [], [], [1708], [], [], [], [], [], [], [], [], [], [], [2018, 2020, 90], [], [], [1730], [], [], [], [1900, 1902, 68], [], [], [], [], []] = true := by decide +kernel
theorem vb_X11_anyNote_2 : dd_bLs 300 cd_X11_anyNote_2 [[], [], [], [], [1729], [], [], [], [], [], [], [], [], [], [], [], [], [], [], [1729], [], [], [1730], [], [], [], [], [], [], [2080, 2082, 104], []] = true := by decide +kernel
theorem vy_X11_anyNote : dd_okY 300 := ⟨by decide +kernel, ⟨by decide +kernel, by decide +kernel⟩, Or.inr (List.mem_filter.mpr ⟨List.mem_of_getElem? (i := 2276) (by decide +kernel), by decide +kernel⟩), List.mem_filter.mpr ⟨List.mem_of_getElem? (i := 155) (by decide +kernel), by decide +kernel⟩, by decide +kernel, trivial, by
  intro pc e h
  have h : at_X11_anyNote pc = some e := h
  unfold at_X11_anyNote at h
  (repeat' split at h) <;> first | exact dd_at_ok vb_X11_anyNote_0 h | exact dd_at_ok vb_X11_anyNote_1 h | exact dd_at_ok vb_X11_anyNote_2 h⟩
theorem vb_X11_startsAt_0 : dd_bLs 301 cd_X11_startsAt_0 [[], [2118, 2120, 109], [], [], [], [], [], [], [1729], [], [], [], [], [], [], [1729], [], [], [], [1900, 1902, 68], [], [], []] = true := by decide +kernel
theorem vy_X11_startsAt : dd_okY 301 := ⟨by decide +kernel, ⟨by decide +kernel, by decide +kernel⟩, Or.inr (List.mem_filter.mpr ⟨List.mem_of_getElem? (i := 2268) (by decide +kernel), by decide +kernel⟩), List.mem_filter.mpr ⟨List.mem_of_getElem? (i := 155) (by decide +kernel), by decide +kernel⟩, by decide +kernel, trivial, by
  intro pc e h
  have h : at_X11_startsAt pc = some e := h
  unfold at_X11_startsAt at h
  exact dd_at_ok vb_X11_startsAt_0 h⟩
theorem vb_X11_called_0 : dd_bLs 302 cd_X11_called_0 [[], [], [], [], [2265, 2267, 123], [], [1708], [], [], [], [], [], [], [], [], [], [], [], [], [1729], [], [], [], [], [], [], [], [], [], [], [], [], [1729], [], [], [2269, 2270], [], [], [1729], [], [], [], [], [], [], [], [], [], [], [], [2273, 2275, 124], [], [], [], [2122, 2124, 110], [], []] = true := by decide +kernel
theorem vy_X11_called : dd_okY 302 := ⟨by decide +kernel, ⟨by decide +kernel, by decide +kernel⟩, Or.inr (List.mem_filter.mpr ⟨List.mem_of_getElem? (i := 2264) (by decide +kernel), by decide +kernel⟩), List.mem_filter.mpr ⟨List.mem_of_getElem? (i := 155) (by decide +kernel), by decide +kernel⟩, by decide +kernel, trivial, by
  intro pc e h
  have h : at_X11_called pc = some e := h
  unfold at_X11_called at h
  exact dd_at_ok vb_X11_called_0 h⟩
theorem vb_X11_calls_0 : dd_bLs 303 cd_X11_calls_0 [[], [], [1707], [], [], [], [2106, 2108, 106], [], [1987, 1989, 85], [], [], [], [], [], [], [2261, 2263, 122], []] = true := by decide +kernel
theorem vy_X11_calls : dd_okY 303 := ⟨by decide +kernel, ⟨by decide +kernel, by decide +kernel⟩, Or.inr (List.mem_filter.mpr ⟨List.mem_of_getElem? (i := 2260) (by decide +kernel), by decide +kernel⟩), List.mem_filter.mpr ⟨List.mem_of_getElem? (i := 155) (by decide +kernel), by decide +kernel⟩, by decide +kernel, trivial, by
  intro pc e h
  have h : at_X11_calls pc = some e := h
  unfold at_X11_calls at h
  exact dd_at_ok vb_X11_calls_0 h⟩
theorem vb_X11_first_0 : dd_bLs 304 cd_X11_first_0 [[], [], [1707], [], [], [], [2106, 2108, 106], [], [1987, 1989, 85], [], [], [], [], [], [], [2261, 2263, 122], []] = true := by decide +kernel
theorem vy_X11_first : dd_okY 304 := ⟨by decide +kernel, ⟨by decide +kernel, by decide +kernel⟩, Or.inr (List.mem_filter.mpr ⟨List.mem_of_getElem? (i := 2280) (by decide +kernel), by decide +kernel⟩), List.mem_filter.mpr ⟨List.mem_of_getElem? (i := 155) (by decide +kernel), by decide +kernel⟩, by decide +kernel, trivial, by
  intro pc e h
  have h : at_X11_first pc = some e := h
  unfold at_X11_first at h
  exact dd_at_ok vb_X11_first_0 h⟩
theorem vb_X11_can_0 : dd_bLs 305 cd_X11_can_0 [[], [], [1707], [], [], [], [2106, 2108, 106], [], [1987, 1989, 85], [], [], [], [], [], [1999, 2000], [], [], [], [], [], [1987, 1989, 85], [], [], [], [], [], [2265, 2267, 123], [], [], [], [], [], []] = true := by decide +kernel
theorem vb_X11_can_1 : dd_bLs 305 cd_X11_can_1 [[], [], [], [], [], [], [2273, 2275, 124], [], [], [], [2122, 2124, 110], [], [], [], [], [], [], [], [], [], [1729], [], [], [], [], [], [], [], [], [], [], [], []] = true := by decide +kernel
theorem vy_X11_can : dd_okY 305 := ⟨by decide +kernel, ⟨by decide +kernel, by decide +kernel⟩, Or.inr (List.mem_filter.mpr ⟨List.mem_of_getElem? (i := 2284) (by decide +kernel), by decide +kernel⟩), List.mem_filter.mpr ⟨List.mem_of_getElem? (i := 155) (by decide +kernel), by decide +kernel⟩, by decide +kernel, trivial, by
  intro pc e h
  have h : at_X11_can pc = some e := h
  unfold at_X11_can at h
  (repeat' split at h) <;> first | exact dd_at_ok vb_X11_can_0 h | exact dd_at_ok vb_X11_can_1 h⟩
theorem vb_X11_thinksOf_0 : dd_bLs 306 cd_X11_thinksOf_0 [[], [1708], [], [], [1884, 1885], [], [], [], [1708], [], [], [1884, 1885], [], [], [], [1708], [], [], [1884, 1885], [], [], [], [1708], [], [], [1884, 1885], [], [], [1708], [], [], [], [], [], [], [], [], [1708], [], [], [1884, 1885], [], [], []] = true := by decide +kernel
theorem vy_X11_thinksOf : dd_okY 306 := ⟨by decide +kernel, ⟨by decide +kernel, by decide +kernel⟩, Or.inr (List.mem_filter.mpr ⟨List.mem_of_getElem? (i := 2296) (by decide +kernel), by decide +kernel⟩), List.mem_filter.mpr ⟨List.mem_of_getElem? (i := 155) (by decide +kernel), by decide +kernel⟩, by decide +kernel, trivial, by
  intro pc e h
  have h : at_X11_thinksOf pc = some e := h
  unfold at_X11_thinksOf at h
  exact dd_at_ok vb_X11_thinksOf_0 h⟩
theorem vb_X11_beatFor_0 : dd_bLs 307 cd_X11_beatFor_0 [[], [], [], [], [2014, 2016, 89], [2018, 2020, 90], [], [], [2080, 2082, 104], []] = true := by decide +kernel
theorem vy_X11_beatFor : dd_okY 307 := ⟨by decide +kernel, ⟨by decide +kernel, by decide +kernel⟩, Or.inr (List.mem_filter.mpr ⟨List.mem_of_getElem? (i := 2300) (by decide +kernel), by decide +kernel⟩), List.mem_filter.mpr ⟨List.mem_of_getElem? (i := 155) (by decide +kernel), by decide +kernel⟩, by decide +kernel, trivial, by
  intro pc e h
  have h : at_X11_beatFor pc = some e := h
  unfold at_X11_beatFor at h
  exact dd_at_ok vb_X11_beatFor_0 h⟩
theorem vb_X11_latestFrom_0 : dd_bLs 308 cd_X11_latestFrom_0 [[], [1865, 1867, 61], [], [], [2118, 2120, 109], [], [], [], [], [], [2293, 2295, 126], [], [], [], [], [], [], [], [1896, 1898, 67], [], [], [], [2297, 2299, 127], [], [], [], [2122, 2124, 110], [], []] = true := by decide +kernel
theorem vy_X11_latestFrom : dd_okY 308 := ⟨by decide +kernel, ⟨by decide +kernel, by decide +kernel⟩, Or.inr (List.mem_filter.mpr ⟨List.mem_of_getElem? (i := 2292) (by decide +kernel), by decide +kernel⟩), List.mem_filter.mpr ⟨List.mem_of_getElem? (i := 155) (by decide +kernel), by decide +kernel⟩, by decide +kernel, trivial, by
  intro pc e h
  have h : at_X11_latestFrom pc = some e := h
  unfold at_X11_latestFrom at h
  exact dd_at_ok vb_X11_latestFrom_0 h⟩
theorem vb_X11_lost_0 : dd_bLs 309 cd_X11_lost_0 [[], [], [1707], [], [], [], [2095, 2097, 105], [], [1987, 1989, 85], [], [], [], [], [], [1999, 2000], [], [], [], [], [], [1987, 1989, 85], [], [], [], [], [], [], [], [], [], [], [], [], [], [], [1878, 1880, 64], [], [], [], [], [], [], [], [2289, 2291, 125], [], [], [], [], [], [], [], [], [], [], [2301, 637, 157, 638], [], [], [], [], []] = true := by decide +kernel
theorem vy_X11_lost : dd_okY 309 := ⟨by decide +kernel, ⟨by decide +kernel, by decide +kernel⟩, Or.inr (List.mem_filter.mpr ⟨List.mem_of_getElem? (i := 2288) (by decide +kernel), by decide +kernel⟩), List.mem_filter.mpr ⟨List.mem_of_getElem? (i := 155) (by decide +kernel), by decide +kernel⟩, by decide +kernel, trivial, by
  intro pc e h
  have h : at_X11_lost pc = some e := h
  unfold at_X11_lost at h
  exact dd_at_ok vb_X11_lost_0 h⟩
theorem vb_X11_laysNears_0 : dd_bLs 310 cd_X11_laysNears_0 [[], [], [], [], [], [], [2118, 2120, 109], [], [], [], [], [], [2293, 2295, 126], [], [], [], [], [], [], [1731], [], [], [], [], [], [], [], [], [], [1900, 1902, 68], [2038, 2040, 95], [], [], [], [2297, 2299, 127], [], [], [], [2122, 2124, 110], [], [], []] = true := by decide +kernel
theorem vy_X11_laysNears : dd_okY 310 := ⟨by decide +kernel, ⟨by decide +kernel, by decide +kernel⟩, Or.inr (List.mem_filter.mpr ⟨List.mem_of_getElem? (i := 2313) (by decide +kernel), by decide +kernel⟩), List.mem_filter.mpr ⟨List.mem_of_getElem? (i := 155) (by decide +kernel), by decide +kernel⟩, by decide +kernel, trivial, by
  intro pc e h
  have h : at_X11_laysNears pc = some e := h
  unfold at_X11_laysNears at h
  exact dd_at_ok vb_X11_laysNears_0 h⟩
theorem vb_X11_isSounding_0 : dd_bLs 311 cd_X11_isSounding_0 [[], [1718], [], [], [], [], [1718], [], [], [], [1853, 1855, 59], [], [], [], [], [], [], [], [], [], [1718], [], [], [], [], [1715], [], [], [], [], [1999, 2000], [], [], [1715], [], [], [], [], [], [], [1999, 2000], [], [], [], [], [], [], [], [], []] = true := by decide +kernel
theorem vy_X11_isSounding : dd_okY 311 := ⟨by decide +kernel, ⟨by decide +kernel, by decide +kernel⟩, Or.inr (List.mem_filter.mpr ⟨List.mem_of_getElem? (i := 2309) (by decide +kernel), by decide +kernel⟩), List.mem_filter.mpr ⟨List.mem_of_getElem? (i := 155) (by decide +kernel), by decide +kernel⟩, by decide +kernel, trivial, by
  intro pc e h
  have h : at_X11_isSounding pc = some e := h
  unfold at_X11_isSounding at h
  exact dd_at_ok vb_X11_isSounding_0 h⟩
theorem vb_X11_fits_0 : dd_bLs 312 cd_X11_fits_0 [[], [], [1878, 1880, 64], [], [], [], [], [], [], [], [], [], [1718], [], [], [], [], [1731], [], [], [], [], [1715], [], [], [], [], [], [1715], [], [], [], [], [], [], [], [], [], [], [], [], []] = true := by decide +kernel
theorem vy_X11_fits : dd_okY 312 := ⟨by decide +kernel, ⟨by decide +kernel, by decide +kernel⟩, Or.inr (List.mem_filter.mpr ⟨List.mem_of_getElem? (i := 2317) (by decide +kernel), by decide +kernel⟩), List.mem_filter.mpr ⟨List.mem_of_getElem? (i := 155) (by decide +kernel), by decide +kernel⟩, by decide +kernel, trivial, by
  intro pc e h
  have h : at_X11_fits pc = some e := h
  unfold at_X11_fits at h
  exact dd_at_ok vb_X11_fits_0 h⟩
theorem vb_X11_sounds_0 : dd_bLs 313 cd_X11_sounds_0 [[], [1818, 1820, 51], [], [], [2306, 2308, 128], [], [], [], [], [], [1987, 1989, 85], [], [], [], [], [2310, 2312, 129], [], [], [], [], [], [], [], [], [], [], [2314, 2316, 130], [], [], [], [], [], [], [], [], [], [], [], [], []] = true := by decide +kernel
theorem vy_X11_sounds : dd_okY 313 := ⟨by decide +kernel, ⟨by decide +kernel, by decide +kernel⟩, Or.inr (List.mem_filter.mpr ⟨List.mem_of_getElem? (i := 2305) (by decide +kernel), by decide +kernel⟩), List.mem_filter.mpr ⟨List.mem_of_getElem? (i := 155) (by decide +kernel), by decide +kernel⟩, by decide +kernel, trivial, by
  intro pc e h
  have h : at_X11_sounds pc = some e := h
  unfold at_X11_sounds at h
  exact dd_at_ok vb_X11_sounds_0 h⟩
theorem vb_X11_partBy_0 : dd_bLs 314 cd_X11_partBy_0 [[], [], [], [], [], [], [], [], [1732], [], [], [], [], [], [], [], [], [], [], [], [], [2314, 2316, 130], [], [], [], [1731], [], [], [], [], [], [], [], [], [1732], [], [], [], [], [], [], [], [], [1732], [], [], [2301, 637, 157, 638], [], [], [], [], []] = true := by decide +kernel
theorem vy_X11_partBy : dd_okY 314 := ⟨by decide +kernel, ⟨by decide +kernel, by decide +kernel⟩, Or.inr (List.mem_filter.mpr ⟨List.mem_of_getElem? (i := 2325) (by decide +kernel), by decide +kernel⟩), List.mem_filter.mpr ⟨List.mem_of_getElem? (i := 155) (by decide +kernel), by decide +kernel⟩, by decide +kernel, trivial, by
  intro pc e h
  have h : at_X11_partBy pc = some e := h
  unfold at_X11_partBy at h
  exact dd_at_ok vb_X11_partBy_0 h⟩
theorem vb_X11_listen_0 : dd_bLs 315 cd_X11_listen_0 [[], [1818, 1820, 51], [], [], [2306, 2308, 128], [], [], [], [], [], [1987, 1989, 85], [], [], [], [], [2310, 2312, 129], [], [], [], [], [], [], [], [], [], [], [2314, 2316, 130], [], [], [], [], [], []] = true := by decide +kernel
theorem vb_X11_listen_1 : dd_bLs 315 cd_X11_listen_1 [[], [], [], [], [2178], [], [], [], [], [], [], [], [], [], [], [], [2322, 2324, 131], [], [], [], [], [], [], [], [], [], [], [2075, 852, 157, 853], [], [], [], [], []] = true := by decide +kernel
theorem vy_X11_listen : dd_okY 315 := ⟨by decide +kernel, ⟨by decide +kernel, by decide +kernel⟩, Or.inr (List.mem_filter.mpr ⟨List.mem_of_getElem? (i := 2321) (by decide +kernel), by decide +kernel⟩), List.mem_filter.mpr ⟨List.mem_of_getElem? (i := 155) (by decide +kernel), by decide +kernel⟩, by decide +kernel, trivial, by
  intro pc e h
  have h : at_X11_listen pc = some e := h
  unfold at_X11_listen at h
  (repeat' split at h) <;> first | exact dd_at_ok vb_X11_listen_0 h | exact dd_at_ok vb_X11_listen_1 h⟩
theorem vb_X11_isHeardTape_0 : dd_bLs 316 cd_X11_isHeardTape_0 [[], [1718], [], [], [], [], [1718], [], [], [], [], [], [], [], [], [], [], [1718], [], [], [], [], [1715], [], [], [2088, 2089], [], [], [], [1715], [], [], [1878, 1880, 64], [], [], [1715], [], [], [], [1708], [], [], [], [], [1715], [], [], [], [], [], [], [1999, 2000], [], [], [], [], [], [], [], [], []] = true := by decide +kernel
theorem vy_X11_isHeardTape : dd_okY 316 := ⟨by decide +kernel, ⟨by decide +kernel, by decide +kernel⟩, Or.inr (List.mem_filter.mpr ⟨List.mem_of_getElem? (i := 2333) (by decide +kernel), by decide +kernel⟩), List.mem_filter.mpr ⟨List.mem_of_getElem? (i := 155) (by decide +kernel), by decide +kernel⟩, by decide +kernel, trivial, by
  intro pc e h
  have h : at_X11_isHeardTape pc = some e := h
  unfold at_X11_isHeardTape at h
  exact dd_at_ok vb_X11_isHeardTape_0 h⟩
