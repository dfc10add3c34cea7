theorem vb_X11_wouldHear_0 : dd_bLs 317 cd_X11_wouldHear_0 [[], [1708], [], [], [1884, 1885], [], [], [], [1708], [], [], [1884, 1885], [], [], [], [], [2110, 2112, 107], []] = true := by decide +kernel
theorem vy_X11_wouldHear : dd_okY 317 := ⟨by decide +kernel, ⟨by decide +kernel, by decide +kernel⟩, Or.inr (List.mem_filter.mpr ⟨List.mem_of_getElem? (i := 2337) (by decide +kernel), by decide +kernel⟩), List.mem_filter.mpr ⟨List.mem_of_getElem? (i := 155) (by decide +kernel), by decide +kernel⟩, by decide +kernel, trivial, by
  intro pc e h
  have h : at_X11_wouldHear pc = some e := h
  unfold at_X11_wouldHear at h
  exact dd_at_ok vb_X11_wouldHear_0 h⟩
theorem vb_X11_ears_0 : dd_bLs 318 cd_X11_ears_0 [[], [1818, 1820, 51], [], [], [], [2106, 2108, 106], [], [1987, 1989, 85], [], [], [], [2330, 2332, 132], [], [], [], [], [], [1987, 1989, 85], [], [], [], [], [], [], [2118, 2120, 109], [], [], [], [], [], [], [], [], [], [], [], [1718], [], [], [], []] = true := by decide +kernel
theorem vb_X11_ears_1 : dd_bLs 318 cd_X11_ears_1 [[], [], [1715], [], [], [], [2334, 2336, 133], [], [1715], [], [], [], [], [], [], [], [], [], [], [], [], [], [], [], [], [], [], [], [], [], [], [], [], [], [], [], [], [], [2122, 2124, 110], [], []] = true := by decide +kernel
theorem vy_X11_ears : dd_okY 318 := ⟨by decide +kernel, ⟨by decide +kernel, by decide +kernel⟩, Or.inr (List.mem_filter.mpr ⟨List.mem_of_getElem? (i := 2329) (by decide +kernel), by decide +kernel⟩), List.mem_filter.mpr ⟨List.mem_of_getElem? (i := 155) (by decide +kernel), by decide +kernel⟩, by decide +kernel, trivial, by
  intro pc e h
  have h : at_X11_ears pc = some e := h
  unfold at_X11_ears at h
  (repeat' split at h) <;> first | exact dd_at_ok vb_X11_ears_0 h | exact dd_at_ok vb_X11_ears_1 h⟩
theorem vb_X11_unlikeBy_0 : dd_bLs 319 cd_X11_unlikeBy_0 [[], [], [], [], [], [], [], [], [], [], [], [2351, 2352], [], [], [1708], [], [], [1857, 1858], [], [], [1708], [], [], [1857, 1858], [], [], [], [], [], [], [], [], [], []] = true := by decide +kernel
theorem vy_X11_unlikeBy : dd_okY 319 := ⟨by decide +kernel, ⟨by decide +kernel, by decide +kernel⟩, Or.inr (List.mem_filter.mpr ⟨List.mem_of_getElem? (i := 2350) (by decide +kernel), by decide +kernel⟩), List.mem_filter.mpr ⟨List.mem_of_getElem? (i := 155) (by decide +kernel), by decide +kernel⟩, by decide +kernel, trivial, by
  intro pc e h
  have h : at_X11_unlikeBy pc = some e := h
  unfold at_X11_unlikeBy at h
  exact dd_at_ok vb_X11_unlikeBy_0 h⟩
theorem vb_X11_allUnlike_0 : dd_bLs 320 cd_X11_allUnlike_0 [[], [], [], [], [], [], [1853, 1855, 59], [], [], [], [], [], [], [], [], [], [], [], [], [2347, 2349, 135], [], [], [], [], [], [], [], [], [], [], []] = true := by decide +kernel
theorem vy_X11_allUnlike : dd_okY 320 := ⟨by decide +kernel, ⟨by decide +kernel, by decide +kernel⟩, Or.inr (List.mem_filter.mpr ⟨List.mem_of_getElem? (i := 2346) (by decide +kernel), by decide +kernel⟩), List.mem_filter.mpr ⟨List.mem_of_getElem? (i := 155) (by decide +kernel), by decide +kernel⟩, by decide +kernel, trivial, by
  intro pc e h
  have h : at_X11_allUnlike pc = some e := h
  unfold at_X11_allUnlike at h
  exact dd_at_ok vb_X11_allUnlike_0 h⟩
theorem vb_X11_code_0 : dd_bLs 321 cd_X11_code_0 [[], [], [1707], [], [], [2178], [], [], [], [], [], [], [], [2342, 676], [], [], [], [], [2343, 2345, 134], [], [], [], [], [], [2342, 676], [], [], [], [], []] = true := by decide +kernel
theorem vy_X11_code : dd_okY 321 := ⟨by decide +kernel, ⟨by decide +kernel, by decide +kernel⟩, Or.inr (List.mem_filter.mpr ⟨List.mem_of_getElem? (i := 2341) (by decide +kernel), by decide +kernel⟩), List.mem_filter.mpr ⟨List.mem_of_getElem? (i := 155) (by decide +kernel), by decide +kernel⟩, by decide +kernel, trivial, by
  intro pc e h
  have h : at_X11_code pc = some e := h
  unfold at_X11_code at h
  exact dd_at_ok vb_X11_code_0 h⟩
theorem vb_X11_isShifted_0 : dd_bLs 322 cd_X11_isShifted_0 [[], [], [], [], [], [], [], [], [], [], [1708], [], [], [1857, 1858], [], [], [1708], [], [], [], [], [], [], [1857, 1858], [], [], [], [], [], [], [], [], [], []] = true := by decide +kernel
theorem vy_X11_isShifted : dd_okY 322 := ⟨by decide +kernel, ⟨by decide +kernel, by decide +kernel⟩, Or.inr (List.mem_filter.mpr ⟨List.mem_of_getElem? (i := 2361) (by decide +kernel), by decide +kernel⟩), List.mem_filter.mpr ⟨List.mem_of_getElem? (i := 155) (by decide +kernel), by decide +kernel⟩, by decide +kernel, trivial, by
  intro pc e h
  have h : at_X11_isShifted pc = some e := h
  unfold at_X11_isShifted at h
  exact dd_at_ok vb_X11_isShifted_0 h⟩
theorem vb_X11_shifted_0 : dd_bLs 323 cd_X11_shifted_0 [[], [], [1707], [], [], [], [2095, 2097, 105], [], [], [], [2095, 2097, 105], [], [], [], [], [], [1987, 1989, 85], [], [], [], [], [], [], [], [], [], [1987, 1989, 85], [], [], [], [], [], [], [], [], [], [], [], [], [2358, 2360, 136], [], [], [], [], [], [], []] = true := by decide +kernel
theorem vy_X11_shifted : dd_okY 323 := ⟨by decide +kernel, ⟨by decide +kernel, by decide +kernel⟩, Or.inr (List.mem_filter.mpr ⟨List.mem_of_getElem? (i := 2357) (by decide +kernel), by decide +kernel⟩), List.mem_filter.mpr ⟨List.mem_of_getElem? (i := 155) (by decide +kernel), by decide +kernel⟩, by decide +kernel, trivial, by
  intro pc e h
  have h : at_X11_shifted pc = some e := h
  unfold at_X11_shifted at h
  exact dd_at_ok vb_X11_shifted_0 h⟩
theorem vb_X11_silenceOf_0 : dd_bLs 324 cd_X11_silenceOf_0 [[], [], [], [], [], [], [], [], [], [1708], [], [], [1857, 1858], [], [], [], [], [], [], [], [], [], [], []] = true := by decide +kernel
theorem vy_X11_silenceOf : dd_okY 324 := ⟨by decide +kernel, ⟨by decide +kernel, by decide +kernel⟩, Or.inr (List.mem_filter.mpr ⟨List.mem_of_getElem? (i := 2369) (by decide +kernel), by decide +kernel⟩), List.mem_filter.mpr ⟨List.mem_of_getElem? (i := 155) (by decide +kernel), by decide +kernel⟩, by decide +kernel, trivial, by
  intro pc e h
  have h : at_X11_silenceOf pc = some e := h
  unfold at_X11_silenceOf at h
  exact dd_at_ok vb_X11_silenceOf_0 h⟩
theorem vb_X11_silence_0 : dd_bLs 325 cd_X11_silence_0 [[], [], [1707], [], [], [], [2095, 2097, 105], [], [1987, 1989, 85], [], [], [], [], [], [2366, 2368, 137], []] = true := by decide +kernel
theorem vy_X11_silence : dd_okY 325 := ⟨by decide +kernel, ⟨by decide +kernel, by decide +kernel⟩, Or.inr (List.mem_filter.mpr ⟨List.mem_of_getElem? (i := 2365) (by decide +kernel), by decide +kernel⟩), List.mem_filter.mpr ⟨List.mem_of_getElem? (i := 155) (by decide +kernel), by decide +kernel⟩, by decide +kernel, trivial, by
  intro pc e h
  have h : at_X11_silence pc = some e := h
  unfold at_X11_silence at h
  exact dd_at_ok vb_X11_silence_0 h⟩
theorem vb_X11_hush_0 : dd_bLs 326 cd_X11_hush_0 [[], [], [1707], [], [], [], [2095, 2097, 105], [], [1987, 1989, 85], [], [], [], [], [], [], [], [], [], [], [], [], [], [1708], [], [], [], [], [1857, 1858], [], [], [], [], [], [], [], [], [], [], [2301, 637, 157, 638], [], [], [], [], [], [2075, 852, 157, 853], []] = true := by decide +kernel
theorem vy_X11_hush : dd_okY 326 := ⟨by decide +kernel, ⟨by decide +kernel, by decide +kernel⟩, Or.inr (List.mem_filter.mpr ⟨List.mem_of_getElem? (i := 2373) (by decide +kernel), by decide +kernel⟩), List.mem_filter.mpr ⟨List.mem_of_getElem? (i := 155) (by decide +kernel), by decide +kernel⟩, by decide +kernel, trivial, by
  intro pc e h
  have h : at_X11_hush pc = some e := h
  unfold at_X11_hush at h
  exact dd_at_ok vb_X11_hush_0 h⟩
theorem vb_X11_quiet_0 : dd_bLs 327 cd_X11_quiet_0 [[], [], [1707], [], [], [], [], [], [], [1853, 1855, 59], [], [], [], [], [], [], [2366, 2368, 137], [], [], [2366, 2368, 137], [], [], [], [], [], [], []] = true := by decide +kernel
theorem vy_X11_quiet : dd_okY 327 := ⟨by decide +kernel, ⟨by decide +kernel, by decide +kernel⟩, Or.inr (List.mem_filter.mpr ⟨List.mem_of_getElem? (i := 2377) (by decide +kernel), by decide +kernel⟩), List.mem_filter.mpr ⟨List.mem_of_getElem? (i := 155) (by decide +kernel), by decide +kernel⟩, by decide +kernel, trivial, by
  intro pc e h
  have h : at_X11_quiet pc = some e := h
  unfold at_X11_quiet at h
  exact dd_at_ok vb_X11_quiet_0 h⟩
theorem vb_X11_allWatched_0 : dd_bLs 328 cd_X11_allWatched_0 [[], [], [], [], [], [], [1865, 1867, 61], [], [], [], [], [], [1865, 1867, 61], [], [], [], [], [2351, 2352], [], [], [], [], [1900, 1902, 68], [], [], [], [1900, 1902, 68], [2042, 2043], [], [], [], [], [], [], [], [], [], [], [], [], [], [], [2179, 2181, 115], [], [], [], [], [], [], [], [], []] = true := by decide +kernel
theorem vy_X11_allWatched : dd_okY 328 := ⟨by decide +kernel, ⟨by decide +kernel, by decide +kernel⟩, Or.inr (List.mem_filter.mpr ⟨List.mem_of_getElem? (i := 2385) (by decide +kernel), by decide +kernel⟩), List.mem_filter.mpr ⟨List.mem_of_getElem? (i := 155) (by decide +kernel), by decide +kernel⟩, by decide +kernel, trivial, by
  intro pc e h
  have h : at_X11_allWatched pc = some e := h
  unfold at_X11_allWatched at h
  exact dd_at_ok vb_X11_allWatched_0 h⟩
theorem vb_X11_watch_0 : dd_bLs 329 cd_X11_watch_0 [[], [], [1707], [], [2179, 2181, 115], [], [], [], [], [], [], [], [], [], [], [], [], [], [], [2342, 676], [], [2342, 676], [], [], [], [2382, 2384, 138], [], [], [], [], [], [], []] = true := by decide +kernel
theorem vy_X11_watch : dd_okY 329 := ⟨by decide +kernel, ⟨by decide +kernel, by decide +kernel⟩, Or.inr (List.mem_filter.mpr ⟨List.mem_of_getElem? (i := 2381) (by decide +kernel), by decide +kernel⟩), List.mem_filter.mpr ⟨List.mem_of_getElem? (i := 155) (by decide +kernel), by decide +kernel⟩, by decide +kernel, trivial, by
  intro pc e h
  have h : at_X11_watch pc = some e := h
  unfold at_X11_watch at h
  exact dd_at_ok vb_X11_watch_0 h⟩
theorem vb_X11_boyHas_0 : dd_bLs 330 cd_X11_boyHas_0 [[], [], [], [], [], [], [], [], [], [], [], [], [], [], []] = true := by decide +kernel
theorem vy_X11_boyHas : dd_okY 330 := ⟨by decide +kernel, ⟨by decide +kernel, by decide +kernel⟩, Or.inr (List.mem_filter.mpr ⟨List.mem_of_getElem? (i := 2393) (by decide +kernel), by decide +kernel⟩), List.mem_filter.mpr ⟨List.mem_of_getElem? (i := 155) (by decide +kernel), by decide +kernel⟩, by decide +kernel, trivial, by
  intro pc e h
  have h : at_X11_boyHas pc = some e := h
  unfold at_X11_boyHas at h
  exact dd_at_ok vb_X11_boyHas_0 h⟩
theorem vb_X11_theyHave_0 : dd_bLs 331 cd_X11_theyHave_0 [[], [], [], [], [], [], [], [], [], [], []] = true := by decide +kernel
theorem vy_X11_theyHave : dd_okY 331 := ⟨by decide +kernel, ⟨by decide +kernel, by decide +kernel⟩, Or.inr (List.mem_filter.mpr ⟨List.mem_of_getElem? (i := 2396) (by decide +kernel), by decide +kernel⟩), List.mem_filter.mpr ⟨List.mem_of_getElem? (i := 155) (by decide +kernel), by decide +kernel⟩, by decide +kernel, trivial, by
  intro pc e h
  have h : at_X11_theyHave pc = some e := h
  unfold at_X11_theyHave at h
  exact dd_at_ok vb_X11_theyHave_0 h⟩
theorem vb_X11_rests_0 : dd_bLs 332 cd_X11_rests_0 [[], [], [1707], [], [], [], [2106, 2108, 106], [], [1987, 1989, 85], [], [], [], [], [], [1896, 1898, 67], [], [], [], [], [], [], [], [1900, 1902, 68], [2038, 2040, 95], [], [], [], [], [], [], [], [], [], [], [], [], [], [], []] = true := by decide +kernel
theorem vb_X11_rests_1 : dd_bLs 332 cd_X11_rests_1 [[], [], [], [2390, 2392, 139], [], [], [], [], [], [], [2390, 2392, 139], [], [], [], [2394, 2395], [], [], [], [], [2394, 2395], [], [], [], [], [], [], [], [], [], [], [], [], [], [], [], [], [], []] = true := by decide +kernel
theorem vy_X11_rests : dd_okY 332 := ⟨by decide +kernel, ⟨by decide +kernel, by decide +kernel⟩, Or.inr (List.mem_filter.mpr ⟨List.mem_of_getElem? (i := 2389) (by decide +kernel), by decide +kernel⟩), List.mem_filter.mpr ⟨List.mem_of_getElem? (i := 155) (by decide +kernel), by decide +kernel⟩, by decide +kernel, trivial, by
  intro pc e h
  have h : at_X11_rests pc = some e := h
  unfold at_X11_rests at h
  (repeat' split at h) <;> first | exact dd_at_ok vb_X11_rests_0 h | exact dd_at_ok vb_X11_rests_1 h⟩
theorem vb_X11_hearing_0 : dd_bLs 333 cd_X11_hearing_0 [[], [], [1707], [], [], [], [], [], [], [1865, 1867, 61], [], [], [], [], [1896, 1898, 67], [], [], [], [2110, 2112, 107], [], [], [], [], [], [], [], [], [], [], [], []] = true := by decide +kernel
theorem vy_X11_hearing : dd_okY 333 := ⟨by decide +kernel, ⟨by decide +kernel, by decide +kernel⟩, Or.inr (List.mem_filter.mpr ⟨List.mem_of_getElem? (i := 2400) (by decide +kernel), by decide +kernel⟩), List.mem_filter.mpr ⟨List.mem_of_getElem? (i := 155) (by decide +kernel), by decide +kernel⟩, by decide +kernel, trivial, by
  intro pc e h
  have h : at_X11_hearing pc = some e := h
  unfold at_X11_hearing at h
  exact dd_at_ok vb_X11_hearing_0 h⟩
theorem vb_X11_sumOfCells_0 : dd_bLs 334 cd_X11_sumOfCells_0 [[], [], [], [], [], [], [], [], [], [1708], [], [], [], [], [], [], [], [], [], []] = true := by decide +kernel
theorem vy_X11_sumOfCells : dd_okY 334 := ⟨by decide +kernel, ⟨by decide +kernel, by decide +kernel⟩, Or.inr (List.mem_filter.mpr ⟨List.mem_of_getElem? (i := 2408) (by decide +kernel), by decide +kernel⟩), List.mem_filter.mpr ⟨List.mem_of_getElem? (i := 155) (by decide +kernel), by decide +kernel⟩, by decide +kernel, trivial, by
  intro pc e h
  have h : at_X11_sumOfCells pc = some e := h
  unfold at_X11_sumOfCells at h
  exact dd_at_ok vb_X11_sumOfCells_0 h⟩
theorem vb_X11_dense_0 : dd_bLs 335 cd_X11_dense_0 [[], [], [1707], [], [], [2405, 2407, 140], []] = true := by decide +kernel
theorem vy_X11_dense : dd_okY 335 := ⟨by decide +kernel, ⟨by decide +kernel, by decide +kernel⟩, Or.inr (List.mem_filter.mpr ⟨List.mem_of_getElem? (i := 2404) (by decide +kernel), by decide +kernel⟩), List.mem_filter.mpr ⟨List.mem_of_getElem? (i := 155) (by decide +kernel), by decide +kernel⟩, by decide +kernel, trivial, by
  intro pc e h
  have h : at_X11_dense pc = some e := h
  unfold at_X11_dense at h
  exact dd_at_ok vb_X11_dense_0 h⟩
theorem vb_X11_ferny_0 : dd_bLs 336 cd_X11_ferny_0 [[], [], [1707], [], [], [], [], [], [], [], [], [], [], [1708], [], [], [], [], [], [], [], [], [], [], [], [], [1708], [], [], [], [], [2301, 637, 157, 638], [], [], [], [], []] = true := by decide +kernel
theorem vy_X11_ferny : dd_okY 336 := ⟨by decide +kernel, ⟨by decide +kernel, by decide +kernel⟩, Or.inr (List.mem_filter.mpr ⟨List.mem_of_getElem? (i := 2412) (by decide +kernel), by decide +kernel⟩), List.mem_filter.mpr ⟨List.mem_of_getElem? (i := 155) (by decide +kernel), by decide +kernel⟩, by decide +kernel, trivial, by
  intro pc e h
  have h : at_X11_ferny pc = some e := h
  unfold at_X11_ferny at h
  exact dd_at_ok vb_X11_ferny_0 h⟩
theorem vb_X11_out_0 : dd_bLs 337 cd_X11_out_0 [[], [], [1707], [], [2179, 2181, 115], []] = true := by decide +kernel
theorem vy_X11_out : dd_okY 337 := ⟨by decide +kernel, ⟨by decide +kernel, by decide +kernel⟩, Or.inr (List.mem_filter.mpr ⟨List.mem_of_getElem? (i := 2416) (by decide +kernel), by decide +kernel⟩), List.mem_filter.mpr ⟨List.mem_of_getElem? (i := 155) (by decide +kernel), by decide +kernel⟩, by decide +kernel, trivial, by
  intro pc e h
  have h : at_X11_out pc = some e := h
  unfold at_X11_out at h
  exact dd_at_ok vb_X11_out_0 h⟩
theorem vb_X11_far_0 : dd_bLs 338 cd_X11_far_0 [[], [], [1707], [], [], [], [], [], [], [1865, 1867, 61], [], [], [], [1896, 1898, 67], [], [], [], [], [], [], [], [], [1900, 1902, 68], [2038, 2040, 95], [], [], [], [], [1900, 1902, 68], [2038, 2040, 95], [], [], [], [], [], [], []] = true := by decide +kernel
theorem vy_X11_far : dd_okY 338 := ⟨by decide +kernel, ⟨by decide +kernel, by decide +kernel⟩, Or.inr (List.mem_filter.mpr ⟨List.mem_of_getElem? (i := 2420) (by decide +kernel), by decide +kernel⟩), List.mem_filter.mpr ⟨List.mem_of_getElem? (i := 155) (by decide +kernel), by decide +kernel⟩, by decide +kernel, trivial, by
  intro pc e h
  have h : at_X11_far pc = some e := h
  unfold at_X11_far at h
  exact dd_at_ok vb_X11_far_0 h⟩
theorem vb_X11_worst_0 : dd_bLs 339 cd_X11_worst_0 [[], [], [1707], [], [], [], [], [], [], [1865, 1867, 61], [], [], [], [], [1900, 1902, 68], [], [], [], [], [], [], [], [1900, 1902, 68], [], [], [], [1900, 1902, 68], [], [], [], [], [], [], []] = true := by decide +kernel
theorem vy_X11_worst : dd_okY 339 := ⟨by decide +kernel, ⟨by decide +kernel, by decide +kernel⟩, Or.inr (List.mem_filter.mpr ⟨List.mem_of_getElem? (i := 2424) (by decide +kernel), by decide +kernel⟩), List.mem_filter.mpr ⟨List.mem_of_getElem? (i := 155) (by decide +kernel), by decide +kernel⟩, by decide +kernel, trivial, by
  intro pc e h
  have h : at_X11_worst pc = some e := h
  unfold at_X11_worst at h
  exact dd_at_ok vb_X11_worst_0 h⟩
theorem vb_X11_odds_0 : dd_bLs 340 cd_X11_odds_0 [[], [], [1707], [], [], [], [2106, 2108, 106], [], [1987, 1989, 85], [], [], [], [], [], [1999, 2000], [], [], [], [], [], [1987, 1989, 85], [], [], [], [], [], [], [], [1896, 1898, 67], [], [], [], [2110, 2112, 107], [], [], [], [], [], [], [], [], [], [], [], [], [], [], [], [1708], [], [], [], [], [], [], [], [], [], [], []] = true := by decide +kernel
theorem vy_X11_odds : dd_okY 340 := ⟨by decide +kernel, ⟨by decide +kernel, by decide +kernel⟩, Or.inr (List.mem_filter.mpr ⟨List.mem_of_getElem? (i := 2428) (by decide +kernel), by decide +kernel⟩), List.mem_filter.mpr ⟨List.mem_of_getElem? (i := 155) (by decide +kernel), by decide +kernel⟩, by decide +kernel, trivial, by
  intro pc e h
  have h : at_X11_odds pc = some e := h
  unfold at_X11_odds at h
  exact dd_at_ok vb_X11_odds_0 h⟩
theorem vb_X11_twins_0 : dd_bLs 341 cd_X11_twins_0 [[], [], [1707], [], [], [], [], [], [], [1865, 1867, 61], [], [], [], [], [], [], [], [], [], [], [1900, 1902, 68], [], [], [], [1900, 1902, 68], [], [], [], [], [1900, 1902, 68], [], [], [], [1900, 1902, 68], [], [], [], [], [], [], [], [], [], [], [], []] = true := by decide +kernel
theorem vy_X11_twins : dd_okY 341 := ⟨by decide +kernel, ⟨by decide +kernel, by decide +kernel⟩, Or.inr (List.mem_filter.mpr ⟨List.mem_of_getElem? (i := 2432) (by decide +kernel), by decide +kernel⟩), List.mem_filter.mpr ⟨List.mem_of_getElem? (i := 155) (by decide +kernel), by decide +kernel⟩, by decide +kernel, trivial, by
  intro pc e h
  have h : at_X11_twins pc = some e := h
  unfold at_X11_twins at h
  exact dd_at_ok vb_X11_twins_0 h⟩
theorem vb_X11_inOnes_0 : dd_bLs 342 cd_X11_inOnes_0 [[], [2230, 2232, 121], [], [2179, 2181, 115], [], [], [], []] = true := by decide +kernel
theorem vy_X11_inOnes : dd_okY 342 := ⟨by decide +kernel, ⟨by decide +kernel, by decide +kernel⟩, Or.inr (List.mem_filter.mpr ⟨List.mem_of_getElem? (i := 2440) (by decide +kernel), by decide +kernel⟩), List.mem_filter.mpr ⟨List.mem_of_getElem? (i := 155) (by decide +kernel), by decide +kernel⟩, by decide +kernel, trivial, by
  intro pc e h
  have h : at_X11_inOnes pc = some e := h
  unfold at_X11_inOnes at h
  exact dd_at_ok vb_X11_inOnes_0 h⟩
theorem vb_X11_trial_0 : dd_bLs 343 cd_X11_trial_0 [[], [], [1707], [], [], [2238, 2239], [], [1987, 1989, 85], [], [], [], [], [2118, 2120, 109], [], [], [], [2006, 2008, 87], [], [], [], [], [2130, 2132, 112], [], [], [2437, 2439, 141], [], [], [2122, 2124, 110], [], []] = true := by decide +kernel
theorem vy_X11_trial : dd_okY 343 := ⟨by decide +kernel, ⟨by decide +kernel, by decide +kernel⟩, Or.inr (List.mem_filter.mpr ⟨List.mem_of_getElem? (i := 2436) (by decide +kernel), by decide +kernel⟩), List.mem_filter.mpr ⟨List.mem_of_getElem? (i := 155) (by decide +kernel), by decide +kernel⟩, by decide +kernel, trivial, by
  intro pc e h
  have h : at_X11_trial pc = some e := h
  unfold at_X11_trial at h
  exact dd_at_ok vb_X11_trial_0 h⟩
theorem vb_X11_span_0 : dd_bLs 344 cd_X11_span_0 [[], [], [1707], [], [], [2238, 2239], [], [1987, 1989, 85], [], [], [], [], [2118, 2120, 109], [], [], [], [], [], [], [], [], [1708], [], [], [], [], [], [], [2006, 2008, 87], [], [], [2437, 2439, 141], [2342, 676], [], [], [2122, 2124, 110], [], [], [], [], [], [], [], [], [2301, 637, 157, 638], [], [], [], [2075, 852, 157, 853], [], [], [], [], []] = true := by decide +kernel
theorem vy_X11_span : dd_okY 344 := ⟨by decide +kernel, ⟨by decide +kernel, by decide +kernel⟩, Or.inr (List.mem_filter.mpr ⟨List.mem_of_getElem? (i := 2444) (by decide +kernel), by decide +kernel⟩), List.mem_filter.mpr ⟨List.mem_of_getElem? (i := 155) (by decide +kernel), by decide +kernel⟩, by decide +kernel, trivial, by
  intro pc e h
  have h : at_X11_span pc = some e := h
  unfold at_X11_span at h
  exact dd_at_ok vb_X11_span_0 h⟩
theorem vb_X11_ofLog_0 : dd_bLs 345 cd_X11_ofLog_0 [[], [1708], [], [], [], [], [], [], [], [], []] = true := by decide +kernel
theorem vy_X11_ofLog : dd_okY 345 := ⟨by decide +kernel, ⟨by decide +kernel, by decide +kernel⟩, Or.inr (List.mem_filter.mpr ⟨List.mem_of_getElem? (i := 2452) (by decide +kernel), by decide +kernel⟩), List.mem_filter.mpr ⟨List.mem_of_getElem? (i := 155) (by decide +kernel), by decide +kernel⟩, by decide +kernel, trivial, by
  intro pc e h
  have h : at_X11_ofLog pc = some e := h
  unfold at_X11_ofLog at h
  exact dd_at_ok vb_X11_ofLog_0 h⟩
theorem vb_X11_led_0 : dd_bLs 346 cd_X11_led_0 [[], [], [1707], [], [], [], [2106, 2108, 106], [], [1987, 1989, 85], [], [], [], [], [], [], [], [], [1708], [], [], [], [], [], [], [], [], [], [], [2449, 2451, 142], [], [], [], [], [], [], [], [2449, 2451, 142], [], [], [], [], [], [], [], [], []] = true := by decide +kernel
theorem vy_X11_led : dd_okY 346 := ⟨by decide +kernel, ⟨by decide +kernel, by decide +kernel⟩, Or.inr (List.mem_filter.mpr ⟨List.mem_of_getElem? (i := 2448) (by decide +kernel), by decide +kernel⟩), List.mem_filter.mpr ⟨List.mem_of_getElem? (i := 155) (by decide +kernel), by decide +kernel⟩, by decide +kernel, trivial, by
  intro pc e h
  have h : at_X11_led pc = some e := h
  unfold at_X11_led at h
  exact dd_at_ok vb_X11_led_0 h⟩
theorem vb_X11_log_0 : dd_bLs 347 cd_X11_log_0 [[], [], [1707], [], [], [], [], [1999, 2000], [], [], [], [], [], [1987, 1989, 85], [], [], [], [], [], [], [1708], [], [], [], [], [1999, 2000], [], [], [], [], [2449, 2451, 142], [], [], []] = true := by decide +kernel
theorem vy_X11_log : dd_okY 347 := ⟨by decide +kernel, ⟨by decide +kernel, by decide +kernel⟩, Or.inr (List.mem_filter.mpr ⟨List.mem_of_getElem? (i := 2456) (by decide +kernel), by decide +kernel⟩), List.mem_filter.mpr ⟨List.mem_of_getElem? (i := 155) (by decide +kernel), by decide +kernel⟩, by decide +kernel, trivial, by
  intro pc e h
  have h : at_X11_log pc = some e := h
  unfold at_X11_log at h
  exact dd_at_ok vb_X11_log_0 h⟩
theorem vb_X11_seed_0 : dd_bLs 348 cd_X11_seed_0 [[], [], [1707], [], [1708], [], [], [], [], [1708], [], [], [], [], []] = true := by decide +kernel
theorem vy_X11_seed : dd_okY 348 := ⟨by decide +kernel, ⟨by decide +kernel, by decide +kernel⟩, Or.inr (List.mem_filter.mpr ⟨List.mem_of_getElem? (i := 2460) (by decide +kernel), by decide +kernel⟩), List.mem_filter.mpr ⟨List.mem_of_getElem? (i := 155) (by decide +kernel), by decide +kernel⟩, by decide +kernel, trivial, by
  intro pc e h
  have h : at_X11_seed pc = some e := h
  unfold at_X11_seed at h
  exact dd_at_ok vb_X11_seed_0 h⟩
theorem vb_X11_count_0 : dd_bLs 349 cd_X11_count_0 [[], [], [1707], [], [], [], [1708], [], [], [], [], [], [1708], [], [], [], [], [], [], [], [2405, 2407, 140], [], [], [2437, 2439, 141], [], [], [1708], [], [], [], [], [1714], [], [], [], [], [1999, 2000], [], [], [1708], [], [], [], [], []] = true := by decide +kernel
theorem vy_X11_count : dd_okY 349 := ⟨by decide +kernel, ⟨by decide +kernel, by decide +kernel⟩, Or.inr (List.mem_filter.mpr ⟨List.mem_of_getElem? (i := 2464) (by decide +kernel), by decide +kernel⟩), List.mem_filter.mpr ⟨List.mem_of_getElem? (i := 155) (by decide +kernel), by decide +kernel⟩, by decide +kernel, trivial, by
  intro pc e h
  have h : at_X11_count pc = some e := h
  unfold at_X11_count at h
  exact dd_at_ok vb_X11_count_0 h⟩
theorem vb_J6_numberOfTrailingZeros_0f7a4_0 : dd_bLs 350 cd_J6_numberOfTrailingZeros_0f7a4_0 [[], [], [], [], [], [], [], [], [], [], [], [], [], [], [], [], [], [2272], [], [], [], [], [], [], [], [], [], [], [], [], [], [], [], [], [], [], [], [], [], [], [], [], [], [], [], [], [], [], [], [], [], [], [], []] = true := by decide +kernel
theorem vy_J6_numberOfTrailingZeros_0f7a4 : dd_okY 350 := ⟨by decide +kernel, ⟨by decide +kernel, by decide +kernel⟩, Or.inr (List.mem_filter.mpr ⟨List.mem_of_getElem? (i := 2271) (by decide +kernel), by decide +kernel⟩), List.mem_filter.mpr ⟨List.mem_of_getElem? (i := 171) (by decide +kernel), by decide +kernel⟩, by decide +kernel, trivial, by
  intro pc e h
  have h : at_J6_numberOfTrailingZeros_0f7a4 pc = some e := h
  unfold at_J6_numberOfTrailingZeros_0f7a4 at h
  exact dd_at_ok vb_J6_numberOfTrailingZeros_0f7a4_0 h⟩
