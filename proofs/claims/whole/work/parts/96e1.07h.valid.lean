theorem vb_X11_wordOfPart_0 : dd_bLs 231 cd_X11_wordOfPart_0 [[], [1860], [1843, 1845, 57], [], [], [], [], [1842], [1843, 1845, 57], [], [], [], [], [1883], [1843, 1845, 57], [], [], [], [], [1981], [1843, 1845, 57], [], [], [], [], [1982], [1843, 1845, 57], [], [], [], [], [1983], [1843, 1845, 57], [], [], [], [], [1984], [1843, 1845, 57], [], [], [], [], [1928], [1843, 1845, 57], [], [], [], [], []] = true := by decide +kernel
theorem vy_X11_wordOfPart : dd_okY 231 := ⟨by decide +kernel, ⟨by decide +kernel, by decide +kernel⟩, Or.inr (List.mem_filter.mpr ⟨List.mem_of_getElem? (i := 1980) (by decide +kernel), by decide +kernel⟩), List.mem_filter.mpr ⟨List.mem_of_getElem? (i := 155) (by decide +kernel), by decide +kernel⟩, by decide +kernel, trivial, by
  intro pc e h
  have h : at_X11_wordOfPart pc = some e := h
  unfold at_X11_wordOfPart at h
  exact dd_at_ok vb_X11_wordOfPart_0 h⟩
theorem vb_X11_readPart_0 : dd_bLs 232 cd_X11_readPart_0 [[], [1834, 1836, 55], [], [1717], [], [1719], [], [], [], [], [], [], [], [], [], [], [1874, 1876, 63], [], [], [1977, 1979, 84], [], [], [], [], [], [], [], [], [], [], [], [], [1959, 1961, 80], [], [], [], [], [], []] = true := by decide +kernel
theorem vy_X11_readPart : dd_okY 232 := ⟨by decide +kernel, ⟨by decide +kernel, by decide +kernel⟩, Or.inr (List.mem_filter.mpr ⟨List.mem_of_getElem? (i := 1976) (by decide +kernel), by decide +kernel⟩), List.mem_filter.mpr ⟨List.mem_of_getElem? (i := 155) (by decide +kernel), by decide +kernel⟩, by decide +kernel, trivial, by
  intro pc e h
  have h : at_X11_readPart pc = some e := h
  unfold at_X11_readPart at h
  exact dd_at_ok vb_X11_readPart_0 h⟩
theorem vb_X11_readSum_0 : dd_bLs 233 cd_X11_readSum_0 [[], [1973, 1975, 83], [], [], [], [], [], [1954, 1956, 79], [], [], [1973, 1975, 83], [], [], [], [], [], [], [1959, 1961, 80], [], [], []] = true := by decide +kernel
theorem vy_X11_readSum : dd_okY 233 := ⟨by decide +kernel, ⟨by decide +kernel, by decide +kernel⟩, Or.inr (List.mem_filter.mpr ⟨List.mem_of_getElem? (i := 1972) (by decide +kernel), by decide +kernel⟩), List.mem_filter.mpr ⟨List.mem_of_getElem? (i := 155) (by decide +kernel), by decide +kernel⟩, by decide +kernel, trivial, by
  intro pc e h
  have h : at_X11_readSum pc = some e := h
  unfold at_X11_readSum at h
  exact dd_at_ok vb_X11_readSum_0 h⟩
theorem vb_X11_readTag_0 : dd_bLs 234 cd_X11_readTag_0 [[], [1834, 1836, 55], [], [1967], [1843, 1845, 57], [], [], [], [], [1968], [1843, 1845, 57], [], [], [], [], [], [], [], [], [], [], [1959, 1961, 80], [], [], [], [1719], [1717], [], [], [], [], [], []] = true := by decide +kernel
theorem vy_X11_readTag : dd_okY 234 := ⟨by decide +kernel, ⟨by decide +kernel, by decide +kernel⟩, Or.inr (List.mem_filter.mpr ⟨List.mem_of_getElem? (i := 1966) (by decide +kernel), by decide +kernel⟩), List.mem_filter.mpr ⟨List.mem_of_getElem? (i := 155) (by decide +kernel), by decide +kernel⟩, by decide +kernel, trivial, by
  intro pc e h
  have h : at_X11_readTag pc = some e := h
  unfold at_X11_readTag at h
  exact dd_at_ok vb_X11_readTag_0 h⟩
theorem vb_X11_readAtom_0 : dd_bLs 235 cd_X11_readAtom_0 [[], [], [1954, 1956, 79], [], [], [1720], [], [], [], [], [], [], [1720], [], [], [1720], [], [1942, 1944, 76], [], [], [], [], [], [1720], [], [], [1720], [], [], [1954, 1956, 79], [], [], [1958]] = true := by decide +kernel
theorem vb_X11_readAtom_1 : dd_bLs 235 cd_X11_readAtom_1 [[1938, 1940, 75], [], [], [1720], [], [], [], [], [], [], [1720], [], [], [1720], [], [1950, 1952, 78], [], [], [], [], [], [1720], [], [], [1720], [], [], [], [1959, 1961, 80], [], [], [], [1963, 1965, 81]] = true := by decide +kernel
theorem vb_X11_readAtom_2 : dd_bLs 235 cd_X11_readAtom_2 [[], [], [], [], [1969, 1971, 82], [], [], [], [], [], [1954, 1956, 79], [], [], [], [], [], [1954, 1956, 79], [], [], [1969, 1971, 82], [], [], [], [], [], [], [], [], [], [], [1959, 1961, 80], [], []] = true := by decide +kernel
theorem vy_X11_readAtom : dd_okY 235 := ⟨by decide +kernel, ⟨by decide +kernel, by decide +kernel⟩, Or.inr (List.mem_filter.mpr ⟨List.mem_of_getElem? (i := 1953) (by decide +kernel), by decide +kernel⟩), List.mem_filter.mpr ⟨List.mem_of_getElem? (i := 155) (by decide +kernel), by decide +kernel⟩, by decide +kernel, trivial, by
  intro pc e h
  have h : at_X11_readAtom pc = some e := h
  unfold at_X11_readAtom at h
  (repeat' split at h) <;> first | exact dd_at_ok vb_X11_readAtom_0 h | exact dd_at_ok vb_X11_readAtom_1 h | exact dd_at_ok vb_X11_readAtom_2 h⟩
theorem vb_X11_readAllOf_0 : dd_bLs 236 cd_X11_readAllOf_0 [[], [1950, 1952, 78], [], [], [], [], [1985], [1938, 1940, 75], [], [], [1950, 1952, 78], [], [], [], [], [], [], [1959, 1961, 80], [], [], []] = true := by decide +kernel
theorem vy_X11_readAllOf : dd_okY 236 := ⟨by decide +kernel, ⟨by decide +kernel, by decide +kernel⟩, Or.inr (List.mem_filter.mpr ⟨List.mem_of_getElem? (i := 1949) (by decide +kernel), by decide +kernel⟩), List.mem_filter.mpr ⟨List.mem_of_getElem? (i := 155) (by decide +kernel), by decide +kernel⟩, by decide +kernel, trivial, by
  intro pc e h
  have h : at_X11_readAllOf pc = some e := h
  unfold at_X11_readAllOf at h
  exact dd_at_ok vb_X11_readAllOf_0 h⟩
theorem vb_X11_readCond_0 : dd_bLs 237 cd_X11_readCond_0 [[], [1946, 1948, 77], [], [], [], [], [1986], [1938, 1940, 75], [], [], [1946, 1948, 77], [], [], [], [], [], [], [1959, 1961, 80], [], [], []] = true := by decide +kernel
theorem vy_X11_readCond : dd_okY 237 := ⟨by decide +kernel, ⟨by decide +kernel, by decide +kernel⟩, Or.inr (List.mem_filter.mpr ⟨List.mem_of_getElem? (i := 1945) (by decide +kernel), by decide +kernel⟩), List.mem_filter.mpr ⟨List.mem_of_getElem? (i := 155) (by decide +kernel), by decide +kernel⟩, by decide +kernel, trivial, by
  intro pc e h
  have h : at_X11_readCond pc = some e := h
  unfold at_X11_readCond at h
  exact dd_at_ok vb_X11_readCond_0 h⟩
theorem vb_X11_readLawLine_0 : dd_bLs 238 cd_X11_readLawLine_0 [[], [], [], [], [], [], [], [1708], [], [], [1934], [1843, 1845, 57], [], [], [], [], [1935], [1843, 1845, 57], [], [], [], [], [1936], [1843, 1845, 57], [], [], [], [], [], [], [1708], [], [], [], [], [], [], [1708], [], [], [], [], [1708], [], [], [], []] = true := by decide +kernel
theorem vb_X11_readLawLine_1 : dd_bLs 238 cd_X11_readLawLine_1 [[], [], [], [], [], [1874, 1876, 63], [], [], [1708], [], [], [], [], [], [], [], [], [1708], [], [], [], [], [1723], [], [], [], [1720], [], [1937], [1938, 1940, 75], [], [], [1942, 1944, 76], [], [], [], [], [1708], [], [], [], [], [1723], [], [], []] = true := by decide +kernel
theorem vy_X11_readLawLine : dd_okY 238 := ⟨by decide +kernel, ⟨by decide +kernel, by decide +kernel⟩, Or.inr (List.mem_filter.mpr ⟨List.mem_of_getElem? (i := 1933) (by decide +kernel), by decide +kernel⟩), List.mem_filter.mpr ⟨List.mem_of_getElem? (i := 155) (by decide +kernel), by decide +kernel⟩, by decide +kernel, trivial, by
  intro pc e h
  have h : at_X11_readLawLine pc = some e := h
  unfold at_X11_readLawLine at h
  (repeat' split at h) <;> first | exact dd_at_ok vb_X11_readLawLine_0 h | exact dd_at_ok vb_X11_readLawLine_1 h⟩
theorem vb_X11_readLine_0 : dd_bLs 239 cd_X11_readLine_0 [[], [1834, 1836, 55], [], [], [], [], [], [], [], [], [], [], [1838, 1840, 56], [], [], [], [], [1930, 1932, 74], [], [], [], [], []] = true := by decide +kernel
theorem vy_X11_readLine : dd_okY 239 := ⟨by decide +kernel, ⟨by decide +kernel, by decide +kernel⟩, Or.inr (List.mem_filter.mpr ⟨List.mem_of_getElem? (i := 1833) (by decide +kernel), by decide +kernel⟩), List.mem_filter.mpr ⟨List.mem_of_getElem? (i := 155) (by decide +kernel), by decide +kernel⟩, by decide +kernel, trivial, by
  intro pc e h
  have h : at_X11_readLine pc = some e := h
  unfold at_X11_readLine at h
  exact dd_at_ok vb_X11_readLine_0 h⟩
theorem vb_X11_readAll_0 : dd_bLs 240 cd_X11_readAll_0 [[], [1818, 1820, 51], [], [], [1723], [], [1822, 1824, 52], [], [1717], [], [1718], [], [], [], [], [], [], [], [], [1830, 1832, 54], [], [], [], [], [1822, 1824, 52], [], [1717], [], [1718], [], [], [], [], [], [], [], [], [1826, 1828, 53], [], [], [], [], [], [1717], [], [], [1717], [], []] = true := by decide +kernel
theorem vy_X11_readAll : dd_okY 240 := ⟨by decide +kernel, ⟨by decide +kernel, by decide +kernel⟩, Or.inr (List.mem_filter.mpr ⟨List.mem_of_getElem? (i := 1817) (by decide +kernel), by decide +kernel⟩), List.mem_filter.mpr ⟨List.mem_of_getElem? (i := 155) (by decide +kernel), by decide +kernel⟩, by decide +kernel, trivial, by
  intro pc e h
  have h : at_X11_readAll pc = some e := h
  unfold at_X11_readAll at h
  exact dd_at_ok vb_X11_readAll_0 h⟩
theorem vb_X11_wood_0 : dd_bLs 241 cd_X11_wood_0 [[], [], [], [], [], [], [1710], [], [], [1708], [], [], [], [], [], [], [], [1814, 1816, 50], [], [], [], [], [], [1719], [], [], [1721], [], [], [], [], [], [], [], [1987, 1989, 85], [], [], [], [1708], [], []] = true := by decide +kernel
theorem vb_X11_wood_1 : dd_bLs 241 cd_X11_wood_1 [[], [], [], [], [], [], [1987, 1989, 85], [], [], [], [], [], [], [], [1708], [], [], [1710], [], [], [], [], [], [], [], [], [1708], [], [], [], [], [], [], [], [], [1714], [], [1708], [], [], []] = true := by decide +kernel
theorem vy_X11_wood : dd_okY 241 := ⟨by decide +kernel, ⟨by decide +kernel, by decide +kernel⟩, Or.inr (List.mem_filter.mpr ⟨List.mem_of_getElem? (i := 1813) (by decide +kernel), by decide +kernel⟩), List.mem_filter.mpr ⟨List.mem_of_getElem? (i := 155) (by decide +kernel), by decide +kernel⟩, by decide +kernel, trivial, by
  intro pc e h
  have h : at_X11_wood pc = some e := h
  unfold at_X11_wood at h
  (repeat' split at h) <;> first | exact dd_at_ok vb_X11_wood_0 h | exact dd_at_ok vb_X11_wood_1 h⟩
theorem vb_X11_law_0 : dd_bLs 242 cd_X11_law_0 [[], [], [1814, 1816, 50], [], [], [], [], [], [1719], [], [], [1721], [], [], [], [], [], [], [], [1987, 1989, 85], [], [], [], [], [1708], [], [], [], [], [], [], [], [], [], [1708], [], [], [], [], [1708], [], [], [], [], [], [], [], [], [1708], [], [], [], [], [], [1714], [], []] = true := by decide +kernel
theorem vy_X11_law : dd_okY 242 := ⟨by decide +kernel, ⟨by decide +kernel, by decide +kernel⟩, Or.inr (List.mem_filter.mpr ⟨List.mem_of_getElem? (i := 1994) (by decide +kernel), by decide +kernel⟩), List.mem_filter.mpr ⟨List.mem_of_getElem? (i := 155) (by decide +kernel), by decide +kernel⟩, by decide +kernel, trivial, by
  intro pc e h
  have h : at_X11_law pc = some e := h
  unfold at_X11_law at h
  exact dd_at_ok vb_X11_law_0 h⟩
theorem vb_X11_factOf_0 : dd_bLs 243 cd_X11_factOf_0 [[], [], [], [1900, 1902, 68], [], [], [], [], [], [], [], [], [1900, 1902, 68], [], [], [], [], [1900, 1902, 68], [], [], [], [], [], [], [], [], [], [], [], [2038, 2040, 95], [], [], [], [], [1900, 1902, 68], [], [], [1708], [], [], [], [], [1725], [], [], [], [], [], [], [1708], [], [], [], [], [], [], [], [], [], [], []] = true := by decide +kernel
theorem vy_X11_factOf : dd_okY 243 := ⟨by decide +kernel, ⟨by decide +kernel, by decide +kernel⟩, Or.inr (List.mem_filter.mpr ⟨List.mem_of_getElem? (i := 2037) (by decide +kernel), by decide +kernel⟩), List.mem_filter.mpr ⟨List.mem_of_getElem? (i := 155) (by decide +kernel), by decide +kernel⟩, by decide +kernel, trivial, by
  intro pc e h
  have h : at_X11_factOf pc = some e := h
  unfold at_X11_factOf at h
  exact dd_at_ok vb_X11_factOf_0 h⟩
theorem vb_X11_holdsLine_0 : dd_bLs 244 cd_X11_holdsLine_0 [[], [], [], [], [], [], [], [], [], [1708], [], [], [], [], [], [], [], [1708], [], [], [], [], [], [], [1708], [], [], [], [], [], [], [], [], [], [], [], [1724], [], [], []] = true := by decide +kernel
theorem vb_X11_holdsLine_1 : dd_bLs 244 cd_X11_holdsLine_1 [[], [1708], [], [], [], [], [], [], [], [], [], [2034, 2036, 94], [], [], [], [], [], [], [], [1724], [], [], [], [], [], [1724], [], [], [], [], [], [], [], [], [], [1724], [], [], [], []] = true := by decide +kernel
theorem vb_X11_holdsLine_2 : dd_bLs 244 cd_X11_holdsLine_2 [[], [], [1724], [], [], [], [], [], [], [], [], [], [], [], [], [], [], [], [], [], [], [], [], [], [], [], [], [], [], [], [], [], [], [], [], [], [], [], [], []] = true := by decide +kernel
theorem vb_X11_holdsLine_3 : dd_bLs 244 cd_X11_holdsLine_3 [[], [], [], [], [], [], [], [1724], [], [], [], [], [], [], [], [], [], [], [], [], [], [], [], [], [], [], [], [], [], [1724], [], [], [], [], [], [], [], []] = true := by decide +kernel
theorem vy_X11_holdsLine : dd_okY 244 := ⟨by decide +kernel, ⟨by decide +kernel, by decide +kernel⟩, Or.inr (List.mem_filter.mpr ⟨List.mem_of_getElem? (i := 2033) (by decide +kernel), by decide +kernel⟩), List.mem_filter.mpr ⟨List.mem_of_getElem? (i := 155) (by decide +kernel), by decide +kernel⟩, by decide +kernel, trivial, by
  intro pc e h
  have h : at_X11_holdsLine pc = some e := h
  unfold at_X11_holdsLine at h
  (repeat' split at h) <;> first | exact dd_at_ok vb_X11_holdsLine_0 h | exact dd_at_ok vb_X11_holdsLine_1 h | exact dd_at_ok vb_X11_holdsLine_2 h | exact dd_at_ok vb_X11_holdsLine_3 h⟩
theorem vb_X11_sumOf_0 : dd_bLs 245 cd_X11_sumOf_0 [[], [], [], [], [], [1708], [], [], [], [], [], [], [1708], [], [], [], [], [1708], [], [], [], [], [], [], [], [], [], [], [], [2030, 2032, 93], [], [], [], [1708], [], [], [], [], [], [], [], [], [], [], [], [], [], []] = true := by decide +kernel
theorem vy_X11_sumOf : dd_okY 245 := ⟨by decide +kernel, ⟨by decide +kernel, by decide +kernel⟩, Or.inr (List.mem_filter.mpr ⟨List.mem_of_getElem? (i := 2029) (by decide +kernel), by decide +kernel⟩), List.mem_filter.mpr ⟨List.mem_of_getElem? (i := 155) (by decide +kernel), by decide +kernel⟩, by decide +kernel, trivial, by
  intro pc e h
  have h : at_X11_sumOf pc = some e := h
  unfold at_X11_sumOf at h
  exact dd_at_ok vb_X11_sumOf_0 h⟩
theorem vb_X11_hearsBy_0 : dd_bLs 246 cd_X11_hearsBy_0 [[], [], [1725], [], [], [], [1900, 1902, 68], [], [], [], [2038, 2040, 95], [], [], [], [1900, 1902, 68], [], [1708], [], [], [], [], [], [], [2026, 2028, 92], [], [], [1708], [], [], [], [], [], [], [], [], [2026, 2028, 92], [], [], [], [], [], []] = true := by decide +kernel
theorem vy_X11_hearsBy : dd_okY 246 := ⟨by decide +kernel, ⟨by decide +kernel, by decide +kernel⟩, Or.inr (List.mem_filter.mpr ⟨List.mem_of_getElem? (i := 2049) (by decide +kernel), by decide +kernel⟩), List.mem_filter.mpr ⟨List.mem_of_getElem? (i := 155) (by decide +kernel), by decide +kernel⟩, by decide +kernel, trivial, by
  intro pc e h
  have h : at_X11_hearsBy pc = some e := h
  unfold at_X11_hearsBy at h
  exact dd_at_ok vb_X11_hearsBy_0 h⟩
theorem vb_X11_staysBy_0 : dd_bLs 247 cd_X11_staysBy_0 [[], [], [1725], [], [], [], [2026, 2028, 92], [], [], [], [], []] = true := by decide +kernel
theorem vy_X11_staysBy : dd_okY 247 := ⟨by decide +kernel, ⟨by decide +kernel, by decide +kernel⟩, Or.inr (List.mem_filter.mpr ⟨List.mem_of_getElem? (i := 2025) (by decide +kernel), by decide +kernel⟩), List.mem_filter.mpr ⟨List.mem_of_getElem? (i := 155) (by decide +kernel), by decide +kernel⟩, by decide +kernel, trivial, by
  intro pc e h
  have h : at_X11_staysBy pc = some e := h
  unfold at_X11_staysBy at h
  exact dd_at_ok vb_X11_staysBy_0 h⟩
theorem vb_X11_noteOf_0 : dd_bLs 248 cd_X11_noteOf_0 [[], [1708], [], [], [], [1900, 1902, 68], [], [1708], [], [], [1857, 1858], [], []] = true := by decide +kernel
theorem vy_X11_noteOf : dd_okY 248 := ⟨by decide +kernel, ⟨by decide +kernel, by decide +kernel⟩, Or.inr (List.mem_filter.mpr ⟨List.mem_of_getElem? (i := 2017) (by decide +kernel), by decide +kernel⟩), List.mem_filter.mpr ⟨List.mem_of_getElem? (i := 155) (by decide +kernel), by decide +kernel⟩, by decide +kernel, trivial, by
  intro pc e h
  have h : at_X11_noteOf pc = some e := h
  unfold at_X11_noteOf at h
  exact dd_at_ok vb_X11_noteOf_0 h⟩
theorem vb_X11_hears_0 : dd_bLs 249 cd_X11_hears_0 [[], [], [], [], [2014, 2016, 89], [2046, 2048, 96], []] = true := by decide +kernel
theorem vy_X11_hears : dd_okY 249 := ⟨by decide +kernel, ⟨by decide +kernel, by decide +kernel⟩, Or.inr (List.mem_filter.mpr ⟨List.mem_of_getElem? (i := 2113) (by decide +kernel), by decide +kernel⟩), List.mem_filter.mpr ⟨List.mem_of_getElem? (i := 155) (by decide +kernel), by decide +kernel⟩, by decide +kernel, trivial, by
  intro pc e h
  have h : at_X11_hears pc = some e := h
  unfold at_X11_hears at h
  exact dd_at_ok vb_X11_hears_0 h⟩
theorem vb_X11_stepTo_0 : dd_bLs 250 cd_X11_stepTo_0 [[], [], [], [], [], [], [], [], [], [], [], [], [], [], [], [], [], [], [], [], [], [], [], [], [], [], [], [], [], [], [], [], [], [], [], [1999, 2000], [], [], [], [], [1999, 2000], [], [], [], [], [], [], [], [1878, 1880, 64], [], [], [], [], [], [], [], [], []] = true := by decide +kernel
theorem vy_X11_stepTo : dd_okY 250 := ⟨by decide +kernel, ⟨by decide +kernel, by decide +kernel⟩, Or.inr (List.mem_filter.mpr ⟨List.mem_of_getElem? (i := 2061) (by decide +kernel), by decide +kernel⟩), List.mem_filter.mpr ⟨List.mem_of_getElem? (i := 155) (by decide +kernel), by decide +kernel⟩, by decide +kernel, trivial, by
  intro pc e h
  have h : at_X11_stepTo pc = some e := h
  unfold at_X11_stepTo at h
  exact dd_at_ok vb_X11_stepTo_0 h⟩
theorem vb_X11_stepNearer_0 : dd_bLs 251 cd_X11_stepNearer_0 [[], [1708], [], [], [], [], [], [], [], [], [], [], [1708], [], [], [], [], [], [], [], [], [], [], [], [], [], [], [], [], [], [], [], [], [2058, 2060, 99], [], [], [], []] = true := by decide +kernel
theorem vb_X11_stepNearer_1 : dd_bLs 251 cd_X11_stepNearer_1 [[], [], [], [], [], [], [], [], [2058, 2060, 99], [], [], [], [], [2045, 598, 157, 599], [], [2045, 598, 157, 599], [], [], [], [], [], [], [], [], [], [], [], [], [], [], [], [], [], [], [], [], []] = true := by decide +kernel
theorem vy_X11_stepNearer : dd_okY 251 := ⟨by decide +kernel, ⟨by decide +kernel, by decide +kernel⟩, Or.inr (List.mem_filter.mpr ⟨List.mem_of_getElem? (i := 2057) (by decide +kernel), by decide +kernel⟩), List.mem_filter.mpr ⟨List.mem_of_getElem? (i := 155) (by decide +kernel), by decide +kernel⟩, by decide +kernel, trivial, by
  intro pc e h
  have h : at_X11_stepNearer pc = some e := h
  unfold at_X11_stepNearer at h
  (repeat' split at h) <;> first | exact dd_at_ok vb_X11_stepNearer_0 h | exact dd_at_ok vb_X11_stepNearer_1 h⟩
theorem vb_X11_comesBy_0 : dd_bLs 252 cd_X11_comesBy_0 [[], [], [], [], [2054, 2056, 98], [], [], [], [], [], [], [], [2058, 2060, 99], [], [], []] = true := by decide +kernel
theorem vy_X11_comesBy : dd_okY 252 := ⟨by decide +kernel, ⟨by decide +kernel, by decide +kernel⟩, Or.inr (List.mem_filter.mpr ⟨List.mem_of_getElem? (i := 2053) (by decide +kernel), by decide +kernel⟩), List.mem_filter.mpr ⟨List.mem_of_getElem? (i := 155) (by decide +kernel), by decide +kernel⟩, by decide +kernel, trivial, by
  intro pc e h
  have h : at_X11_comesBy pc = some e := h
  unfold at_X11_comesBy at h
  exact dd_at_ok vb_X11_comesBy_0 h⟩
theorem vb_X11_isThere_0 : dd_bLs 253 cd_X11_isThere_0 [[], [1708], [], [], [1884, 1885], [], [], [], [], [1708], [], [], [], [], [1708], [], [], [1884, 1885], [], [], []] = true := by decide +kernel
theorem vy_X11_isThere : dd_okY 253 := ⟨by decide +kernel, ⟨by decide +kernel, by decide +kernel⟩, Or.inr (List.mem_filter.mpr ⟨List.mem_of_getElem? (i := 2065) (by decide +kernel), by decide +kernel⟩), List.mem_filter.mpr ⟨List.mem_of_getElem? (i := 155) (by decide +kernel), by decide +kernel⟩, by decide +kernel, trivial, by
  intro pc e h
  have h : at_X11_isThere pc = some e := h
  unfold at_X11_isThere at h
  exact dd_at_ok vb_X11_isThere_0 h⟩
theorem vb_X11_goesBy_0 : dd_bLs 254 cd_X11_goesBy_0 [[], [], [1896, 1898, 67], [], [], [], [], [2022, 2024, 91], [], [], [], [], [], [], [2046, 2048, 96], [], [], [], [], [], [], [], [], [], [1900, 1902, 68], [], [2050, 2052, 97], [2062, 2064, 100], [], []] = true := by decide +kernel
theorem vy_X11_goesBy : dd_okY 254 := ⟨by decide +kernel, ⟨by decide +kernel, by decide +kernel⟩, Or.inr (List.mem_filter.mpr ⟨List.mem_of_getElem? (i := 2021) (by decide +kernel), by decide +kernel⟩), List.mem_filter.mpr ⟨List.mem_of_getElem? (i := 155) (by decide +kernel), by decide +kernel⟩, by decide +kernel, trivial, by
  intro pc e h
  have h : at_X11_goesBy pc = some e := h
  unfold at_X11_goesBy at h
  exact dd_at_ok vb_X11_goesBy_0 h⟩
