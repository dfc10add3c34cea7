theorem vb_X11_has_0 : dd_bLs 188 cd_X11_has_0 [[], [], [], [], [], [], [], [], [], [], []] = true := by decide +kernel
theorem vy_X11_has : dd_okY 188 := ⟨by decide +kernel, ⟨by decide +kernel, by decide +kernel⟩, Or.inr (List.mem_filter.mpr ⟨List.mem_of_getElem? (i := 2353) (by decide +kernel), by decide +kernel⟩), List.mem_filter.mpr ⟨List.mem_of_getElem? (i := 155) (by decide +kernel), by decide +kernel⟩, by decide +kernel, trivial, by
  intro pc e h
  have h : at_X11_has pc = some e := h
  unfold at_X11_has at h
  exact dd_at_ok vb_X11_has_0 h⟩
theorem vb_X11_init_0 : dd_bLs 189 cd_X11_init_0 [[], [1706, 179, 180], [], [], [293], [1708], [], [], [293], [1709], [], [], [293], [1710], [], [], [293], [1711], [], [], [293], [1712], [], [], [1185], [1715], [], [], [1721], [], [], [293], [1722], [], [], [293], [1724], [], [], [293], [1726]] = true := by decide +kernel
theorem vb_X11_init_1 : dd_bLs 189 cd_X11_init_1 [[], [], [293], [1727], [], [], [293], [1729], [], [], [293], [1730], [], [], [293], [1731], [], [], [293], [1732], [], [1708], [], [], [], [], [1708], [], [], [], [], [1708], [], [], [], [], [1708], [], [], [], []] = true := by decide +kernel
theorem vy_X11_init : dd_okY 189 := ⟨by decide +kernel, ⟨by decide +kernel, by decide +kernel⟩, Or.inr (List.mem_filter.mpr ⟨List.mem_of_getElem? (i := 1705) (by decide +kernel), by decide +kernel⟩), List.mem_filter.mpr ⟨List.mem_of_getElem? (i := 155) (by decide +kernel), by decide +kernel⟩, by decide +kernel, trivial, by
  intro pc e h
  have h : at_X11_init pc = some e := h
  unfold at_X11_init at h
  (repeat' split at h) <;> first | exact dd_at_ok vb_X11_init_0 h | exact dd_at_ok vb_X11_init_1 h⟩
theorem vb_X11_image_0 : dd_bLs 190 cd_X11_image_0 [[], [], [1707], [], [], [], [], [], [], [1709], [], [], [1708], [], [], [], [], [], [], [], [1713], []] = true := by decide +kernel
theorem vy_X11_image : dd_okY 190 := ⟨by decide +kernel, ⟨by decide +kernel, by decide +kernel⟩, Or.inr (List.mem_filter.mpr ⟨List.mem_of_getElem? (i := 1789) (by decide +kernel), by decide +kernel⟩), List.mem_filter.mpr ⟨List.mem_of_getElem? (i := 155) (by decide +kernel), by decide +kernel⟩, by decide +kernel, trivial, by
  intro pc e h
  have h : at_X11_image pc = some e := h
  unfold at_X11_image at h
  exact dd_at_ok vb_X11_image_0 h⟩
theorem vb_X11_back_0 : dd_bLs 191 cd_X11_back_0 [[], [], [1707], [], [1713], [], [], [], [], [], [], [], [], [], [1708], [], [], [1709], [], [], [], [], [], [], [], [1714], [], []] = true := by decide +kernel
theorem vy_X11_back : dd_okY 191 := ⟨by decide +kernel, ⟨by decide +kernel, by decide +kernel⟩, Or.inr (List.mem_filter.mpr ⟨List.mem_of_getElem? (i := 1793) (by decide +kernel), by decide +kernel⟩), List.mem_filter.mpr ⟨List.mem_of_getElem? (i := 155) (by decide +kernel), by decide +kernel⟩, by decide +kernel, trivial, by
  intro pc e h
  have h : at_X11_back pc = some e := h
  unfold at_X11_back at h
  exact dd_at_ok vb_X11_back_0 h⟩
theorem vb_X11_remembers_0 : dd_bLs 192 cd_X11_remembers_0 [[], [1714], [], [], [], [], [], [], [], [], [1712], [], [], [1712], [], [], [], [], [], [], [], [], [], [], [1714], [], [], [1714], [], [], [], [], [], [], [1712], [], [], [1714], [], [], [], [], [], [], [1708], [], [], [], [], [], []] = true := by decide +kernel
theorem vy_X11_remembers : dd_okY 192 := ⟨by decide +kernel, ⟨by decide +kernel, by decide +kernel⟩, Or.inr (List.mem_filter.mpr ⟨List.mem_of_getElem? (i := 2005) (by decide +kernel), by decide +kernel⟩), List.mem_filter.mpr ⟨List.mem_of_getElem? (i := 155) (by decide +kernel), by decide +kernel⟩, by decide +kernel, trivial, by
  intro pc e h
  have h : at_X11_remembers pc = some e := h
  unfold at_X11_remembers at h
  exact dd_at_ok vb_X11_remembers_0 h⟩
theorem vb_X11_undo_0 : dd_bLs 193 cd_X11_undo_0 [[], [], [1707], [], [1714], [], [], [], [], [], [1714], [], [], [1714], [], [], [], [], [], [], [1708], [], [], [1712], [], [], [1714], [], [], [], [], [], [], [], [], []] = true := by decide +kernel
theorem vy_X11_undo : dd_okY 193 := ⟨by decide +kernel, ⟨by decide +kernel, by decide +kernel⟩, Or.inr (List.mem_filter.mpr ⟨List.mem_of_getElem? (i := 1797) (by decide +kernel), by decide +kernel⟩), List.mem_filter.mpr ⟨List.mem_of_getElem? (i := 155) (by decide +kernel), by decide +kernel⟩, by decide +kernel, trivial, by
  intro pc e h
  have h : at_X11_undo pc = some e := h
  unfold at_X11_undo at h
  exact dd_at_ok vb_X11_undo_0 h⟩
theorem vb_X11_parts_0 : dd_bLs 194 cd_X11_parts_0 [[], [1708], [], [], []] = true := by decide +kernel
theorem vy_X11_parts : dd_okY 194 := ⟨by decide +kernel, ⟨by decide +kernel, by decide +kernel⟩, Or.inr (List.mem_filter.mpr ⟨List.mem_of_getElem? (i := 1856) (by decide +kernel), by decide +kernel⟩), List.mem_filter.mpr ⟨List.mem_of_getElem? (i := 155) (by decide +kernel), by decide +kernel⟩, by decide +kernel, trivial, by
  intro pc e h
  have h : at_X11_parts pc = some e := h
  unfold at_X11_parts at h
  exact dd_at_ok vb_X11_parts_0 h⟩
theorem vb_X11_boys_0 : dd_bLs 195 cd_X11_boys_0 [[], [1708], [], [], []] = true := by decide +kernel
theorem vy_X11_boys : dd_okY 195 := ⟨by decide +kernel, ⟨by decide +kernel, by decide +kernel⟩, Or.inr (List.mem_filter.mpr ⟨List.mem_of_getElem? (i := 1868) (by decide +kernel), by decide +kernel⟩), List.mem_filter.mpr ⟨List.mem_of_getElem? (i := 155) (by decide +kernel), by decide +kernel⟩, by decide +kernel, trivial, by
  intro pc e h
  have h : at_X11_boys pc = some e := h
  unfold at_X11_boys at h
  exact dd_at_ok vb_X11_boys_0 h⟩
theorem vb_X11_at_0 : dd_bLs 196 cd_X11_at_0 [[], [], [], [], [], [], [], []] = true := by decide +kernel
theorem vy_X11_at : dd_okY 196 := ⟨by decide +kernel, ⟨by decide +kernel, by decide +kernel⟩, Or.inr (List.mem_filter.mpr ⟨List.mem_of_getElem? (i := 1886) (by decide +kernel), by decide +kernel⟩), List.mem_filter.mpr ⟨List.mem_of_getElem? (i := 155) (by decide +kernel), by decide +kernel⟩, by decide +kernel, trivial, by
  intro pc e h
  have h : at_X11_at pc = some e := h
  unfold at_X11_at at h
  exact dd_at_ok vb_X11_at_0 h⟩
theorem vb_X11_of_0 : dd_bLs 197 cd_X11_of_0 [[], [1708], [], [], [1884, 1885], [], []] = true := by decide +kernel
theorem vy_X11_of : dd_okY 197 := ⟨by decide +kernel, ⟨by decide +kernel, by decide +kernel⟩, Or.inr (List.mem_filter.mpr ⟨List.mem_of_getElem? (i := 1903) (by decide +kernel), by decide +kernel⟩), List.mem_filter.mpr ⟨List.mem_of_getElem? (i := 155) (by decide +kernel), by decide +kernel⟩, by decide +kernel, trivial, by
  intro pc e h
  have h : at_X11_of pc = some e := h
  unfold at_X11_of at h
  exact dd_at_ok vb_X11_of_0 h⟩
theorem vb_X11_isIn_0 : dd_bLs 198 cd_X11_isIn_0 [[], [], [], [1900, 1902, 68], [], [], [], [], [], []] = true := by decide +kernel
theorem vy_X11_isIn : dd_okY 198 := ⟨by decide +kernel, ⟨by decide +kernel, by decide +kernel⟩, Or.inr (List.mem_filter.mpr ⟨List.mem_of_getElem? (i := 1899) (by decide +kernel), by decide +kernel⟩), List.mem_filter.mpr ⟨List.mem_of_getElem? (i := 155) (by decide +kernel), by decide +kernel⟩, by decide +kernel, trivial, by
  intro pc e h
  have h : at_X11_isIn pc = some e := h
  unfold at_X11_isIn at h
  exact dd_at_ok vb_X11_isIn_0 h⟩
theorem vb_X11_hasTrees_0 : dd_bLs 199 cd_X11_hasTrees_0 [[], [1708], [], [], [], [], [], [], [], [], [], []] = true := by decide +kernel
theorem vy_X11_hasTrees : dd_okY 199 := ⟨by decide +kernel, ⟨by decide +kernel, by decide +kernel⟩, Or.inr (List.mem_filter.mpr ⟨List.mem_of_getElem? (i := 1881) (by decide +kernel), by decide +kernel⟩), List.mem_filter.mpr ⟨List.mem_of_getElem? (i := 155) (by decide +kernel), by decide +kernel⟩, by decide +kernel, trivial, by
  intro pc e h
  have h : at_X11_hasTrees pc = some e := h
  unfold at_X11_hasTrees at h
  exact dd_at_ok vb_X11_hasTrees_0 h⟩
theorem vb_X11_noteAt_0 : dd_bLs 200 cd_X11_noteAt_0 [[], [], [], [], [], [], [], []] = true := by decide +kernel
theorem vy_X11_noteAt : dd_okY 200 := ⟨by decide +kernel, ⟨by decide +kernel, by decide +kernel⟩, Or.inr (List.mem_filter.mpr ⟨List.mem_of_getElem? (i := 1859) (by decide +kernel), by decide +kernel⟩), List.mem_filter.mpr ⟨List.mem_of_getElem? (i := 155) (by decide +kernel), by decide +kernel⟩, by decide +kernel, trivial, by
  intro pc e h
  have h : at_X11_noteAt pc = some e := h
  unfold at_X11_noteAt at h
  exact dd_at_ok vb_X11_noteAt_0 h⟩
theorem vb_X11_noBoy_0 : dd_bLs 201 cd_X11_noBoy_0 [[], [], [], [1865, 1867, 61], [], [], [1999, 2000], [], [], [], [], []] = true := by decide +kernel
theorem vy_X11_noBoy : dd_okY 201 := ⟨by decide +kernel, ⟨by decide +kernel, by decide +kernel⟩, Or.inr (List.mem_filter.mpr ⟨List.mem_of_getElem? (i := 2109) (by decide +kernel), by decide +kernel⟩), List.mem_filter.mpr ⟨List.mem_of_getElem? (i := 155) (by decide +kernel), by decide +kernel⟩, by decide +kernel, trivial, by
  intro pc e h
  have h : at_X11_noBoy pc = some e := h
  unfold at_X11_noBoy at h
  exact dd_at_ok vb_X11_noBoy_0 h⟩
theorem vb_X11_noPart_0 : dd_bLs 202 cd_X11_noPart_0 [[], [], [], [1853, 1855, 59], [], [], [1999, 2000], [], [], [], [], []] = true := by decide +kernel
theorem vy_X11_noPart : dd_okY 202 := ⟨by decide +kernel, ⟨by decide +kernel, by decide +kernel⟩, Or.inr (List.mem_filter.mpr ⟨List.mem_of_getElem? (i := 2098) (by decide +kernel), by decide +kernel⟩), List.mem_filter.mpr ⟨List.mem_of_getElem? (i := 155) (by decide +kernel), by decide +kernel⟩, by decide +kernel, trivial, by
  intro pc e h
  have h : at_X11_noPart pc = some e := h
  unfold at_X11_noPart at h
  exact dd_at_ok vb_X11_noPart_0 h⟩
theorem vb_X11_noCell_0 : dd_bLs 203 cd_X11_noCell_0 [[], [], [], [1999, 2000], [], [], [], [], []] = true := by decide +kernel
theorem vy_X11_noCell : dd_okY 203 := ⟨by decide +kernel, ⟨by decide +kernel, by decide +kernel⟩, Or.inr (List.mem_filter.mpr ⟨List.mem_of_getElem? (i := 2090) (by decide +kernel), by decide +kernel⟩), List.mem_filter.mpr ⟨List.mem_of_getElem? (i := 155) (by decide +kernel), by decide +kernel⟩, by decide +kernel, trivial, by
  intro pc e h
  have h : at_X11_noCell pc = some e := h
  unfold at_X11_noCell at h
  exact dd_at_ok vb_X11_noCell_0 h⟩
theorem vb_X11_noBeat_0 : dd_bLs 204 cd_X11_noBeat_0 [[], [], [], [1999, 2000], [], [], [], [], []] = true := by decide +kernel
theorem vy_X11_noBeat : dd_okY 204 := ⟨by decide +kernel, ⟨by decide +kernel, by decide +kernel⟩, Or.inr (List.mem_filter.mpr ⟨List.mem_of_getElem? (i := 2101) (by decide +kernel), by decide +kernel⟩), List.mem_filter.mpr ⟨List.mem_of_getElem? (i := 155) (by decide +kernel), by decide +kernel⟩, by decide +kernel, trivial, by
  intro pc e h
  have h : at_X11_noBeat pc = some e := h
  unfold at_X11_noBeat at h
  exact dd_at_ok vb_X11_noBeat_0 h⟩
theorem vb_X11_drawn_0 : dd_bLs 205 cd_X11_drawn_0 [[], [1708], [], [2074], [], [1708], [], [], [], [], [], [], [], [1708], [], [], [], [], [], [], [], [], []] = true := by decide +kernel
theorem vy_X11_drawn : dd_okY 205 := ⟨by decide +kernel, ⟨by decide +kernel, by decide +kernel⟩, Or.inr (List.mem_filter.mpr ⟨List.mem_of_getElem? (i := 2073) (by decide +kernel), by decide +kernel⟩), List.mem_filter.mpr ⟨List.mem_of_getElem? (i := 155) (by decide +kernel), by decide +kernel⟩, by decide +kernel, trivial, by
  intro pc e h
  have h : at_X11_drawn pc = some e := h
  unfold at_X11_drawn at h
  exact dd_at_ok vb_X11_drawn_0 h⟩
theorem vb_X11_gapOf_0 : dd_bLs 206 cd_X11_gapOf_0 [[], [], [], [], [], [], [], [2045, 598, 157, 599], [], [], [], [], [], [], [], [2045, 598, 157, 599], [], []] = true := by decide +kernel
theorem vy_X11_gapOf : dd_okY 206 := ⟨by decide +kernel, ⟨by decide +kernel, by decide +kernel⟩, Or.inr (List.mem_filter.mpr ⟨List.mem_of_getElem? (i := 2044) (by decide +kernel), by decide +kernel⟩), List.mem_filter.mpr ⟨List.mem_of_getElem? (i := 155) (by decide +kernel), by decide +kernel⟩, by decide +kernel, trivial, by
  intro pc e h
  have h : at_X11_gapOf pc = some e := h
  unfold at_X11_gapOf at h
  exact dd_at_ok vb_X11_gapOf_0 h⟩
theorem vb_X11_nearOf_0 : dd_bLs 207 cd_X11_nearOf_0 [[], [], [1708], [], [], [2042, 2043], []] = true := by decide +kernel
theorem vy_X11_nearOf : dd_okY 207 := ⟨by decide +kernel, ⟨by decide +kernel, by decide +kernel⟩, Or.inr (List.mem_filter.mpr ⟨List.mem_of_getElem? (i := 2041) (by decide +kernel), by decide +kernel⟩), List.mem_filter.mpr ⟨List.mem_of_getElem? (i := 155) (by decide +kernel), by decide +kernel⟩, by decide +kernel, trivial, by
  intro pc e h
  have h : at_X11_nearOf pc = some e := h
  unfold at_X11_nearOf at h
  exact dd_at_ok vb_X11_nearOf_0 h⟩
theorem vb_X11_isLostIn_0 : dd_bLs 208 cd_X11_isLostIn_0 [[], [], [], [], [], [], [1865, 1867, 61], [], [], [], [], [], [1896, 1898, 67], [], [], [], [], [1900, 1902, 68], [], [], [], [], [], [], [], [], [], []] = true := by decide +kernel
theorem vy_X11_isLostIn : dd_okY 208 := ⟨by decide +kernel, ⟨by decide +kernel, by decide +kernel⟩, Or.inr (List.mem_filter.mpr ⟨List.mem_of_getElem? (i := 1895) (by decide +kernel), by decide +kernel⟩), List.mem_filter.mpr ⟨List.mem_of_getElem? (i := 155) (by decide +kernel), by decide +kernel⟩, by decide +kernel, trivial, by
  intro pc e h
  have h : at_X11_isLostIn pc = some e := h
  unfold at_X11_isLostIn at h
  exact dd_at_ok vb_X11_isLostIn_0 h⟩
theorem vb_X11_comesIn_0 : dd_bLs 209 cd_X11_comesIn_0 [[], [1708], [], [], [1884, 1885], [], [1708], [], [], [], [], [1708], [], [], [1884, 1885], [], [], []] = true := by decide +kernel
theorem vy_X11_comesIn : dd_okY 209 := ⟨by decide +kernel, ⟨by decide +kernel, by decide +kernel⟩, Or.inr (List.mem_filter.mpr ⟨List.mem_of_getElem? (i := 1925) (by decide +kernel), by decide +kernel⟩), List.mem_filter.mpr ⟨List.mem_of_getElem? (i := 155) (by decide +kernel), by decide +kernel⟩, by decide +kernel, trivial, by
  intro pc e h
  have h : at_X11_comesIn pc = some e := h
  unfold at_X11_comesIn at h
  exact dd_at_ok vb_X11_comesIn_0 h⟩
theorem vb_X11_firesAt_0 : dd_bLs 210 cd_X11_firesAt_0 [[], [1708], [], [], [], [], [], [], [], [1865, 1867, 61], [], [], [], [1896, 1898, 67], [], [], [], [], [1900, 1902, 68], [], [], [], [], [1922, 1924, 73], [], [], []] = true := by decide +kernel
theorem vy_X11_firesAt : dd_okY 210 := ⟨by decide +kernel, ⟨by decide +kernel, by decide +kernel⟩, Or.inr (List.mem_filter.mpr ⟨List.mem_of_getElem? (i := 1921) (by decide +kernel), by decide +kernel⟩), List.mem_filter.mpr ⟨List.mem_of_getElem? (i := 155) (by decide +kernel), by decide +kernel⟩, by decide +kernel, trivial, by
  intro pc e h
  have h : at_X11_firesAt pc = some e := h
  unfold at_X11_firesAt at h
  exact dd_at_ok vb_X11_firesAt_0 h⟩
theorem vb_X11_feed_0 : dd_bLs 211 cd_X11_feed_0 [[], [], [1707], [], [1716], [], [], [], [], [], [], [], [1722], [], [], [], [], [1722], [], [], [], [], [1722], [], [], [], [], [1722], [], [], [], [], [1722], [], [], [], []] = true := by decide +kernel
theorem vb_X11_feed_1 : dd_bLs 211 cd_X11_feed_1 [[], [], [], [], [], [1715], [], [1716], [], [], [], [1722], [], [], [], [], [], [], [], [], [], [], [], [], [], [], [], [], [], [], [1716], [], [], [1716], [], [1716], []] = true := by decide +kernel
theorem vy_X11_feed : dd_okY 211 := ⟨by decide +kernel, ⟨by decide +kernel, by decide +kernel⟩, Or.inr (List.mem_filter.mpr ⟨List.mem_of_getElem? (i := 1801) (by decide +kernel), by decide +kernel⟩), List.mem_filter.mpr ⟨List.mem_of_getElem? (i := 155) (by decide +kernel), by decide +kernel⟩, by decide +kernel, trivial, by
  intro pc e h
  have h : at_X11_feed pc = some e := h
  unfold at_X11_feed at h
  (repeat' split at h) <;> first | exact dd_at_ok vb_X11_feed_0 h | exact dd_at_ok vb_X11_feed_1 h⟩
theorem vb_X11_end_0 : dd_bLs 212 cd_X11_end_0 [[], [], [1707], [], [], [], [], [1716], [], [], [], [], [], [1716], [], []] = true := by decide +kernel
theorem vy_X11_end : dd_okY 212 := ⟨by decide +kernel, ⟨by decide +kernel, by decide +kernel⟩, Or.inr (List.mem_filter.mpr ⟨List.mem_of_getElem? (i := 1805) (by decide +kernel), by decide +kernel⟩), List.mem_filter.mpr ⟨List.mem_of_getElem? (i := 155) (by decide +kernel), by decide +kernel⟩, by decide +kernel, trivial, by
  intro pc e h
  have h : at_X11_end pc = some e := h
  unfold at_X11_end at h
  exact dd_at_ok vb_X11_end_0 h⟩
theorem vb_X11_isAt_0 : dd_bLs 213 cd_X11_isAt_0 [[], [1717], [], [1718], [], [], [1715], [], [1717], [], [], [], [], [1715], [], [1717], [], [], [], [], [], [], []] = true := by decide +kernel
theorem vy_X11_isAt : dd_okY 213 := ⟨by decide +kernel, ⟨by decide +kernel, by decide +kernel⟩, Or.inr (List.mem_filter.mpr ⟨List.mem_of_getElem? (i := 1829) (by decide +kernel), by decide +kernel⟩), List.mem_filter.mpr ⟨List.mem_of_getElem? (i := 155) (by decide +kernel), by decide +kernel⟩, by decide +kernel, trivial, by
  intro pc e h
  have h : at_X11_isAt pc = some e := h
  unfold at_X11_isAt at h
  exact dd_at_ok vb_X11_isAt_0 h⟩
theorem vb_X11_blanks_0 : dd_bLs 214 cd_X11_blanks_0 [[], [], [], [1826, 1828, 53], [], [], [], [1717], [], [], [1717], [], [], [], [1717], [1719], []] = true := by decide +kernel
theorem vy_X11_blanks : dd_okY 214 := ⟨by decide +kernel, ⟨by decide +kernel, by decide +kernel⟩, Or.inr (List.mem_filter.mpr ⟨List.mem_of_getElem? (i := 1825) (by decide +kernel), by decide +kernel⟩), List.mem_filter.mpr ⟨List.mem_of_getElem? (i := 155) (by decide +kernel), by decide +kernel⟩, by decide +kernel, trivial, by
  intro pc e h
  have h : at_X11_blanks pc = some e := h
  unfold at_X11_blanks at h
  exact dd_at_ok vb_X11_blanks_0 h⟩
theorem vb_X11_letters_0 : dd_bLs 215 cd_X11_letters_0 [[], [1822, 1824, 52], [], [], [], [1826, 1828, 53], [], [], [], [1717], [], [], [1717], [], []] = true := by decide +kernel
theorem vy_X11_letters : dd_okY 215 := ⟨by decide +kernel, ⟨by decide +kernel, by decide +kernel⟩, Or.inr (List.mem_filter.mpr ⟨List.mem_of_getElem? (i := 1837) (by decide +kernel), by decide +kernel⟩), List.mem_filter.mpr ⟨List.mem_of_getElem? (i := 155) (by decide +kernel), by decide +kernel⟩, by decide +kernel, trivial, by
  intro pc e h
  have h : at_X11_letters pc = some e := h
  unfold at_X11_letters at h
  exact dd_at_ok vb_X11_letters_0 h⟩
theorem vb_X11_isWord_0 : dd_bLs 216 cd_X11_isWord_0 [[], [1717], [], [1719], [], [], [1847, 878, 879], [], [], [], [], [], [], [], [], [], [], [], [1847, 878, 879], [], [], [1715], [], [1719], [], [], [], [], [], [1848, 888, 889], [], [], [], [], [], [], [], [], []] = true := by decide +kernel
theorem vy_X11_isWord : dd_okY 216 := ⟨by decide +kernel, ⟨by decide +kernel, by decide +kernel⟩, Or.inr (List.mem_filter.mpr ⟨List.mem_of_getElem? (i := 1846) (by decide +kernel), by decide +kernel⟩), List.mem_filter.mpr ⟨List.mem_of_getElem? (i := 155) (by decide +kernel), by decide +kernel⟩, by decide +kernel, trivial, by
  intro pc e h
  have h : at_X11_isWord pc = some e := h
  unfold at_X11_isWord at h
  exact dd_at_ok vb_X11_isWord_0 h⟩
theorem vb_X11_passes_0 : dd_bLs 217 cd_X11_passes_0 [[], [1834, 1836, 55], [], [], [1843, 1845, 57], [], [], [], [], [], [1719], [1717], [], []] = true := by decide +kernel
theorem vy_X11_passes : dd_okY 217 := ⟨by decide +kernel, ⟨by decide +kernel, by decide +kernel⟩, Or.inr (List.mem_filter.mpr ⟨List.mem_of_getElem? (i := 1941) (by decide +kernel), by decide +kernel⟩), List.mem_filter.mpr ⟨List.mem_of_getElem? (i := 155) (by decide +kernel), by decide +kernel⟩, by decide +kernel, trivial, by
  intro pc e h
  have h : at_X11_passes pc = some e := h
  unfold at_X11_passes at h
  exact dd_at_ok vb_X11_passes_0 h⟩
theorem vb_X11_sign_0 : dd_bLs 218 cd_X11_sign_0 [[], [1822, 1824, 52], [], [], [], [1826, 1828, 53], [], [], [], [], [], [1717], [], [], [1717], [], []] = true := by decide +kernel
theorem vy_X11_sign : dd_okY 218 := ⟨by decide +kernel, ⟨by decide +kernel, by decide +kernel⟩, Or.inr (List.mem_filter.mpr ⟨List.mem_of_getElem? (i := 1957) (by decide +kernel), by decide +kernel⟩), List.mem_filter.mpr ⟨List.mem_of_getElem? (i := 155) (by decide +kernel), by decide +kernel⟩, by decide +kernel, trivial, by
  intro pc e h
  have h : at_X11_sign pc = some e := h
  unfold at_X11_sign at h
  exact dd_at_ok vb_X11_sign_0 h⟩
theorem vb_X11_number_0 : dd_bLs 219 cd_X11_number_0 [[], [1822, 1824, 52], [], [], [], [], [], [1826, 1828, 53], [], [], [1717], [], [1719], [], [], [], [], [], [], [], [1715], [], [1717], [], [], [], [], [], [], [], [], [], [1717], [], [], [1717], [], [], [1717], [], [1719], [], [], [1717], [], [1719], [], [], [], [], [], [], [], [], [], [], [], [], []] = true := by decide +kernel
theorem vy_X11_number : dd_okY 219 := ⟨by decide +kernel, ⟨by decide +kernel, by decide +kernel⟩, Or.inr (List.mem_filter.mpr ⟨List.mem_of_getElem? (i := 1877) (by decide +kernel), by decide +kernel⟩), List.mem_filter.mpr ⟨List.mem_of_getElem? (i := 155) (by decide +kernel), by decide +kernel⟩, by decide +kernel, trivial, by
  intro pc e h
  have h : at_X11_number pc = some e := h
  unfold at_X11_number at h
  exact dd_at_ok vb_X11_number_0 h⟩
theorem vb_X11_after_0 : dd_bLs 220 cd_X11_after_0 [[], [1834, 1836, 55], [], [], [1843, 1845, 57], [], [], [], [], [1874, 1876, 63], [], [], []] = true := by decide +kernel
theorem vy_X11_after : dd_okY 220 := ⟨by decide +kernel, ⟨by decide +kernel, by decide +kernel⟩, Or.inr (List.mem_filter.mpr ⟨List.mem_of_getElem? (i := 1873) (by decide +kernel), by decide +kernel⟩), List.mem_filter.mpr ⟨List.mem_of_getElem? (i := 155) (by decide +kernel), by decide +kernel⟩, by decide +kernel, trivial, by
  intro pc e h
  have h : at_X11_after pc = some e := h
  unfold at_X11_after at h
  exact dd_at_ok vb_X11_after_0 h⟩
theorem vb_X11_fault_0 : dd_bLs 221 cd_X11_fault_0 [[], [], [1707], [], [1721], []] = true := by decide +kernel
theorem vy_X11_fault : dd_okY 221 := ⟨by decide +kernel, ⟨by decide +kernel, by decide +kernel⟩, Or.inr (List.mem_filter.mpr ⟨List.mem_of_getElem? (i := 1809) (by decide +kernel), by decide +kernel⟩), List.mem_filter.mpr ⟨List.mem_of_getElem? (i := 155) (by decide +kernel), by decide +kernel⟩, by decide +kernel, trivial, by
  intro pc e h
  have h : at_X11_fault pc = some e := h
  unfold at_X11_fault at h
  exact dd_at_ok vb_X11_fault_0 h⟩
theorem vb_X11_uses_0 : dd_bLs 222 cd_X11_uses_0 [[], [], [1707], [], [], [1716], [1718], [], [], [1716], [], [], [1717], []] = true := by decide +kernel
theorem vy_X11_uses : dd_okY 222 := ⟨by decide +kernel, ⟨by decide +kernel, by decide +kernel⟩, Or.inr (List.mem_filter.mpr ⟨List.mem_of_getElem? (i := 1821) (by decide +kernel), by decide +kernel⟩), List.mem_filter.mpr ⟨List.mem_of_getElem? (i := 155) (by decide +kernel), by decide +kernel⟩, by decide +kernel, trivial, by
  intro pc e h
  have h : at_X11_uses pc = some e := h
  unfold at_X11_uses at h
  exact dd_at_ok vb_X11_uses_0 h⟩
theorem vb_X11_readNumber_0 : dd_bLs 223 cd_X11_readNumber_0 [[], [], [], [1874, 1876, 63], [], [], [1708], [], [], [], [], [1708], [], [], [], [], [], [], [], [], [], [], []] = true := by decide +kernel
theorem vy_X11_readNumber : dd_okY 223 := ⟨by decide +kernel, ⟨by decide +kernel, by decide +kernel⟩, Or.inr (List.mem_filter.mpr ⟨List.mem_of_getElem? (i := 1912) (by decide +kernel), by decide +kernel⟩), List.mem_filter.mpr ⟨List.mem_of_getElem? (i := 155) (by decide +kernel), by decide +kernel⟩, by decide +kernel, trivial, by
  intro pc e h
  have h : at_X11_readNumber pc = some e := h
  unfold at_X11_readNumber at h
  exact dd_at_ok vb_X11_readNumber_0 h⟩
theorem vb_X11_readPartLine_0 : dd_bLs 224 cd_X11_readPartLine_0 [[], [1853, 1855, 59], [], [], [], [], [], [1822, 1824, 52], [], [], [], [], [], [], [], [1826, 1828, 53], [], [], [1715], [], [1717], [], [], [], [], [], [], [], [], [], [], [], [], [], []] = true := by decide +kernel
theorem vb_X11_readPartLine_1 : dd_bLs 224 cd_X11_readPartLine_1 [[], [], [], [1708], [], [1853, 1855, 59], [], [1857, 1858], [], [], [], [], [], [1717], [], [], [1717], [], [], [], [], [], [], [], [], [], [1708], [], [], [], [], [], [], [], []] = true := by decide +kernel
theorem vy_X11_readPartLine : dd_okY 224 := ⟨by decide +kernel, ⟨by decide +kernel, by decide +kernel⟩, Or.inr (List.mem_filter.mpr ⟨List.mem_of_getElem? (i := 1852) (by decide +kernel), by decide +kernel⟩), List.mem_filter.mpr ⟨List.mem_of_getElem? (i := 155) (by decide +kernel), by decide +kernel⟩, by decide +kernel, trivial, by
  intro pc e h
  have h : at_X11_readPartLine pc = some e := h
  unfold at_X11_readPartLine at h
  (repeat' split at h) <;> first | exact dd_at_ok vb_X11_readPartLine_0 h | exact dd_at_ok vb_X11_readPartLine_1 h⟩
theorem vb_X11_readBoy_0 : dd_bLs 225 cd_X11_readBoy_0 [[], [1865, 1867, 61], [], [], [], [], [], [], [], [1869], [], [], [1870, 1872, 62], [], [], [], [], [], [1878, 1880, 64], [], [], [], [], [1882], [], [], [1853, 1855, 59], [], [], [1870, 1872, 62], [], [], []] = true := by decide +kernel
theorem vb_X11_readBoy_1 : dd_bLs 225 cd_X11_readBoy_1 [[], [], [], [1883], [], [], [1870, 1872, 62], [], [], [], [], [], [], [1708], [], [], [1884, 1885], [], [], [], [1708], [], [], [1884, 1885], [], [], [], [1708], [], [], [1884, 1885], [], []] = true := by decide +kernel
theorem vb_X11_readBoy_2 : dd_bLs 225 cd_X11_readBoy_2 [[], [1708], [], [], [1884, 1885], [], [], [1708], [], [], [], [], [], [], [], [], [1708], [], [], [1884, 1885], [], [], [], [1708], [], [], [], [], [], [], [], []] = true := by decide +kernel
theorem vy_X11_readBoy : dd_okY 225 := ⟨by decide +kernel, ⟨by decide +kernel, by decide +kernel⟩, Or.inr (List.mem_filter.mpr ⟨List.mem_of_getElem? (i := 1864) (by decide +kernel), by decide +kernel⟩), List.mem_filter.mpr ⟨List.mem_of_getElem? (i := 155) (by decide +kernel), by decide +kernel⟩, by decide +kernel, trivial, by
  intro pc e h
  have h : at_X11_readBoy pc = some e := h
  unfold at_X11_readBoy at h
  (repeat' split at h) <;> first | exact dd_at_ok vb_X11_readBoy_0 h | exact dd_at_ok vb_X11_readBoy_1 h | exact dd_at_ok vb_X11_readBoy_2 h⟩
theorem vb_X11_readTrees_0 : dd_bLs 226 cd_X11_readTrees_0 [[], [], [], [1874, 1876, 63], [], [], [], [], [], [1708], [], [], [], [], [], [1892, 1894, 66], [], [], [], [], [1708], [], [], [], [], [], [], []] = true := by decide +kernel
theorem vy_X11_readTrees : dd_okY 226 := ⟨by decide +kernel, ⟨by decide +kernel, by decide +kernel⟩, Or.inr (List.mem_filter.mpr ⟨List.mem_of_getElem? (i := 1891) (by decide +kernel), by decide +kernel⟩), List.mem_filter.mpr ⟨List.mem_of_getElem? (i := 155) (by decide +kernel), by decide +kernel⟩, by decide +kernel, trivial, by
  intro pc e h
  have h : at_X11_readTrees pc = some e := h
  unfold at_X11_readTrees at h
  exact dd_at_ok vb_X11_readTrees_0 h⟩
theorem vb_X11_readFire_0 : dd_bLs 227 cd_X11_readFire_0 [[], [], [], [1874, 1876, 63], [], [], [], [], [], [1878, 1880, 64], [], [], [], [], [], [1918, 1920, 72], [], []] = true := by decide +kernel
theorem vy_X11_readFire : dd_okY 227 := ⟨by decide +kernel, ⟨by decide +kernel, by decide +kernel⟩, Or.inr (List.mem_filter.mpr ⟨List.mem_of_getElem? (i := 1917) (by decide +kernel), by decide +kernel⟩), List.mem_filter.mpr ⟨List.mem_of_getElem? (i := 155) (by decide +kernel), by decide +kernel⟩, by decide +kernel, trivial, by
  intro pc e h
  have h : at_X11_readFire pc = some e := h
  unfold at_X11_readFire at h
  exact dd_at_ok vb_X11_readFire_0 h⟩
theorem vb_X11_readFerns_0 : dd_bLs 228 cd_X11_readFerns_0 [[], [], [], [1874, 1876, 63], [], [], [], [], [], [], [], [], [], [1909, 1911, 70], [], [], [], [], []] = true := by decide +kernel
theorem vy_X11_readFerns : dd_okY 228 := ⟨by decide +kernel, ⟨by decide +kernel, by decide +kernel⟩, Or.inr (List.mem_filter.mpr ⟨List.mem_of_getElem? (i := 1908) (by decide +kernel), by decide +kernel⟩), List.mem_filter.mpr ⟨List.mem_of_getElem? (i := 155) (by decide +kernel), by decide +kernel⟩, by decide +kernel, trivial, by
  intro pc e h
  have h : at_X11_readFerns pc = some e := h
  unfold at_X11_readFerns at h
  exact dd_at_ok vb_X11_readFerns_0 h⟩
theorem vb_X11_readWoodLine_0 : dd_bLs 229 cd_X11_readWoodLine_0 [[], [1842], [1843, 1845, 57], [], [], [1849, 1851, 58], [], [], [1860], [1843, 1845, 57], [], [], [1861, 1863, 60], [], [], [1887], [1843, 1845, 57], [], [], [1888, 1890, 65], [], [], [1904], [1843, 1845, 57], [], [], [1905, 1907, 69], [], [], [1913], [1843, 1845, 57], [], [], [1914, 1916, 71], [], [], [1926], [1843, 1845, 57], [], []] = true := by decide +kernel
theorem vb_X11_readWoodLine_1 : dd_bLs 229 cd_X11_readWoodLine_1 [[], [], [], [1909, 1911, 70], [], [], [1927], [1843, 1845, 57], [], [], [], [], [], [1909, 1911, 70], [], [], [1928], [1843, 1845, 57], [], [], [], [], [], [1909, 1911, 70], [], [], [1929], [1843, 1845, 57], [], [], [], [], [], [1909, 1911, 70], [], [], [], [], []] = true := by decide +kernel
theorem vy_X11_readWoodLine : dd_okY 229 := ⟨by decide +kernel, ⟨by decide +kernel, by decide +kernel⟩, Or.inr (List.mem_filter.mpr ⟨List.mem_of_getElem? (i := 1841) (by decide +kernel), by decide +kernel⟩), List.mem_filter.mpr ⟨List.mem_of_getElem? (i := 155) (by decide +kernel), by decide +kernel⟩, by decide +kernel, trivial, by
  intro pc e h
  have h : at_X11_readWoodLine pc = some e := h
  unfold at_X11_readWoodLine at h
  (repeat' split at h) <;> first | exact dd_at_ok vb_X11_readWoodLine_0 h | exact dd_at_ok vb_X11_readWoodLine_1 h⟩
theorem vb_X11_emits_0 : dd_bLs 230 cd_X11_emits_0 [[], [1708], [], [], [], [1723], [], [], [], [], [], [1708], [], [], [], [1723], [], [], [], [], [], [], [], [], [1723], [], [], [1723], []] = true := by decide +kernel
theorem vy_X11_emits : dd_okY 230 := ⟨by decide +kernel, ⟨by decide +kernel, by decide +kernel⟩, Or.inr (List.mem_filter.mpr ⟨List.mem_of_getElem? (i := 1962) (by decide +kernel), by decide +kernel⟩), List.mem_filter.mpr ⟨List.mem_of_getElem? (i := 155) (by decide +kernel), by decide +kernel⟩, by decide +kernel, trivial, by
  intro pc e h
  have h : at_X11_emits pc = some e := h
  unfold at_X11_emits at h
  exact dd_at_ok vb_X11_emits_0 h⟩
