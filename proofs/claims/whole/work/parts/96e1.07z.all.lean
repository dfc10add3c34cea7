theorem vz_0 {x : Nat} (h1 : 0 ≤ x) (h2 : x < 20) : dd_okY x := by
  rcases (by omega : x = 0 ∨ x = 1 ∨ x = 2 ∨ x = 3 ∨ x = 4 ∨ x = 5 ∨ x = 6 ∨ x = 7 ∨ x = 8 ∨ x = 9 ∨ x = 10 ∨ x = 11 ∨ x = 12 ∨ x = 13 ∨ x = 14 ∨ x = 15 ∨ x = 16 ∨ x = 17 ∨ x = 18 ∨ x = 19) with rfl | rfl | rfl | rfl | rfl | rfl | rfl | rfl | rfl | rfl | rfl | rfl | rfl | rfl | rfl | rfl | rfl | rfl | rfl | rfl
  · exact vy_X0_init
  · exact vy_X0_remember
  · exact vy_X0_takeBack
  · exact vy_X0_forget
  · exact vy_X1_init
  · exact vy_X1_thinkFor
  · exact vy_X1_leads
  · exact vy_X1_oneBeatOn
  · exact vy_X1_fewest
  · exact vy_X1_leastFirst
  · exact vy_X1_ledTo
  · exact vy_X1_reachedIn
  · exact vy_X2_init
  · exact vy_X2_clear
  · exact vy_X2_copyFrom
  · exact vy_X2_add
  · exact vy_X2_weigh
  · exact vy_X3_init
  · exact vy_X3_readLine
  · exact vy_X3_readCondition
theorem vz_20 {x : Nat} (h1 : 20 ≤ x) (h2 : x < 40) : dd_okY x := by
  rcases (by omega : x = 20 ∨ x = 21 ∨ x = 22 ∨ x = 23 ∨ x = 24 ∨ x = 25 ∨ x = 26 ∨ x = 27 ∨ x = 28 ∨ x = 29 ∨ x = 30 ∨ x = 31 ∨ x = 32 ∨ x = 33 ∨ x = 34 ∨ x = 35 ∨ x = 36 ∨ x = 37 ∨ x = 38 ∨ x = 39) with rfl | rfl | rfl | rfl | rfl | rfl | rfl | rfl | rfl | rfl | rfl | rfl | rfl | rfl | rfl | rfl | rfl | rfl | rfl | rfl
  · exact vy_X3_open
  · exact vy_X3_putUp
  · exact vy_X3_isTop
  · exact vy_X3_join
  · exact vy_X3_addJoins
  · exact vy_X3_addNots
  · exact vy_X3_close
  · exact vy_X3_readAtom
  · exact vy_X3_readSum
  · exact vy_X4_init
  · exact vy_X4_readLines
  · exact vy_X4_advance
  · exact vy_X4_kindAt
  · exact vy_X4_refuse
  · exact vy_X4_isWord
  · exact vy_X4_isSign
  · exact vy_X4_isNumber
  · exact vy_X4_takeWord
  · exact vy_X4_takeSign
  · exact vy_X4_numberUpTo
theorem vz_40 {x : Nat} (h1 : 40 ≤ x) (h2 : x < 60) : dd_okY x := by
  rcases (by omega : x = 40 ∨ x = 41 ∨ x = 42 ∨ x = 43 ∨ x = 44 ∨ x = 45 ∨ x = 46 ∨ x = 47 ∨ x = 48 ∨ x = 49 ∨ x = 50 ∨ x = 51 ∨ x = 52 ∨ x = 53 ∨ x = 54 ∨ x = 55 ∨ x = 56 ∨ x = 57 ∨ x = 58 ∨ x = 59) with rfl | rfl | rfl | rfl | rfl | rfl | rfl | rfl | rfl | rfl | rfl | rfl | rfl | rfl | rfl | rfl | rfl | rfl | rfl | rfl
  · exact vy_X4_takeNumber
  · exact vy_X4_copyFigures
  · exact vy_X5_init
  · exact vy_X5_hearAll
  · exact vy_X5_fits
  · exact vy_X5_leastCell
  · exact vy_X5_cellCount
  · exact vy_X5_bestBeat
  · exact vy_X5_leastGreatest
  · exact vy_X6_init
  · exact vy_X6_follow
  · exact vy_X6_become
  · exact vy_X6_takePart
  · exact vy_X6_standAt
  · exact vy_X6_noteNow
  · exact vy_X6_hearsNow
  · exact vy_X6_hears
  · exact vy_X6_isLedBy
  · exact vy_X6_goesTo
  · exact vy_X6_beatAhead
theorem vz_60 {x : Nat} (h1 : 60 ≤ x) (h2 : x < 80) : dd_okY x := by
  rcases (by omega : x = 60 ∨ x = 61 ∨ x = 62 ∨ x = 63 ∨ x = 64 ∨ x = 65 ∨ x = 66 ∨ x = 67 ∨ x = 68 ∨ x = 69 ∨ x = 70 ∨ x = 71 ∨ x = 72 ∨ x = 73 ∨ x = 74 ∨ x = 75 ∨ x = 76 ∨ x = 77 ∨ x = 78 ∨ x = 79) with rfl | rfl | rfl | rfl | rfl | rfl | rfl | rfl | rfl | rfl | rfl | rfl | rfl | rfl | rfl | rfl | rfl | rfl | rfl | rfl
  · exact vy_X6_comesIn
  · exact vy_X6_beatNow
  · exact vy_X7_init
  · exact vy_X7_beside
  · exact vy_X7_reached
  · exact vy_X7_stepsBetween
  · exact vy_X7_addSteps
  · exact vy_X7_leastTogether
  · exact vy_X7_pieces
  · exact vy_X7_partingCells
  · exact vy_X7_lostCells
  · exact vy_X8_init
  · exact vy_X8_copyFrom
  · exact vy_X8_apart
  · exact vy_X8_nearOf
  · exact vy_X8_isOpen
  · exact vy_X8_isIn
  · exact vy_X8_lostBoys
  · exact vy_X8_isLostAt
  · exact vy_X8_canPlant
theorem vz_80 {x : Nat} (h1 : 80 ≤ x) (h2 : x < 100) : dd_okY x := by
  rcases (by omega : x = 80 ∨ x = 81 ∨ x = 82 ∨ x = 83 ∨ x = 84 ∨ x = 85 ∨ x = 86 ∨ x = 87 ∨ x = 88 ∨ x = 89 ∨ x = 90 ∨ x = 91 ∨ x = 92 ∨ x = 93 ∨ x = 94 ∨ x = 95 ∨ x = 96 ∨ x = 97 ∨ x = 98 ∨ x = 99) with rfl | rfl | rfl | rfl | rfl | rfl | rfl | rfl | rfl | rfl | rfl | rfl | rfl | rfl | rfl | rfl | rfl | rfl | rfl | rfl
  · exact vy_X8_stepTo
  · exact vy_X8_stepNearer
  · exact vy_X8_putBoy
  · exact vy_X8_putFire
  · exact vy_X8_takeDraw
  · exact vy_X8_endBeat
  · exact vy_X8_writeRow
  · exact vy_X8_rowOf
  · exact vy_X8_badOfAll
  · exact vy_X8_fernsOfAll
  · exact vy_X8_silencesOf
  · exact vy_X8_isShifted
  · exact vy_X8_tellsApart
  · exact vy_X8_areAlike
  · exact vy_X9_init
  · exact vy_X9_readLine
  · exact vy_X9_readPart
  · exact vy_X9_readBoy
  · exact vy_X9_takeOpenCell
  · exact vy_X9_readTrees
theorem vz_100 {x : Nat} (h1 : 100 ≤ x) (h2 : x < 120) : dd_okY x := by
  rcases (by omega : x = 100 ∨ x = 101 ∨ x = 102 ∨ x = 103 ∨ x = 104 ∨ x = 105 ∨ x = 106 ∨ x = 107 ∨ x = 108 ∨ x = 109 ∨ x = 110 ∨ x = 111 ∨ x = 112 ∨ x = 113 ∨ x = 114 ∨ x = 115 ∨ x = 116 ∨ x = 117 ∨ x = 118 ∨ x = 119) with rfl | rfl | rfl | rfl | rfl | rfl | rfl | rfl | rfl | rfl | rfl | rfl | rfl | rfl | rfl | rfl | rfl | rfl | rfl | rfl
  · exact vy_X9_readFerns
  · exact vy_X9_readFire
  · exact vy_X9_readSetting
  · exact vy_X10_init
  · exact vy_X10_feed
  · exact vy_X10_putBytes
  · exact vy_X10_end
  · exact vy_X10_useTapeUp
  · exact vy_X10_wood
  · exact vy_X10_law
  · exact vy_X10_fault
  · exact vy_X10_requireCell
  · exact vy_X10_requirePart
  · exact vy_X10_requireBoy
  · exact vy_X10_requireBeat
  · exact vy_X10_requireNumber
  · exact vy_X10_requireTwo
  · exact vy_X10_cell
  · exact vy_X10_note
  · exact vy_X10_boy
theorem vz_120 {x : Nat} (h1 : 120 ≤ x) (h2 : x < 140) : dd_okY x := by
  rcases (by omega : x = 120 ∨ x = 121 ∨ x = 122 ∨ x = 123 ∨ x = 124 ∨ x = 125 ∨ x = 126 ∨ x = 127 ∨ x = 128 ∨ x = 129 ∨ x = 130 ∨ x = 131 ∨ x = 132 ∨ x = 133 ∨ x = 134 ∨ x = 135 ∨ x = 136 ∨ x = 137 ∨ x = 138 ∨ x = 139) with rfl | rfl | rfl | rfl | rfl | rfl | rfl | rfl | rfl | rfl | rfl | rfl | rfl | rfl | rfl | rfl | rfl | rfl | rfl | rfl
  · exact vy_X10_hearsNow
  · exact vy_X10_shareOf
  · exact vy_X10_count
  · exact vy_X10_sing
  · exact vy_X10_beatOn
  · exact vy_X10_fire
  · exact vy_X10_plant
  · exact vy_X10_part
  · exact vy_X10_tune
  · exact vy_X10_call
  · exact vy_X10_send
  · exact vy_X10_loud
  · exact vy_X10_path
  · exact vy_X10_soon
  · exact vy_X10_by
  · exact vy_X10_soonBy
  · exact vy_X10_best
  · exact vy_X10_all
  · exact vy_X10_allInWith
  · exact vy_X10_should
theorem vz_140 {x : Nat} (h1 : 140 ≤ x) (h2 : x < 160) : dd_okY x := by
  rcases (by omega : x = 140 ∨ x = 141 ∨ x = 142 ∨ x = 143 ∨ x = 144 ∨ x = 145 ∨ x = 146 ∨ x = 147 ∨ x = 148 ∨ x = 149 ∨ x = 150 ∨ x = 151 ∨ x = 152 ∨ x = 153 ∨ x = 154 ∨ x = 155 ∨ x = 156 ∨ x = 157 ∨ x = 158 ∨ x = 159) with rfl | rfl | rfl | rfl | rfl | rfl | rfl | rfl | rfl | rfl | rfl | rfl | rfl | rfl | rfl | rfl | rfl | rfl | rfl | rfl
  · exact vy_X10_calls
  · exact vy_X10_first
  · exact vy_X10_can
  · exact vy_X10_lost
  · exact vy_X10_sounds
  · exact vy_X10_listen
  · exact vy_X10_hearTold
  · exact vy_X10_ears
  · exact vy_X10_tellsEars
  · exact vy_X10_earFits
  · exact vy_X10_code
  · exact vy_X10_shifted
  · exact vy_X10_silence
  · exact vy_X10_hush
  · exact vy_X10_quiet
  · exact vy_X10_mends
  · exact vy_X10_meet
  · exact vy_X10_sooner
  · exact vy_X10_loudest
  · exact vy_X10_watch
theorem vz_160 {x : Nat} (h1 : 160 ≤ x) (h2 : x < 180) : dd_okY x := by
  rcases (by omega : x = 160 ∨ x = 161 ∨ x = 162 ∨ x = 163 ∨ x = 164 ∨ x = 165 ∨ x = 166 ∨ x = 167 ∨ x = 168 ∨ x = 169 ∨ x = 170 ∨ x = 171 ∨ x = 172 ∨ x = 173 ∨ x = 174 ∨ x = 175 ∨ x = 176 ∨ x = 177 ∨ x = 178 ∨ x = 179) with rfl | rfl | rfl | rfl | rfl | rfl | rfl | rfl | rfl | rfl | rfl | rfl | rfl | rfl | rfl | rfl | rfl | rfl | rfl | rfl
  · exact vy_X10_allWatched
  · exact vy_X10_isWatched
  · exact vy_X10_clearings
  · exact vy_X10_splits
  · exact vy_X10_rests
  · exact vy_X10_hisGain
  · exact vy_X10_theirGain
  · exact vy_X10_hearing
  · exact vy_X10_dense
  · exact vy_X10_ferny
  · exact vy_X10_out
  · exact vy_X10_far
  · exact vy_X10_worst
  · exact vy_X10_odds
  · exact vy_X10_twins
  · exact vy_X10_ahead
  · exact vy_X10_cellAhead
  · exact vy_X10_trial
  · exact vy_X10_span
  · exact vy_X10_led
theorem vz_180 {x : Nat} (h1 : 180 ≤ x) (h2 : x < 200) : dd_okY x := by
  rcases (by omega : x = 180 ∨ x = 181 ∨ x = 182 ∨ x = 183 ∨ x = 184 ∨ x = 185 ∨ x = 186 ∨ x = 187 ∨ x = 188 ∨ x = 189 ∨ x = 190 ∨ x = 191 ∨ x = 192 ∨ x = 193 ∨ x = 194 ∨ x = 195 ∨ x = 196 ∨ x = 197 ∨ x = 198 ∨ x = 199) with rfl | rfl | rfl | rfl | rfl | rfl | rfl | rfl | rfl | rfl | rfl | rfl | rfl | rfl | rfl | rfl | rfl | rfl | rfl | rfl
  · exact vy_X10_log
  · exact vy_X10_seed
  · exact vy_X10_undo
  · exact vy_X10_image
  · exact vy_X10_back
  · exact vy_X11_thrown
  · exact vy_X11_throwsIf
  · exact vy_X11_in
  · exact vy_X11_has
  · exact vy_X11_init
  · exact vy_X11_image
  · exact vy_X11_back
  · exact vy_X11_remembers
  · exact vy_X11_undo
  · exact vy_X11_parts
  · exact vy_X11_boys
  · exact vy_X11_at
  · exact vy_X11_of
  · exact vy_X11_isIn
  · exact vy_X11_hasTrees
theorem vz_200 {x : Nat} (h1 : 200 ≤ x) (h2 : x < 220) : dd_okY x := by
  rcases (by omega : x = 200 ∨ x = 201 ∨ x = 202 ∨ x = 203 ∨ x = 204 ∨ x = 205 ∨ x = 206 ∨ x = 207 ∨ x = 208 ∨ x = 209 ∨ x = 210 ∨ x = 211 ∨ x = 212 ∨ x = 213 ∨ x = 214 ∨ x = 215 ∨ x = 216 ∨ x = 217 ∨ x = 218 ∨ x = 219) with rfl | rfl | rfl | rfl | rfl | rfl | rfl | rfl | rfl | rfl | rfl | rfl | rfl | rfl | rfl | rfl | rfl | rfl | rfl | rfl
  · exact vy_X11_noteAt
  · exact vy_X11_noBoy
  · exact vy_X11_noPart
  · exact vy_X11_noCell
  · exact vy_X11_noBeat
  · exact vy_X11_drawn
  · exact vy_X11_gapOf
  · exact vy_X11_nearOf
  · exact vy_X11_isLostIn
  · exact vy_X11_comesIn
  · exact vy_X11_firesAt
  · exact vy_X11_feed
  · exact vy_X11_end
  · exact vy_X11_isAt
  · exact vy_X11_blanks
  · exact vy_X11_letters
  · exact vy_X11_isWord
  · exact vy_X11_passes
  · exact vy_X11_sign
  · exact vy_X11_number
theorem vz_220 {x : Nat} (h1 : 220 ≤ x) (h2 : x < 240) : dd_okY x := by
  rcases (by omega : x = 220 ∨ x = 221 ∨ x = 222 ∨ x = 223 ∨ x = 224 ∨ x = 225 ∨ x = 226 ∨ x = 227 ∨ x = 228 ∨ x = 229 ∨ x = 230 ∨ x = 231 ∨ x = 232 ∨ x = 233 ∨ x = 234 ∨ x = 235 ∨ x = 236 ∨ x = 237 ∨ x = 238 ∨ x = 239) with rfl | rfl | rfl | rfl | rfl | rfl | rfl | rfl | rfl | rfl | rfl | rfl | rfl | rfl | rfl | rfl | rfl | rfl | rfl | rfl
  · exact vy_X11_after
  · exact vy_X11_fault
  · exact vy_X11_uses
  · exact vy_X11_readNumber
  · exact vy_X11_readPartLine
  · exact vy_X11_readBoy
  · exact vy_X11_readTrees
  · exact vy_X11_readFire
  · exact vy_X11_readFerns
  · exact vy_X11_readWoodLine
  · exact vy_X11_emits
  · exact vy_X11_wordOfPart
  · exact vy_X11_readPart
  · exact vy_X11_readSum
  · exact vy_X11_readTag
  · exact vy_X11_readAtom
  · exact vy_X11_readAllOf
  · exact vy_X11_readCond
  · exact vy_X11_readLawLine
  · exact vy_X11_readLine
theorem vz_240 {x : Nat} (h1 : 240 ≤ x) (h2 : x < 260) : dd_okY x := by
  rcases (by omega : x = 240 ∨ x = 241 ∨ x = 242 ∨ x = 243 ∨ x = 244 ∨ x = 245 ∨ x = 246 ∨ x = 247 ∨ x = 248 ∨ x = 249 ∨ x = 250 ∨ x = 251 ∨ x = 252 ∨ x = 253 ∨ x = 254 ∨ x = 255 ∨ x = 256 ∨ x = 257 ∨ x = 258 ∨ x = 259) with rfl | rfl | rfl | rfl | rfl | rfl | rfl | rfl | rfl | rfl | rfl | rfl | rfl | rfl | rfl | rfl | rfl | rfl | rfl | rfl
  · exact vy_X11_readAll
  · exact vy_X11_wood
  · exact vy_X11_law
  · exact vy_X11_factOf
  · exact vy_X11_holdsLine
  · exact vy_X11_sumOf
  · exact vy_X11_hearsBy
  · exact vy_X11_staysBy
  · exact vy_X11_noteOf
  · exact vy_X11_hears
  · exact vy_X11_stepTo
  · exact vy_X11_stepNearer
  · exact vy_X11_comesBy
  · exact vy_X11_isThere
  · exact vy_X11_goesBy
  · exact vy_X11_tells
  · exact vy_X11_strays
  · exact vy_X11_beatEnds
  · exact vy_X11_oneBeat
  · exact vy_X11_goesOn
theorem vz_260 {x : Nat} (h1 : 260 ≤ x) (h2 : x < 280) : dd_okY x := by
  rcases (by omega : x = 260 ∨ x = 261 ∨ x = 262 ∨ x = 263 ∨ x = 264 ∨ x = 265 ∨ x = 266 ∨ x = 267 ∨ x = 268 ∨ x = 269 ∨ x = 270 ∨ x = 271 ∨ x = 272 ∨ x = 273 ∨ x = 274 ∨ x = 275 ∨ x = 276 ∨ x = 277 ∨ x = 278 ∨ x = 279) with rfl | rfl | rfl | rfl | rfl | rfl | rfl | rfl | rfl | rfl | rfl | rfl | rfl | rfl | rfl | rfl | rfl | rfl | rfl | rfl
  · exact vy_X11_keepsAll
  · exact vy_X11_bringsBack
  · exact vy_X11_sing
  · exact vy_X11_cell
  · exact vy_X11_note
  · exact vy_X11_aheadOf
  · exact vy_X11_badOfAll
  · exact vy_X11_shareOf
  · exact vy_X11_boy
  · exact vy_X11_fire
  · exact vy_X11_plant
  · exact vy_X11_isNow
  · exact vy_X11_part
  · exact vy_X11_tune
  · exact vy_X11_call
  · exact vy_X11_send
  · exact vy_X11_loud
  · exact vy_X11_looksAround
  · exact vy_X11_path
  · exact vy_X11_pathsTo
theorem vz_280 {x : Nat} (h1 : 280 ≤ x) (h2 : x < 300) : dd_okY x := by
  rcases (by omega : x = 280 ∨ x = 281 ∨ x = 282 ∨ x = 283 ∨ x = 284 ∨ x = 285 ∨ x = 286 ∨ x = 287 ∨ x = 288 ∨ x = 289 ∨ x = 290 ∨ x = 291 ∨ x = 292 ∨ x = 293 ∨ x = 294 ∨ x = 295 ∨ x = 296 ∨ x = 297 ∨ x = 298 ∨ x = 299) with rfl | rfl | rfl | rfl | rfl | rfl | rfl | rfl | rfl | rfl | rfl | rfl | rfl | rfl | rfl | rfl | rfl | rfl | rfl | rfl
  · exact vy_X11_outOnes
  · exact vy_X11_should
  · exact vy_X11_clearings
  · exact vy_X11_withPath
  · exact vy_X11_splits
  · exact vy_X11_noAhead
  · exact vy_X11_soonFor
  · exact vy_X11_orNone
  · exact vy_X11_soonOf
  · exact vy_X11_soonBy
  · exact vy_X11_soon
  · exact vy_X11_by
  · exact vy_X11_best
  · exact vy_X11_allBoys
  · exact vy_X11_all
  · exact vy_X11_ahead
  · exact vy_X11_mends
  · exact vy_X11_meet
  · exact vy_X11_sooner
  · exact vy_X11_loudest
theorem vz_300 {x : Nat} (h1 : 300 ≤ x) (h2 : x < 320) : dd_okY x := by
  rcases (by omega : x = 300 ∨ x = 301 ∨ x = 302 ∨ x = 303 ∨ x = 304 ∨ x = 305 ∨ x = 306 ∨ x = 307 ∨ x = 308 ∨ x = 309 ∨ x = 310 ∨ x = 311 ∨ x = 312 ∨ x = 313 ∨ x = 314 ∨ x = 315 ∨ x = 316 ∨ x = 317 ∨ x = 318 ∨ x = 319) with rfl | rfl | rfl | rfl | rfl | rfl | rfl | rfl | rfl | rfl | rfl | rfl | rfl | rfl | rfl | rfl | rfl | rfl | rfl | rfl
  · exact vy_X11_anyNote
  · exact vy_X11_startsAt
  · exact vy_X11_called
  · exact vy_X11_calls
  · exact vy_X11_first
  · exact vy_X11_can
  · exact vy_X11_thinksOf
  · exact vy_X11_beatFor
  · exact vy_X11_latestFrom
  · exact vy_X11_lost
  · exact vy_X11_laysNears
  · exact vy_X11_isSounding
  · exact vy_X11_fits
  · exact vy_X11_sounds
  · exact vy_X11_partBy
  · exact vy_X11_listen
  · exact vy_X11_isHeardTape
  · exact vy_X11_wouldHear
  · exact vy_X11_ears
  · exact vy_X11_unlikeBy
theorem vz_320 {x : Nat} (h1 : 320 ≤ x) (h2 : x < 340) : dd_okY x := by
  rcases (by omega : x = 320 ∨ x = 321 ∨ x = 322 ∨ x = 323 ∨ x = 324 ∨ x = 325 ∨ x = 326 ∨ x = 327 ∨ x = 328 ∨ x = 329 ∨ x = 330 ∨ x = 331 ∨ x = 332 ∨ x = 333 ∨ x = 334 ∨ x = 335 ∨ x = 336 ∨ x = 337 ∨ x = 338 ∨ x = 339) with rfl | rfl | rfl | rfl | rfl | rfl | rfl | rfl | rfl | rfl | rfl | rfl | rfl | rfl | rfl | rfl | rfl | rfl | rfl | rfl
  · exact vy_X11_allUnlike
  · exact vy_X11_code
  · exact vy_X11_isShifted
  · exact vy_X11_shifted
  · exact vy_X11_silenceOf
  · exact vy_X11_silence
  · exact vy_X11_hush
  · exact vy_X11_quiet
  · exact vy_X11_allWatched
  · exact vy_X11_watch
  · exact vy_X11_boyHas
  · exact vy_X11_theyHave
  · exact vy_X11_rests
  · exact vy_X11_hearing
  · exact vy_X11_sumOfCells
  · exact vy_X11_dense
  · exact vy_X11_ferny
  · exact vy_X11_out
  · exact vy_X11_far
  · exact vy_X11_worst
theorem vz_340 {x : Nat} (h1 : 340 ≤ x) (h2 : x < 360) : dd_okY x := by
  rcases (by omega : x = 340 ∨ x = 341 ∨ x = 342 ∨ x = 343 ∨ x = 344 ∨ x = 345 ∨ x = 346 ∨ x = 347 ∨ x = 348 ∨ x = 349 ∨ x = 350 ∨ x = 351 ∨ x = 352 ∨ x = 353 ∨ x = 354 ∨ x = 355 ∨ x = 356 ∨ x = 357 ∨ x = 358 ∨ x = 359) with rfl | rfl | rfl | rfl | rfl | rfl | rfl | rfl | rfl | rfl | rfl | rfl | rfl | rfl | rfl | rfl | rfl | rfl | rfl | rfl
  · exact vy_X11_odds
  · exact vy_X11_twins
  · exact vy_X11_inOnes
  · exact vy_X11_trial
  · exact vy_X11_span
  · exact vy_X11_ofLog
  · exact vy_X11_led
  · exact vy_X11_log
  · exact vy_X11_seed
  · exact vy_X11_count
  · exact vy_J6_numberOfTrailingZeros_0f7a4
  · exact vy_J6_bitCount_0f7a4
  · exact vy_J13_bitCount_95d88
  · exact vy_J0_length_8abf5
  · exact vy_J0_charAt_5068e
  · exact vy_J0_coder_7d493
  · exact vy_J0_isLatin1_aae02
  · exact vy_J1_charAt_3b067
  · exact vy_J7_fill_53178
  · exact vy_L_wood
theorem vz_360 {x : Nat} (h1 : 360 ≤ x) (h2 : x < 380) : dd_okY x := by
  rcases (by omega : x = 360 ∨ x = 361 ∨ x = 362 ∨ x = 363 ∨ x = 364 ∨ x = 365 ∨ x = 366 ∨ x = 367 ∨ x = 368 ∨ x = 369 ∨ x = 370 ∨ x = 371 ∨ x = 372 ∨ x = 373 ∨ x = 374 ∨ x = 375 ∨ x = 376 ∨ x = 377 ∨ x = 378 ∨ x = 379) with rfl | rfl | rfl | rfl | rfl | rfl | rfl | rfl | rfl | rfl | rfl | rfl | rfl | rfl | rfl | rfl | rfl | rfl | rfl | rfl
  · exact vy_L_law
  · exact vy_L_cell
  · exact vy_L_note
  · exact vy_L_boy
  · exact vy_L_sing
  · exact vy_L_fire
  · exact vy_L_plant
  · exact vy_L_part
  · exact vy_L_tune
  · exact vy_L_call
  · exact vy_L_send
  · exact vy_L_loud
  · exact vy_L_path
  · exact vy_L_soon
  · exact vy_L_by
  · exact vy_L_best
  · exact vy_L_calls
  · exact vy_L_first
  · exact vy_L_can
  · exact vy_L_lost
theorem vz_380 {x : Nat} (h1 : 380 ≤ x) (h2 : x < 396) : dd_okY x := by
  rcases (by omega : x = 380 ∨ x = 381 ∨ x = 382 ∨ x = 383 ∨ x = 384 ∨ x = 385 ∨ x = 386 ∨ x = 387 ∨ x = 388 ∨ x = 389 ∨ x = 390 ∨ x = 391 ∨ x = 392 ∨ x = 393 ∨ x = 394 ∨ x = 395) with rfl | rfl | rfl | rfl | rfl | rfl | rfl | rfl | rfl | rfl | rfl | rfl | rfl | rfl | rfl | rfl
  · exact vy_L_sounds
  · exact vy_L_listen
  · exact vy_L_ears
  · exact vy_L_shifted
  · exact vy_L_silence
  · exact vy_L_hush
  · exact vy_L_mends
  · exact vy_L_meet
  · exact vy_L_rests
  · exact vy_L_odds
  · exact vy_L_ahead
  · exact vy_L_trial
  · exact vy_L_span
  · exact vy_L_led
  · exact vy_L_log
  · exact vy_L_law_
theorem dd_all : ∀ x, x < dd_NM → dd_okY x := by
  intro x hx
  have hx : x < 396 := hx
  rcases Nat.lt_or_ge x 20 with h | h
  · exact vz_0 (by omega) h
  rcases Nat.lt_or_ge x 40 with h | h
  · exact vz_20 (by omega) h
  rcases Nat.lt_or_ge x 60 with h | h
  · exact vz_40 (by omega) h
  rcases Nat.lt_or_ge x 80 with h | h
  · exact vz_60 (by omega) h
  rcases Nat.lt_or_ge x 100 with h | h
  · exact vz_80 (by omega) h
  rcases Nat.lt_or_ge x 120 with h | h
  · exact vz_100 (by omega) h
  rcases Nat.lt_or_ge x 140 with h | h
  · exact vz_120 (by omega) h
  rcases Nat.lt_or_ge x 160 with h | h
  · exact vz_140 (by omega) h
  rcases Nat.lt_or_ge x 180 with h | h
  · exact vz_160 (by omega) h
  rcases Nat.lt_or_ge x 200 with h | h
  · exact vz_180 (by omega) h
  rcases Nat.lt_or_ge x 220 with h | h
  · exact vz_200 (by omega) h
  rcases Nat.lt_or_ge x 240 with h | h
  · exact vz_220 (by omega) h
  rcases Nat.lt_or_ge x 260 with h | h
  · exact vz_240 (by omega) h
  rcases Nat.lt_or_ge x 280 with h | h
  · exact vz_260 (by omega) h
  rcases Nat.lt_or_ge x 300 with h | h
  · exact vz_280 (by omega) h
  rcases Nat.lt_or_ge x 320 with h | h
  · exact vz_300 (by omega) h
  rcases Nat.lt_or_ge x 340 with h | h
  · exact vz_320 (by omega) h
  rcases Nat.lt_or_ge x 360 with h | h
  · exact vz_340 (by omega) h
  rcases Nat.lt_or_ge x 380 with h | h
  · exact vz_360 (by omega) h
  rcases Nat.lt_or_ge x 396 with h | h
  · exact vz_380 (by omega) h
  omega
