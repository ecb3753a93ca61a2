theorem tin_0 {w : Cond} (h : w ∈ tables_1) : w ∈ lw_tbl := List.mem_append_right _ h
theorem tin_1 {w : Cond} (h : w ∈ tables_1_1) : w ∈ lw_tbl := tin_0 (List.mem_append_left _ h)
theorem tin_2 {w : Cond} (h : w ∈ tables_1_2) : w ∈ lw_tbl := tin_0 (List.mem_append_right _ (List.mem_append_left _ h))
theorem tin_3 {w : Cond} (h : w ∈ tables_1_3) : w ∈ lw_tbl := tin_0 (List.mem_append_right _ (List.mem_append_right _ h))

theorem kc_1 : KC 1 RX0 := ⟨0, _, _, by decide, rfl⟩
theorem kc_2 : KC 2 RX0 := ⟨1, _, _, by decide, rfl⟩
theorem kc_3 : KC 3 RX0 := ⟨2, _, _, by decide, rfl⟩
theorem kc_4 : KC 4 RX1 := ⟨3, _, _, by decide, rfl⟩
theorem kc_5 : KC 5 RX2 := ⟨4, _, _, by decide, rfl⟩
theorem kc_6 : KC 6 RX3 := ⟨5, _, _, by decide, rfl⟩
theorem kc_7 : KC 7 RX4 := ⟨6, _, _, by decide, rfl⟩
theorem kc_8 : KC 8 RX5 := ⟨7, _, _, by decide, rfl⟩
theorem nl_X5_7 : NL RX5 7 5 3 := ⟨4, _, _, by decide, rfl, List.mem_of_getElem? (i := 76) (by decide +kernel), List.mem_of_getElem? (i := 77) (by decide +kernel), List.mem_of_getElem? (i := 53) (by decide +kernel)⟩
theorem ml_X5_9 : ML RX5 9 yX2_init := Or.inr ⟨"Slugwire", List.mem_of_getElem? (i := 78) (by decide +kernel)⟩
theorem fl_X5_10 : FL RX5 10 8 140 (some true) (.object "Slugwire$Sources") := ⟨7, 0, _, _, _, "Slugwire", by decide, by decide, rfl, by decide, Or.inl (List.mem_of_getElem? (i := 239) (by decide +kernel)), Or.inl rfl, (fun b h => by cases h; rfl), by decide +kernel, (fun _ => ⟨rfl, List.mem_of_getElem? (i := 239) (by decide +kernel)⟩)⟩
theorem nl_X5_16 : NL RX5 16 7 5 := ⟨6, _, _, by decide, rfl, List.mem_of_getElem? (i := 98) (by decide +kernel), List.mem_of_getElem? (i := 99) (by decide +kernel), List.mem_of_getElem? (i := 54) (by decide +kernel)⟩
theorem ml_X5_18 : ML RX5 18 yX4_init := Or.inr ⟨"Slugwire", List.mem_of_getElem? (i := 100) (by decide +kernel)⟩
theorem fl_X5_19 : FL RX5 19 8 141 (some true) (.object "Slugwire$Tally") := ⟨7, 1, _, _, _, "Slugwire", by decide, by decide, rfl, by decide, Or.inl (List.mem_of_getElem? (i := 240) (by decide +kernel)), Or.inl rfl, (fun b h => by cases h; rfl), by decide +kernel, (fun _ => ⟨rfl, List.mem_of_getElem? (i := 240) (by decide +kernel)⟩)⟩
theorem wc_X5_23 : Cond.classLink RX5 23 "Slugwire$Fact" ∈ lw_tbl := List.mem_of_getElem? (i := 122) (by decide +kernel)
theorem nl_X5_23 : NL RX5 23 3 5 := ⟨2, _, _, by decide, rfl, List.mem_of_getElem? (i := 122) (by decide +kernel), List.mem_of_getElem? (i := 124) (by decide +kernel), List.mem_of_getElem? (i := 55) (by decide +kernel)⟩
theorem fl_X5_25 : FL RX5 25 8 142 (some true) (.array (.object "Slugwire$Fact")) := ⟨7, 2, _, _, _, "Slugwire", by decide, by decide, rfl, by decide, Or.inl (List.mem_of_getElem? (i := 241) (by decide +kernel)), Or.inl rfl, (fun b h => by cases h; rfl), by decide +kernel, (fun _ => ⟨rfl, List.mem_of_getElem? (i := 241) (by decide +kernel)⟩)⟩
theorem ml_X5_29 : ML RX5 29 yX0_init := Or.inr ⟨"Slugwire", List.mem_of_getElem? (i := 125) (by decide +kernel)⟩
theorem wc_X5_30 : Cond.classLink RX5 30 "Slugwire$Take" ∈ lw_tbl := List.mem_of_getElem? (i := 153) (by decide +kernel)
theorem nl_X5_30 : NL RX5 30 6 10 := ⟨5, _, _, by decide, rfl, List.mem_of_getElem? (i := 153) (by decide +kernel), List.mem_of_getElem? (i := 155) (by decide +kernel), List.mem_of_getElem? (i := 57) (by decide +kernel)⟩
theorem fl_X5_32 : FL RX5 32 8 143 (some true) (.array (.object "Slugwire$Take")) := ⟨7, 3, _, _, _, "Slugwire", by decide, by decide, rfl, by decide, Or.inl (List.mem_of_getElem? (i := 242) (by decide +kernel)), Or.inl rfl, (fun b h => by cases h; rfl), by decide +kernel, (fun _ => ⟨rfl, List.mem_of_getElem? (i := 242) (by decide +kernel)⟩)⟩
theorem ml_X5_36 : ML RX5 36 yX3_init := Or.inr ⟨"Slugwire", List.mem_of_getElem? (i := 156) (by decide +kernel)⟩
theorem wc_X5_37 : Cond.classLink RX5 37 "Slugwire$Line" ∈ lw_tbl := List.mem_of_getElem? (i := 197) (by decide +kernel)
theorem nl_X5_37 : NL RX5 37 4 9 := ⟨3, _, _, by decide, rfl, List.mem_of_getElem? (i := 197) (by decide +kernel), List.mem_of_getElem? (i := 199) (by decide +kernel), List.mem_of_getElem? (i := 58) (by decide +kernel)⟩
theorem fl_X5_39 : FL RX5 39 8 144 (some true) (.array (.object "Slugwire$Line")) := ⟨7, 4, _, _, _, "Slugwire", by decide, by decide, rfl, by decide, Or.inl (List.mem_of_getElem? (i := 243) (by decide +kernel)), Or.inl rfl, (fun b h => by cases h; rfl), by decide +kernel, (fun _ => ⟨rfl, List.mem_of_getElem? (i := 243) (by decide +kernel)⟩)⟩
theorem ml_X5_43 : ML RX5 43 yX1_init := Or.inr ⟨"Slugwire", List.mem_of_getElem? (i := 200) (by decide +kernel)⟩
theorem fl_X5_44 : FL RX5 44 8 145 (some true) (.object "Slugwire$Line") := ⟨7, 5, _, _, _, "Slugwire", by decide, by decide, rfl, by decide, Or.inl (List.mem_of_getElem? (i := 244) (by decide +kernel)), Or.inl rfl, (fun b h => by cases h; rfl), by decide +kernel, (fun _ => ⟨rfl, List.mem_of_getElem? (i := 244) (by decide +kernel)⟩)⟩
theorem ml_X5_48 : ML RX5 48 yX5_checkSource := Or.inl (List.mem_of_getElem? (i := 274) (by decide +kernel))
theorem ml_X5_52 : ML RX5 52 yX5_checkWeight := Or.inl (List.mem_of_getElem? (i := 346) (by decide +kernel))
theorem fl_X5_55 : FL RX5 55 5 82 (some false) .int := ⟨4, 2, _, _, _, "Slugwire$Sources", by decide, by decide, rfl, by decide, Or.inr ⟨"Slugwire", List.mem_of_getElem? (i := 88) (by decide +kernel)⟩, Or.inl rfl, (fun b h => by cases h; rfl), by decide +kernel, (fun h => by cases h)⟩
theorem ml_X5_66 : ML RX5 66 yX2_add := Or.inr ⟨"Slugwire", List.mem_of_getElem? (i := 381) (by decide +kernel)⟩
theorem fl_X5_70 : FL RX5 70 8 146 (some false) .int := ⟨7, 6, _, _, _, "Slugwire", by decide, by decide, rfl, by decide, Or.inl (List.mem_of_getElem? (i := 245) (by decide +kernel)), Or.inl rfl, (fun b h => by cases h; rfl), by decide +kernel, (fun h => by cases h)⟩
theorem fl_X5_80 : FL RX5 80 8 148 (some false) .int := ⟨7, 8, _, _, _, "Slugwire", by decide, by decide, rfl, by decide, Or.inl (List.mem_of_getElem? (i := 247) (by decide +kernel)), Or.inl rfl, (fun b h => by cases h; rfl), by decide +kernel, (fun h => by cases h)⟩
theorem fl_X5_85 : FL RX5 85 4 64 (some false) .int := ⟨3, 4, _, _, _, "Slugwire$Line", by decide, by decide, rfl, by decide, Or.inr ⟨"Slugwire", List.mem_of_getElem? (i := 212) (by decide +kernel)⟩, Or.inl rfl, (fun b h => by cases h; rfl), by decide +kernel, (fun h => by cases h)⟩
theorem fl_X5_88 : FL RX5 88 4 65 (some false) .int := ⟨3, 5, _, _, _, "Slugwire$Line", by decide, by decide, rfl, by decide, Or.inr ⟨"Slugwire", List.mem_of_getElem? (i := 214) (by decide +kernel)⟩, Or.inl rfl, (fun b h => by cases h; rfl), by decide +kernel, (fun h => by cases h)⟩
theorem ml_X5_91 : ML RX5 91 yX5_checkFact := Or.inl (List.mem_of_getElem? (i := 400) (by decide +kernel))
theorem ml_X5_95 : ML RX5 95 yX5_checkValue := Or.inl (List.mem_of_getElem? (i := 410) (by decide +kernel))
theorem ml_X5_98 : ML RX5 98 yX5_factAt := Or.inl (List.mem_of_getElem? (i := 414) (by decide +kernel))
theorem fl_X5_102 : FL RX5 102 3 40 none (.array .int) := ⟨2, 0, _, _, _, "Slugwire$Fact", by decide, by decide, rfl, by decide, Or.inr ⟨"Slugwire", List.mem_of_getElem? (i := 133) (by decide +kernel)⟩, Or.inl rfl, (fun b h => by cases h), by decide +kernel, (fun h => by cases h)⟩
theorem ml_X5_106 : ML RX5 106 yX0_settle := Or.inr ⟨"Slugwire", List.mem_of_getElem? (i := 418) (by decide +kernel)⟩
theorem ml_X5_110 : ML RX5 110 yX4_weigh := Or.inr ⟨"Slugwire", List.mem_of_getElem? (i := 442) (by decide +kernel)⟩
theorem ml_X5_114 : ML RX5 114 yX4_proofGrade := Or.inr ⟨"Slugwire", List.mem_of_getElem? (i := 443) (by decide +kernel)⟩
theorem fl_X5_120 : FL RX5 120 3 44 (some false) .int := ⟨2, 4, _, _, _, "Slugwire$Fact", by decide, by decide, rfl, by decide, Or.inr ⟨"Slugwire", List.mem_of_getElem? (i := 141) (by decide +kernel)⟩, Or.inl rfl, (fun b h => by cases h; rfl), by decide +kernel, (fun h => by cases h)⟩
theorem fl_X5_123 : FL RX5 123 8 149 (some false) .int := ⟨7, 9, _, _, _, "Slugwire", by decide, by decide, rfl, by decide, Or.inl (List.mem_of_getElem? (i := 248) (by decide +kernel)), Or.inl rfl, (fun b h => by cases h; rfl), by decide +kernel, (fun h => by cases h)⟩
theorem ml_X5_126 : ML RX5 126 yX5_checkLine := Or.inl (List.mem_of_getElem? (i := 457) (by decide +kernel))
theorem fl_X5_131 : FL RX5 131 4 66 (some false) .int := ⟨3, 6, _, _, _, "Slugwire$Line", by decide, by decide, rfl, by decide, Or.inr ⟨"Slugwire", List.mem_of_getElem? (i := 216) (by decide +kernel)⟩, Or.inl rfl, (fun b h => by cases h; rfl), by decide +kernel, (fun h => by cases h)⟩
theorem ml_X5_134 : ML RX5 134 yX5_checkStory := Or.inl (List.mem_of_getElem? (i := 404) (by decide +kernel))
theorem ml_X5_139 : ML RX5 139 yX5_checkRoomForTake := Or.inl (List.mem_of_getElem? (i := 474) (by decide +kernel))
theorem ml_X5_142 : ML RX5 142 yX5_hasValues := Or.inl (List.mem_of_getElem? (i := 627) (by decide +kernel))
theorem ml_X5_146 : ML RX5 146 yJ6_bitCount_0f7a4 := Or.inl (List.mem_of_getElem? (i := 486) (by decide +kernel))
theorem ml_X5_152 : ML RX5 152 yX5_addTake := Or.inl (List.mem_of_getElem? (i := 479) (by decide +kernel))
theorem ml_X5_156 : ML RX5 156 yX5_runOnAllLines := Or.inl (List.mem_of_getElem? (i := 499) (by decide +kernel))
theorem ml_X5_159 : ML RX5 159 yX5_checkTake := Or.inl (List.mem_of_getElem? (i := 467) (by decide +kernel))
theorem fl_X5_162 : FL RX5 162 6 100 none (.array .int) := ⟨5, 0, _, _, _, "Slugwire$Take", by decide, by decide, rfl, by decide, Or.inr ⟨"Slugwire", List.mem_of_getElem? (i := 161) (by decide +kernel)⟩, Or.inl rfl, (fun b h => by cases h), by decide +kernel, (fun h => by cases h)⟩
theorem fl_X5_167 : FL RX5 167 6 108 (some false) .int := ⟨5, 8, _, _, _, "Slugwire$Take", by decide, by decide, rfl, by decide, Or.inr ⟨"Slugwire", List.mem_of_getElem? (i := 174) (by decide +kernel)⟩, Or.inl rfl, (fun b h => by cases h; rfl), by decide +kernel, (fun h => by cases h)⟩
theorem fl_X5_172 : FL RX5 172 6 101 (some false) .int := ⟨5, 1, _, _, _, "Slugwire$Take", by decide, by decide, rfl, by decide, Or.inr ⟨"Slugwire", List.mem_of_getElem? (i := 162) (by decide +kernel)⟩, Or.inl rfl, (fun b h => by cases h; rfl), by decide +kernel, (fun h => by cases h)⟩
theorem fl_X5_175 : FL RX5 175 3 41 (some false) .int := ⟨2, 1, _, _, _, "Slugwire$Fact", by decide, by decide, rfl, by decide, Or.inr ⟨"Slugwire", List.mem_of_getElem? (i := 135) (by decide +kernel)⟩, Or.inl rfl, (fun b h => by cases h; rfl), by decide +kernel, (fun h => by cases h)⟩
theorem fl_X5_178 : FL RX5 178 6 102 (some false) .int := ⟨5, 2, _, _, _, "Slugwire$Take", by decide, by decide, rfl, by decide, Or.inr ⟨"Slugwire", List.mem_of_getElem? (i := 164) (by decide +kernel)⟩, Or.inl rfl, (fun b h => by cases h; rfl), by decide +kernel, (fun h => by cases h)⟩
theorem ml_X5_183 : ML RX5 183 yX1_isSent := Or.inr ⟨"Slugwire", List.mem_of_getElem? (i := 516) (by decide +kernel)⟩
theorem ml_X5_187 : ML RX5 187 yX1_start := Or.inr ⟨"Slugwire", List.mem_of_getElem? (i := 503) (by decide +kernel)⟩
theorem ml_X5_191 : ML RX5 191 yX1_stop := Or.inr ⟨"Slugwire", List.mem_of_getElem? (i := 520) (by decide +kernel)⟩
theorem ml_X5_198 : ML RX5 198 yX1_runMinute := Or.inr ⟨"Slugwire", List.mem_of_getElem? (i := 693) (by decide +kernel)⟩
theorem fl_X5_204 : FL RX5 204 3 43 (some false) .int := ⟨2, 3, _, _, _, "Slugwire$Fact", by decide, by decide, rfl, by decide, Or.inr ⟨"Slugwire", List.mem_of_getElem? (i := 139) (by decide +kernel)⟩, Or.inl rfl, (fun b h => by cases h; rfl), by decide +kernel, (fun h => by cases h)⟩
theorem ml_X5_207 : ML RX5 207 yX0_countSayers := Or.inr ⟨"Slugwire", List.mem_of_getElem? (i := 528) (by decide +kernel)⟩
theorem ml_X5_210 : ML RX5 210 yX0_countValues := Or.inr ⟨"Slugwire", List.mem_of_getElem? (i := 532) (by decide +kernel)⟩
theorem ml_X5_213 : ML RX5 213 yX5_firstHad := Or.inl (List.mem_of_getElem? (i := 540) (by decide +kernel))
theorem ml_X5_216 : ML RX5 216 yX5_isFirst := Or.inl (List.mem_of_getElem? (i := 552) (by decide +kernel))
theorem fl_X5_222 : FL RX5 222 7 124 (some false) .int := ⟨6, 4, _, _, _, "Slugwire$Tally", by decide, by decide, rfl, by decide, Or.inr ⟨"Slugwire", List.mem_of_getElem? (i := 110) (by decide +kernel)⟩, Or.inl rfl, (fun b h => by cases h; rfl), by decide +kernel, (fun h => by cases h)⟩
theorem fl_X5_225 : FL RX5 225 6 103 (some false) .int := ⟨5, 3, _, _, _, "Slugwire$Take", by decide, by decide, rfl, by decide, Or.inr ⟨"Slugwire", List.mem_of_getElem? (i := 165) (by decide +kernel)⟩, Or.inl rfl, (fun b h => by cases h; rfl), by decide +kernel, (fun h => by cases h)⟩
theorem fl_X5_228 : FL RX5 228 6 104 (some false) .int := ⟨5, 4, _, _, _, "Slugwire$Take", by decide, by decide, rfl, by decide, Or.inr ⟨"Slugwire", List.mem_of_getElem? (i := 167) (by decide +kernel)⟩, Or.inl rfl, (fun b h => by cases h; rfl), by decide +kernel, (fun h => by cases h)⟩
theorem fl_X5_231 : FL RX5 231 6 105 (some false) .int := ⟨5, 5, _, _, _, "Slugwire$Take", by decide, by decide, rfl, by decide, Or.inr ⟨"Slugwire", List.mem_of_getElem? (i := 169) (by decide +kernel)⟩, Or.inl rfl, (fun b h => by cases h; rfl), by decide +kernel, (fun h => by cases h)⟩
theorem fl_X5_234 : FL RX5 234 6 106 (some false) .boolean := ⟨5, 6, _, _, _, "Slugwire$Take", by decide, by decide, rfl, by decide, Or.inr ⟨"Slugwire", List.mem_of_getElem? (i := 170) (by decide +kernel)⟩, Or.inl rfl, (fun b h => by cases h; rfl), by decide +kernel, (fun h => by cases h)⟩
theorem fl_X5_238 : FL RX5 238 6 107 (some false) .int := ⟨5, 7, _, _, _, "Slugwire$Take", by decide, by decide, rfl, by decide, Or.inr ⟨"Slugwire", List.mem_of_getElem? (i := 172) (by decide +kernel)⟩, Or.inl rfl, (fun b h => by cases h; rfl), by decide +kernel, (fun h => by cases h)⟩
theorem fl_X5_241 : FL RX5 241 6 109 (some false) .int := ⟨5, 9, _, _, _, "Slugwire$Take", by decide, by decide, rfl, by decide, Or.inr ⟨"Slugwire", List.mem_of_getElem? (i := 175) (by decide +kernel)⟩, Or.inl rfl, (fun b h => by cases h; rfl), by decide +kernel, (fun h => by cases h)⟩
theorem ml_X5_251 : ML RX5 251 yX1_isRunning := Or.inr ⟨"Slugwire", List.mem_of_getElem? (i := 635) (by decide +kernel)⟩
theorem fl_X5_254 : FL RX5 254 4 60 none (.array .int) := ⟨3, 0, _, _, _, "Slugwire$Line", by decide, by decide, rfl, by decide, Or.inr ⟨"Slugwire", List.mem_of_getElem? (i := 206) (by decide +kernel)⟩, Or.inl rfl, (fun b h => by cases h), by decide +kernel, (fun h => by cases h)⟩
theorem ml_X5_257 : ML RX5 257 yX1_hasAtDesk := Or.inr ⟨"Slugwire", List.mem_of_getElem? (i := 548) (by decide +kernel)⟩
theorem ml_X5_260 : ML RX5 260 yX5_isDropped := Or.inl (List.mem_of_getElem? (i := 606) (by decide +kernel))
theorem ml_X5_263 : ML RX5 263 yX5_toldAtDesk := Or.inl (List.mem_of_getElem? (i := 602) (by decide +kernel))
theorem ml_X5_267 : ML RX5 267 yX1_countWaiting := Or.inr ⟨"Slugwire", List.mem_of_getElem? (i := 674) (by decide +kernel)⟩
theorem ml_X5_270 : ML RX5 270 yX1_countWordsLeft := Or.inr ⟨"Slugwire", List.mem_of_getElem? (i := 678) (by decide +kernel)⟩
theorem fl_X5_273 : FL RX5 273 4 67 (some false) .int := ⟨3, 7, _, _, _, "Slugwire$Line", by decide, by decide, rfl, by decide, Or.inr ⟨"Slugwire", List.mem_of_getElem? (i := 218) (by decide +kernel)⟩, Or.inl rfl, (fun b h => by cases h; rfl), by decide +kernel, (fun h => by cases h)⟩
theorem ml_X5_276 : ML RX5 276 yX5_countTold := Or.inl (List.mem_of_getElem? (i := 682) (by decide +kernel))
theorem ml_X5_279 : ML RX5 279 yX5_countWrong := Or.inl (List.mem_of_getElem? (i := 598) (by decide +kernel))
theorem fl_X5_284 : FL RX5 284 8 147 (some false) .int := ⟨7, 7, _, _, _, "Slugwire", by decide, by decide, rfl, by decide, Or.inl (List.mem_of_getElem? (i := 246) (by decide +kernel)), Or.inl rfl, (fun b h => by cases h; rfl), by decide +kernel, (fun h => by cases h)⟩
theorem ml_X5_287 : ML RX5 287 yX5_countKilled := Or.inl (List.mem_of_getElem? (i := 574) (by decide +kernel))
theorem ml_X5_290 : ML RX5 290 yX5_countCorrections := Or.inl (List.mem_of_getElem? (i := 578) (by decide +kernel))
theorem ml_X5_293 : ML RX5 293 yX5_countTruths := Or.inl (List.mem_of_getElem? (i := 582) (by decide +kernel))
theorem ml_X5_296 : ML RX5 296 yX5_countUnproven := Or.inl (List.mem_of_getElem? (i := 586) (by decide +kernel))
theorem ml_X5_299 : ML RX5 299 yX5_countFirsts := Or.inl (List.mem_of_getElem? (i := 590) (by decide +kernel))
theorem ml_X5_302 : ML RX5 302 yX5_countWrongAnywhere := Or.inl (List.mem_of_getElem? (i := 594) (by decide +kernel))
theorem fl_X5_307 : FL RX5 307 4 63 none (.array .int) := ⟨3, 3, _, _, _, "Slugwire$Line", by decide, by decide, rfl, by decide, Or.inr ⟨"Slugwire", List.mem_of_getElem? (i := 210) (by decide +kernel)⟩, Or.inl rfl, (fun b h => by cases h), by decide +kernel, (fun h => by cases h)⟩
theorem ml_X5_310 : ML RX5 310 yJ9_max_7cf53 := Or.inl (List.mem_of_getElem? (i := 646) (by decide +kernel))
theorem ml_X5_315 : ML RX5 315 yX1_copyFrom := Or.inr ⟨"Slugwire", List.mem_of_getElem? (i := 647) (by decide +kernel)⟩
theorem ml_X5_319 : ML RX5 319 yX1_runUntilHad := Or.inr ⟨"Slugwire", List.mem_of_getElem? (i := 654) (by decide +kernel)⟩
theorem ml_X5_324 : ML RX5 324 yX1_enqueue := Or.inr ⟨"Slugwire", List.mem_of_getElem? (i := 741) (by decide +kernel)⟩
theorem ml_X5_328 : ML RX5 328 yX0_strongest := Or.inr ⟨"Slugwire", List.mem_of_getElem? (i := 714) (by decide +kernel)⟩
theorem ml_X5_332 : ML RX5 332 yX4_addRoot := Or.inr ⟨"Slugwire", List.mem_of_getElem? (i := 715) (by decide +kernel)⟩
theorem ml_X5_337 : ML RX5 337 yX5_wordsFor := Or.inl (List.mem_of_getElem? (i := 483) (by decide +kernel))
theorem ml_X5_340 : ML RX5 340 yX5_forceOf := Or.inl (List.mem_of_getElem? (i := 721) (by decide +kernel))
theorem ml_X5_347 : ML RX5 347 yX5_many := Or.inl (List.mem_of_getElem? (i := 704) (by decide +kernel))
theorem ml_X5_350 : ML RX5 350 yX5_digestStories := Or.inl (List.mem_of_getElem? (i := 705) (by decide +kernel))
theorem ml_X5_354 : ML RX5 354 yX5_digestTakes := Or.inl (List.mem_of_getElem? (i := 725) (by decide +kernel))
theorem ml_X5_357 : ML RX5 357 yX5_digestLines := Or.inl (List.mem_of_getElem? (i := 731) (by decide +kernel))
theorem ml_X5_360 : ML RX5 360 yX5_digestDesks := Or.inl (List.mem_of_getElem? (i := 743) (by decide +kernel))
theorem ml_X5_363 : ML RX5 363 yX5_ofFact := Or.inl (List.mem_of_getElem? (i := 709) (by decide +kernel))
theorem ml_X5_366 : ML RX5 366 yX5_needs := Or.inl (List.mem_of_getElem? (i := 710) (by decide +kernel))
theorem ml_X5_370 : ML RX5 370 yX5_lead := Or.inl (List.mem_of_getElem? (i := 716) (by decide +kernel))
theorem ml_X5_373 : ML RX5 373 yX5_ofTake := Or.inl (List.mem_of_getElem? (i := 729) (by decide +kernel))
theorem ml_X5_376 : ML RX5 376 yX5_says := Or.inl (List.mem_of_getElem? (i := 730) (by decide +kernel))
theorem ml_X5_379 : ML RX5 379 yX5_ofLine := Or.inl (List.mem_of_getElem? (i := 735) (by decide +kernel))
theorem ml_X5_382 : ML RX5 382 yX5_wouldArrive := Or.inl (List.mem_of_getElem? (i := 736) (by decide +kernel))
theorem ml_X5_385 : ML RX5 385 yX5_state := Or.inl (List.mem_of_getElem? (i := 742) (by decide +kernel))
theorem ml_X5_388 : ML RX5 388 yX5_tells := Or.inl (List.mem_of_getElem? (i := 747) (by decide +kernel))
theorem ml_X5_405 : ML RX5 405 yX5_isInSet := Or.inl (List.mem_of_getElem? (i := 492) (by decide +kernel))
theorem ml_X5_408 : ML RX5 408 yX0_valueToFile := Or.inr ⟨"Slugwire", List.mem_of_getElem? (i := 495) (by decide +kernel)⟩
theorem fl_X5_412 : FL RX5 412 3 42 (some false) .int := ⟨2, 2, _, _, _, "Slugwire$Fact", by decide, by decide, rfl, by decide, Or.inr ⟨"Slugwire", List.mem_of_getElem? (i := 137) (by decide +kernel)⟩, Or.inl rfl, (fun b h => by cases h; rfl), by decide +kernel, (fun h => by cases h)⟩
theorem ml_X5_415 : ML RX5 415 yX5_firstHadAnywhere := Or.inl (List.mem_of_getElem? (i := 544) (by decide +kernel))
theorem fl_X0_9 : FL RX0 9 3 40 (some true) (.array .int) := ⟨2, 0, _, _, _, "Slugwire$Fact", by decide, by decide, rfl, by decide, Or.inl (List.mem_of_getElem? (i := 132) (by decide +kernel)), Or.inl rfl, (fun b h => by cases h; rfl), by decide +kernel, (fun _ => ⟨rfl, List.mem_of_getElem? (i := 132) (by decide +kernel)⟩)⟩
theorem fl_X0_15 : FL RX0 15 3 41 (some false) .int := ⟨2, 1, _, _, _, "Slugwire$Fact", by decide, by decide, rfl, by decide, Or.inl (List.mem_of_getElem? (i := 134) (by decide +kernel)), Or.inl rfl, (fun b h => by cases h; rfl), by decide +kernel, (fun h => by cases h)⟩
theorem fl_X0_19 : FL RX0 19 3 43 (some false) .int := ⟨2, 3, _, _, _, "Slugwire$Fact", by decide, by decide, rfl, by decide, Or.inl (List.mem_of_getElem? (i := 138) (by decide +kernel)), Or.inl rfl, (fun b h => by cases h; rfl), by decide +kernel, (fun h => by cases h)⟩
theorem fl_X0_22 : FL RX0 22 3 44 (some false) .int := ⟨2, 4, _, _, _, "Slugwire$Fact", by decide, by decide, rfl, by decide, Or.inl (List.mem_of_getElem? (i := 140) (by decide +kernel)), Or.inl rfl, (fun b h => by cases h; rfl), by decide +kernel, (fun h => by cases h)⟩
theorem ml_X0_25 : ML RX0 25 yJ7_fill_53178 := Or.inl (List.mem_of_getElem? (i := 129) (by decide +kernel))
theorem ml_X0_31 : ML RX0 31 yX0_strongest := Or.inl (List.mem_of_getElem? (i := 422) (by decide +kernel))
theorem fl_X0_35 : FL RX0 35 3 42 (some false) .int := ⟨2, 2, _, _, _, "Slugwire$Fact", by decide, by decide, rfl, by decide, Or.inl (List.mem_of_getElem? (i := 136) (by decide +kernel)), Or.inl rfl, (fun b h => by cases h; rfl), by decide +kernel, (fun h => by cases h)⟩
theorem ml_X0_38 : ML RX0 38 yX4_weigh := Or.inr ⟨"Slugwire", List.mem_of_getElem? (i := 426) (by decide +kernel)⟩
theorem fl_X0_44 : FL RX0 44 7 124 (some false) .int := ⟨6, 4, _, _, _, "Slugwire$Tally", by decide, by decide, rfl, by decide, Or.inr ⟨"Slugwire", List.mem_of_getElem? (i := 108) (by decide +kernel)⟩, Or.inl rfl, (fun b h => by cases h; rfl), by decide +kernel, (fun h => by cases h)⟩
theorem fl_X0_47 : FL RX0 47 5 82 (some false) .int := ⟨4, 2, _, _, _, "Slugwire$Sources", by decide, by decide, rfl, by decide, Or.inr ⟨"Slugwire", List.mem_of_getElem? (i := 89) (by decide +kernel)⟩, Or.inl rfl, (fun b h => by cases h; rfl), by decide +kernel, (fun h => by cases h)⟩
theorem ml_X0_52 : ML RX0 52 yX4_proofGrade := Or.inr ⟨"Slugwire", List.mem_of_getElem? (i := 438) (by decide +kernel)⟩
theorem ml_X0_56 : ML RX0 56 yX0_isSaidAhead := Or.inl (List.mem_of_getElem? (i := 536) (by decide +kernel))
theorem fl_X1_11 : FL RX1 11 4 60 (some true) (.array .int) := ⟨3, 0, _, _, _, "Slugwire$Line", by decide, by decide, rfl, by decide, Or.inl (List.mem_of_getElem? (i := 205) (by decide +kernel)), Or.inl rfl, (fun b h => by cases h; rfl), by decide +kernel, (fun _ => ⟨rfl, List.mem_of_getElem? (i := 205) (by decide +kernel)⟩)⟩
theorem fl_X1_15 : FL RX1 15 4 61 (some true) (.array .int) := ⟨3, 1, _, _, _, "Slugwire$Line", by decide, by decide, rfl, by decide, Or.inl (List.mem_of_getElem? (i := 207) (by decide +kernel)), Or.inl rfl, (fun b h => by cases h; rfl), by decide +kernel, (fun _ => ⟨rfl, List.mem_of_getElem? (i := 207) (by decide +kernel)⟩)⟩
theorem fl_X1_18 : FL RX1 18 4 62 (some true) (.array .int) := ⟨3, 2, _, _, _, "Slugwire$Line", by decide, by decide, rfl, by decide, Or.inl (List.mem_of_getElem? (i := 208) (by decide +kernel)), Or.inl rfl, (fun b h => by cases h; rfl), by decide +kernel, (fun _ => ⟨rfl, List.mem_of_getElem? (i := 208) (by decide +kernel)⟩)⟩
theorem fl_X1_21 : FL RX1 21 4 63 (some true) (.array .int) := ⟨3, 3, _, _, _, "Slugwire$Line", by decide, by decide, rfl, by decide, Or.inl (List.mem_of_getElem? (i := 209) (by decide +kernel)), Or.inl rfl, (fun b h => by cases h; rfl), by decide +kernel, (fun _ => ⟨rfl, List.mem_of_getElem? (i := 209) (by decide +kernel)⟩)⟩
theorem ml_X1_24 : ML RX1 24 yJ7_fill_53178 := Or.inl (List.mem_of_getElem? (i := 204) (by decide +kernel))
theorem fl_X1_36 : FL RX1 36 4 64 (some false) .int := ⟨3, 4, _, _, _, "Slugwire$Line", by decide, by decide, rfl, by decide, Or.inl (List.mem_of_getElem? (i := 211) (by decide +kernel)), Or.inl rfl, (fun b h => by cases h; rfl), by decide +kernel, (fun h => by cases h)⟩
theorem fl_X1_40 : FL RX1 40 4 65 (some false) .int := ⟨3, 5, _, _, _, "Slugwire$Line", by decide, by decide, rfl, by decide, Or.inl (List.mem_of_getElem? (i := 213) (by decide +kernel)), Or.inl rfl, (fun b h => by cases h; rfl), by decide +kernel, (fun h => by cases h)⟩
theorem fl_X1_43 : FL RX1 43 4 66 (some false) .int := ⟨3, 6, _, _, _, "Slugwire$Line", by decide, by decide, rfl, by decide, Or.inl (List.mem_of_getElem? (i := 215) (by decide +kernel)), Or.inl rfl, (fun b h => by cases h; rfl), by decide +kernel, (fun h => by cases h)⟩
theorem fl_X1_46 : FL RX1 46 4 67 (some false) .int := ⟨3, 7, _, _, _, "Slugwire$Line", by decide, by decide, rfl, by decide, Or.inl (List.mem_of_getElem? (i := 217) (by decide +kernel)), Or.inl rfl, (fun b h => by cases h; rfl), by decide +kernel, (fun h => by cases h)⟩
theorem fl_X1_49 : FL RX1 49 4 68 (some false) .int := ⟨3, 8, _, _, _, "Slugwire$Line", by decide, by decide, rfl, by decide, Or.inl (List.mem_of_getElem? (i := 219) (by decide +kernel)), Or.inl rfl, (fun b h => by cases h; rfl), by decide +kernel, (fun h => by cases h)⟩
theorem fl_X1_52 : FL RX1 52 6 102 (some false) .int := ⟨5, 2, _, _, _, "Slugwire$Take", by decide, by decide, rfl, by decide, Or.inr ⟨"Slugwire", List.mem_of_getElem? (i := 163) (by decide +kernel)⟩, Or.inl rfl, (fun b h => by cases h; rfl), by decide +kernel, (fun h => by cases h)⟩
theorem fl_X1_57 : FL RX1 57 6 104 (some false) .int := ⟨5, 4, _, _, _, "Slugwire$Take", by decide, by decide, rfl, by decide, Or.inr ⟨"Slugwire", List.mem_of_getElem? (i := 166) (by decide +kernel)⟩, Or.inl rfl, (fun b h => by cases h; rfl), by decide +kernel, (fun h => by cases h)⟩
theorem fl_X1_60 : FL RX1 60 6 105 (some false) .int := ⟨5, 5, _, _, _, "Slugwire$Take", by decide, by decide, rfl, by decide, Or.inr ⟨"Slugwire", List.mem_of_getElem? (i := 168) (by decide +kernel)⟩, Or.inl rfl, (fun b h => by cases h; rfl), by decide +kernel, (fun h => by cases h)⟩
theorem ml_X1_63 : ML RX1 63 yX1_enqueue := Or.inl (List.mem_of_getElem? (i := 507) (by decide +kernel))
theorem ml_X1_67 : ML RX1 67 yX1_mostUrgent := Or.inl (List.mem_of_getElem? (i := 662) (by decide +kernel))
theorem ml_X1_71 : ML RX1 71 yJ9_min_7cf53 := Or.inl (List.mem_of_getElem? (i := 666) (by decide +kernel))
theorem ml_X1_77 : ML RX1 77 yX1_runMinute := Or.inl (List.mem_of_getElem? (i := 658) (by decide +kernel))
theorem ml_X1_80 : ML RX1 80 yX1_isSent := Or.inl (List.mem_of_getElem? (i := 669) (by decide +kernel))
theorem fl_X2_9 : FL RX2 9 5 80 (some true) (.array .int) := ⟨4, 0, _, _, _, "Slugwire$Sources", by decide, by decide, rfl, by decide, Or.inl (List.mem_of_getElem? (i := 82) (by decide +kernel)), Or.inl rfl, (fun b h => by cases h; rfl), by decide +kernel, (fun _ => ⟨rfl, List.mem_of_getElem? (i := 82) (by decide +kernel)⟩)⟩
theorem fl_X2_15 : FL RX2 15 5 81 (some true) (.array .int) := ⟨4, 1, _, _, _, "Slugwire$Sources", by decide, by decide, rfl, by decide, Or.inl (List.mem_of_getElem? (i := 84) (by decide +kernel)), Or.inl rfl, (fun b h => by cases h; rfl), by decide +kernel, (fun _ => ⟨rfl, List.mem_of_getElem? (i := 84) (by decide +kernel)⟩)⟩
theorem fl_X2_18 : FL RX2 18 5 82 (some false) .int := ⟨4, 2, _, _, _, "Slugwire$Sources", by decide, by decide, rfl, by decide, Or.inl (List.mem_of_getElem? (i := 86) (by decide +kernel)), Or.inl rfl, (fun b h => by cases h; rfl), by decide +kernel, (fun h => by cases h)⟩
theorem fl_X3_9 : FL RX3 9 6 100 (some true) (.array .int) := ⟨5, 0, _, _, _, "Slugwire$Take", by decide, by decide, rfl, by decide, Or.inl (List.mem_of_getElem? (i := 160) (by decide +kernel)), Or.inl rfl, (fun b h => by cases h; rfl), by decide +kernel, (fun _ => ⟨rfl, List.mem_of_getElem? (i := 160) (by decide +kernel)⟩)⟩
theorem fl_X3_15 : FL RX3 15 6 107 (some false) .int := ⟨5, 7, _, _, _, "Slugwire$Take", by decide, by decide, rfl, by decide, Or.inl (List.mem_of_getElem? (i := 171) (by decide +kernel)), Or.inl rfl, (fun b h => by cases h; rfl), by decide +kernel, (fun h => by cases h)⟩
theorem fl_X3_19 : FL RX3 19 6 108 (some false) .int := ⟨5, 8, _, _, _, "Slugwire$Take", by decide, by decide, rfl, by decide, Or.inl (List.mem_of_getElem? (i := 173) (by decide +kernel)), Or.inl rfl, (fun b h => by cases h; rfl), by decide +kernel, (fun h => by cases h)⟩
theorem fl_X4_9 : FL RX4 9 7 120 (some true) (.array .int) := ⟨6, 0, _, _, _, "Slugwire$Tally", by decide, by decide, rfl, by decide, Or.inl (List.mem_of_getElem? (i := 104) (by decide +kernel)), Or.inl rfl, (fun b h => by cases h; rfl), by decide +kernel, (fun _ => ⟨rfl, List.mem_of_getElem? (i := 104) (by decide +kernel)⟩)⟩
theorem ml_X4_15 : ML RX4 15 yJ7_fill_53178 := Or.inl (List.mem_of_getElem? (i := 430) (by decide +kernel))
theorem fl_X4_21 : FL RX4 21 5 82 (some false) .int := ⟨4, 2, _, _, _, "Slugwire$Sources", by decide, by decide, rfl, by decide, Or.inr ⟨"Slugwire", List.mem_of_getElem? (i := 87) (by decide +kernel)⟩, Or.inl rfl, (fun b h => by cases h; rfl), by decide +kernel, (fun h => by cases h)⟩
theorem fl_X4_27 : FL RX4 27 5 81 none (.array .int) := ⟨4, 1, _, _, _, "Slugwire$Sources", by decide, by decide, rfl, by decide, Or.inr ⟨"Slugwire", List.mem_of_getElem? (i := 85) (by decide +kernel)⟩, Or.inl rfl, (fun b h => by cases h), by decide +kernel, (fun h => by cases h)⟩
theorem fl_X4_30 : FL RX4 30 5 80 none (.array .int) := ⟨4, 0, _, _, _, "Slugwire$Sources", by decide, by decide, rfl, by decide, Or.inr ⟨"Slugwire", List.mem_of_getElem? (i := 83) (by decide +kernel)⟩, Or.inl rfl, (fun b h => by cases h), by decide +kernel, (fun h => by cases h)⟩
theorem ml_X4_33 : ML RX4 33 yJ9_max_7cf53 := Or.inl (List.mem_of_getElem? (i := 431) (by decide +kernel))
theorem fl_X4_39 : FL RX4 39 7 121 (some false) .int := ⟨6, 1, _, _, _, "Slugwire$Tally", by decide, by decide, rfl, by decide, Or.inl (List.mem_of_getElem? (i := 105) (by decide +kernel)), Or.inl rfl, (fun b h => by cases h; rfl), by decide +kernel, (fun h => by cases h)⟩
theorem fl_X4_42 : FL RX4 42 7 122 (some false) .int := ⟨6, 2, _, _, _, "Slugwire$Tally", by decide, by decide, rfl, by decide, Or.inl (List.mem_of_getElem? (i := 106) (by decide +kernel)), Or.inl rfl, (fun b h => by cases h; rfl), by decide +kernel, (fun h => by cases h)⟩
theorem fl_X4_45 : FL RX4 45 7 123 (some false) .int := ⟨6, 3, _, _, _, "Slugwire$Tally", by decide, by decide, rfl, by decide, Or.inl (List.mem_of_getElem? (i := 107) (by decide +kernel)), Or.inl rfl, (fun b h => by cases h; rfl), by decide +kernel, (fun h => by cases h)⟩
theorem fl_X4_48 : FL RX4 48 7 124 (some false) .int := ⟨6, 4, _, _, _, "Slugwire$Tally", by decide, by decide, rfl, by decide, Or.inl (List.mem_of_getElem? (i := 109) (by decide +kernel)), Or.inl rfl, (fun b h => by cases h; rfl), by decide +kernel, (fun h => by cases h)⟩
theorem ml_X4_51 : ML RX4 51 yX4_addRoot := Or.inl (List.mem_of_getElem? (i := 434) (by decide +kernel))
theorem nl_L_9 : NL RL 9 8 10 := ⟨7, _, _, by decide, rfl, List.mem_of_getElem? (i := 68) (by decide +kernel), List.mem_of_getElem? (i := 69) (by decide +kernel), List.mem_of_getElem? (i := 52) (by decide +kernel)⟩
theorem ml_L_11 : ML RL 11 yX5_init := Or.inl (List.mem_of_getElem? (i := 70) (by decide +kernel))
theorem ml_L_12 : ML RL 12 yL_cell := Or.inl (List.mem_of_getElem? (i := 615) (by decide +kernel))
theorem ml_L_18 : ML RL 18 yL_below := Or.inl (List.mem_of_getElem? (i := 611) (by decide +kernel))
theorem ml_L_22 : ML RL 22 yX5_source := Or.inl (List.mem_of_getElem? (i := 270) (by decide +kernel))
theorem ml_L_25 : ML RL 25 yX5_story := Or.inl (List.mem_of_getElem? (i := 385) (by decide +kernel))
theorem ml_L_29 : ML RL 29 yX5_line := Or.inl (List.mem_of_getElem? (i := 390) (by decide +kernel))
theorem ml_L_34 : ML RL 34 yX5_report := Or.inl (List.mem_of_getElem? (i := 396) (by decide +kernel))
theorem ml_L_38 : ML RL 38 yX5_proof := Or.inl (List.mem_of_getElem? (i := 557) (by decide +kernel))
theorem ml_L_42 : ML RL 42 yX5_ofFact := Or.inl (List.mem_of_getElem? (i := 524) (by decide +kernel))
theorem ml_L_46 : ML RL 46 yX5_retract := Or.inl (List.mem_of_getElem? (i := 444) (by decide +kernel))
theorem ml_L_49 : ML RL 49 yX5_rival := Or.inl (List.mem_of_getElem? (i := 449) (by decide +kernel))
theorem ml_L_53 : ML RL 53 yX5_many := Or.inl (List.mem_of_getElem? (i := 570) (by decide +kernel))
theorem ml_L_57 : ML RL 57 yX5_down := Or.inl (List.mem_of_getElem? (i := 453) (by decide +kernel))
theorem ml_L_60 : ML RL 60 yL_isFiled := Or.inl (List.mem_of_getElem? (i := 619) (by decide +kernel))
theorem ml_L_64 : ML RL 64 yX5_says := Or.inl (List.mem_of_getElem? (i := 566) (by decide +kernel))
theorem ml_L_67 : ML RL 67 yX5_ofTake := Or.inl (List.mem_of_getElem? (i := 561) (by decide +kernel))
theorem ml_L_70 : ML RL 70 yX5_correct := Or.inl (List.mem_of_getElem? (i := 463) (by decide +kernel))
theorem ml_L_73 : ML RL 73 yX5_kill := Or.inl (List.mem_of_getElem? (i := 511) (by decide +kernel))
theorem ml_L_76 : ML RL 76 yL_isPassed := Or.inl (List.mem_of_getElem? (i := 639) (by decide +kernel))
theorem ml_L_80 : ML RL 80 yL_areKnown := Or.inl (List.mem_of_getElem? (i := 695) (by decide +kernel))
theorem ml_L_84 : ML RL 84 yL_isNeeded := Or.inl (List.mem_of_getElem? (i := 757) (by decide +kernel))
theorem ml_L_88 : ML RL 88 yX5_file := Or.inl (List.mem_of_getElem? (i := 622) (by decide +kernel))
theorem ml_L_92 : ML RL 92 yX5_state := Or.inl (List.mem_of_getElem? (i := 631) (by decide +kernel))
theorem ml_L_95 : ML RL 95 yX5_arrives := Or.inl (List.mem_of_getElem? (i := 642) (by decide +kernel))
theorem ml_L_98 : ML RL 98 yX5_ofLine := Or.inl (List.mem_of_getElem? (i := 670) (by decide +kernel))
theorem ml_L_101 : ML RL 101 yX5_pass := Or.inl (List.mem_of_getElem? (i := 687) (by decide +kernel))
theorem ml_L_104 : ML RL 104 yX5_digest := Or.inl (List.mem_of_getElem? (i := 698) (by decide +kernel))
theorem ml_L_108 : ML RL 108 yX5_needs := Or.inl (List.mem_of_getElem? (i := 751) (by decide +kernel))
theorem ml_L_111 : ML RL 111 yX5_tells := Or.inl (List.mem_of_getElem? (i := 752) (by decide +kernel))
theorem ml_L_114 : ML RL 114 yX5_meanDelay := Or.inl (List.mem_of_getElem? (i := 753) (by decide +kernel))
set_option maxRecDepth 100000 in
theorem mc_X5_init : MI yX5_init cX5_init 2 0 := ⟨List.mem_of_getElem? (i := 71) (by decide +kernel), rfl, tin_1 (List.mem_of_getElem? (i := 21) (by rfl)), List.mem_of_getElem? (i := 52) (by decide +kernel), ⟨by decide +kernel, by decide +kernel⟩, by decide +kernel⟩
set_option maxRecDepth 100000 in
theorem mc_X5_addTake : MV yX5_addTake cX5_addTake 10 (some .int) 6 := ⟨List.mem_of_getElem? (i := 481) (by decide +kernel), List.mem_of_getElem? (i := 14) (by decide +kernel), tin_2 (List.mem_of_getElem? (i := 191) (by rfl)), List.mem_of_getElem? (i := 52) (by decide +kernel), ⟨by decide +kernel, by decide +kernel⟩, by decide +kernel⟩
set_option maxRecDepth 100000 in
theorem mc_X5_arrives : MV yX5_arrives cX5_arrives 4 (some .int) 2 := ⟨List.mem_of_getElem? (i := 643) (by decide +kernel), List.mem_of_getElem? (i := 644) (by decide +kernel), tin_3 (List.mem_of_getElem? (i := 114) (by rfl)), List.mem_of_getElem? (i := 52) (by decide +kernel), ⟨by decide +kernel, by decide +kernel⟩, by decide +kernel⟩
set_option maxRecDepth 100000 in
theorem mc_X5_checkFact : MV yX5_checkFact cX5_checkFact 3 (none) 2 := ⟨List.mem_of_getElem? (i := 402) (by decide +kernel), List.mem_of_getElem? (i := 3) (by decide +kernel), tin_2 (List.mem_of_getElem? (i := 112) (by rfl)), List.mem_of_getElem? (i := 52) (by decide +kernel), ⟨by decide +kernel, by decide +kernel⟩, by decide +kernel⟩
set_option maxRecDepth 100000 in
theorem mc_X5_checkLine : MV yX5_checkLine cX5_checkLine 2 (none) 1 := ⟨List.mem_of_getElem? (i := 459) (by decide +kernel), List.mem_of_getElem? (i := 11) (by decide +kernel), tin_2 (List.mem_of_getElem? (i := 169) (by rfl)), List.mem_of_getElem? (i := 52) (by decide +kernel), ⟨by decide +kernel, by decide +kernel⟩, by decide +kernel⟩
set_option maxRecDepth 100000 in
theorem mc_X5_checkRoomForTake : MV yX5_checkRoomForTake cX5_checkRoomForTake 1 (none) 0 := ⟨List.mem_of_getElem? (i := 476) (by decide +kernel), List.mem_of_getElem? (i := 13) (by decide +kernel), tin_2 (List.mem_of_getElem? (i := 186) (by rfl)), List.mem_of_getElem? (i := 52) (by decide +kernel), ⟨by decide +kernel, by decide +kernel⟩, by decide +kernel⟩
set_option maxRecDepth 100000 in
theorem mc_X5_checkSource : MV yX5_checkSource cX5_checkSource 2 (none) 1 := ⟨List.mem_of_getElem? (i := 276) (by decide +kernel), List.mem_of_getElem? (i := 0) (by decide +kernel), tin_1 (List.mem_of_getElem? (i := 226) (by rfl)), List.mem_of_getElem? (i := 52) (by decide +kernel), ⟨by decide +kernel, by decide +kernel⟩, by decide +kernel⟩
set_option maxRecDepth 100000 in
theorem mc_X5_checkStory : MV yX5_checkStory cX5_checkStory 2 (none) 1 := ⟨List.mem_of_getElem? (i := 406) (by decide +kernel), List.mem_of_getElem? (i := 4) (by decide +kernel), tin_2 (List.mem_of_getElem? (i := 116) (by rfl)), List.mem_of_getElem? (i := 52) (by decide +kernel), ⟨by decide +kernel, by decide +kernel⟩, by decide +kernel⟩
set_option maxRecDepth 100000 in
theorem mc_X5_checkTake : MV yX5_checkTake cX5_checkTake 2 (none) 1 := ⟨List.mem_of_getElem? (i := 469) (by decide +kernel), List.mem_of_getElem? (i := 12) (by decide +kernel), tin_2 (List.mem_of_getElem? (i := 179) (by rfl)), List.mem_of_getElem? (i := 52) (by decide +kernel), ⟨by decide +kernel, by decide +kernel⟩, by decide +kernel⟩
set_option maxRecDepth 100000 in
theorem mc_X5_checkValue : MS yX5_checkValue cX5_checkValue 1 (none) 1 := ⟨List.mem_of_getElem? (i := 411) (by decide +kernel), tin_2 (List.mem_of_getElem? (i := 121) (by rfl)), List.mem_of_getElem? (i := 52) (by decide +kernel), ⟨by decide +kernel, by decide +kernel⟩, by decide +kernel⟩
set_option maxRecDepth 100000 in
theorem mc_X5_checkWeight : MS yX5_checkWeight cX5_checkWeight 1 (none) 1 := ⟨List.mem_of_getElem? (i := 347) (by decide +kernel), tin_2 (List.mem_of_getElem? (i := 57) (by rfl)), List.mem_of_getElem? (i := 52) (by decide +kernel), ⟨by decide +kernel, by decide +kernel⟩, by decide +kernel⟩
set_option maxRecDepth 100000 in
theorem mc_X5_correct : MV yX5_correct cX5_correct 6 (some .int) 2 := ⟨List.mem_of_getElem? (i := 464) (by decide +kernel), List.mem_of_getElem? (i := 465) (by decide +kernel), tin_2 (List.mem_of_getElem? (i := 175) (by rfl)), List.mem_of_getElem? (i := 52) (by decide +kernel), ⟨by decide +kernel, by decide +kernel⟩, by decide +kernel⟩
set_option maxRecDepth 100000 in
theorem mc_X5_countCorrections : MV yX5_countCorrections cX5_countCorrections 3 (some .int) 0 := ⟨List.mem_of_getElem? (i := 580) (by decide +kernel), List.mem_of_getElem? (i := 29) (by decide +kernel), tin_3 (List.mem_of_getElem? (i := 50) (by rfl)), List.mem_of_getElem? (i := 52) (by decide +kernel), ⟨by decide +kernel, by decide +kernel⟩, by decide +kernel⟩
set_option maxRecDepth 100000 in
theorem mc_X5_countFirsts : MV yX5_countFirsts cX5_countFirsts 4 (some .int) 0 := ⟨List.mem_of_getElem? (i := 592) (by decide +kernel), List.mem_of_getElem? (i := 32) (by decide +kernel), tin_3 (List.mem_of_getElem? (i := 62) (by rfl)), List.mem_of_getElem? (i := 52) (by decide +kernel), ⟨by decide +kernel, by decide +kernel⟩, by decide +kernel⟩
set_option maxRecDepth 100000 in
theorem mc_X5_countKilled : MV yX5_countKilled cX5_countKilled 3 (some .int) 0 := ⟨List.mem_of_getElem? (i := 576) (by decide +kernel), List.mem_of_getElem? (i := 28) (by decide +kernel), tin_3 (List.mem_of_getElem? (i := 46) (by rfl)), List.mem_of_getElem? (i := 52) (by decide +kernel), ⟨by decide +kernel, by decide +kernel⟩, by decide +kernel⟩
set_option maxRecDepth 100000 in
theorem mc_X5_countTold : MV yX5_countTold cX5_countTold 5 (some .int) 1 := ⟨List.mem_of_getElem? (i := 684) (by decide +kernel), List.mem_of_getElem? (i := 45) (by decide +kernel), tin_3 (List.mem_of_getElem? (i := 154) (by rfl)), List.mem_of_getElem? (i := 52) (by decide +kernel), ⟨by decide +kernel, by decide +kernel⟩, by decide +kernel⟩
set_option maxRecDepth 100000 in
theorem mc_X5_countTruths : MV yX5_countTruths cX5_countTruths 3 (some .int) 0 := ⟨List.mem_of_getElem? (i := 584) (by decide +kernel), List.mem_of_getElem? (i := 30) (by decide +kernel), tin_3 (List.mem_of_getElem? (i := 54) (by rfl)), List.mem_of_getElem? (i := 52) (by decide +kernel), ⟨by decide +kernel, by decide +kernel⟩, by decide +kernel⟩
set_option maxRecDepth 100000 in
theorem mc_X5_countUnproven : MV yX5_countUnproven cX5_countUnproven 3 (some .int) 0 := ⟨List.mem_of_getElem? (i := 588) (by decide +kernel), List.mem_of_getElem? (i := 31) (by decide +kernel), tin_3 (List.mem_of_getElem? (i := 58) (by rfl)), List.mem_of_getElem? (i := 52) (by decide +kernel), ⟨by decide +kernel, by decide +kernel⟩, by decide +kernel⟩
set_option maxRecDepth 100000 in
theorem mc_X5_countWrong : MV yX5_countWrong cX5_countWrong 7 (some .int) 1 := ⟨List.mem_of_getElem? (i := 600) (by decide +kernel), List.mem_of_getElem? (i := 34) (by decide +kernel), tin_3 (List.mem_of_getElem? (i := 70) (by rfl)), List.mem_of_getElem? (i := 52) (by decide +kernel), ⟨by decide +kernel, by decide +kernel⟩, by decide +kernel⟩
set_option maxRecDepth 100000 in
theorem mc_X5_countWrongAnywhere : MV yX5_countWrongAnywhere cX5_countWrongAnywhere 3 (some .int) 0 := ⟨List.mem_of_getElem? (i := 596) (by decide +kernel), List.mem_of_getElem? (i := 33) (by decide +kernel), tin_3 (List.mem_of_getElem? (i := 66) (by rfl)), List.mem_of_getElem? (i := 52) (by decide +kernel), ⟨by decide +kernel, by decide +kernel⟩, by decide +kernel⟩
set_option maxRecDepth 100000 in
theorem mc_X5_digest : MV yX5_digest cX5_digest 4 (some .long) 0 := ⟨List.mem_of_getElem? (i := 699) (by decide +kernel), List.mem_of_getElem? (i := 700) (by decide +kernel), tin_3 (List.mem_of_getElem? (i := 170) (by rfl)), List.mem_of_getElem? (i := 52) (by decide +kernel), ⟨by decide +kernel, by decide +kernel⟩, by decide +kernel⟩
set_option maxRecDepth 100000 in
theorem mc_X5_digestDesks : MV yX5_digestDesks cX5_digestDesks 8 (some .long) 1 := ⟨List.mem_of_getElem? (i := 745) (by decide +kernel), List.mem_of_getElem? (i := 50) (by decide +kernel), tin_3 (List.mem_of_getElem? (i := 215) (by rfl)), List.mem_of_getElem? (i := 52) (by decide +kernel), ⟨by decide +kernel, by decide +kernel⟩, by decide +kernel⟩
set_option maxRecDepth 100000 in
theorem mc_X5_digestLines : MV yX5_digestLines cX5_digestLines 7 (some .long) 1 := ⟨List.mem_of_getElem? (i := 733) (by decide +kernel), List.mem_of_getElem? (i := 49) (by decide +kernel), tin_3 (List.mem_of_getElem? (i := 203) (by rfl)), List.mem_of_getElem? (i := 52) (by decide +kernel), ⟨by decide +kernel, by decide +kernel⟩, by decide +kernel⟩
set_option maxRecDepth 100000 in
theorem mc_X5_digestStories : MV yX5_digestStories cX5_digestStories 8 (some .long) 1 := ⟨List.mem_of_getElem? (i := 707) (by decide +kernel), List.mem_of_getElem? (i := 46) (by decide +kernel), tin_3 (List.mem_of_getElem? (i := 177) (by rfl)), List.mem_of_getElem? (i := 52) (by decide +kernel), ⟨by decide +kernel, by decide +kernel⟩, by decide +kernel⟩
set_option maxRecDepth 100000 in
theorem mc_X5_digestTakes : MV yX5_digestTakes cX5_digestTakes 7 (some .long) 1 := ⟨List.mem_of_getElem? (i := 727) (by decide +kernel), List.mem_of_getElem? (i := 48) (by decide +kernel), tin_3 (List.mem_of_getElem? (i := 197) (by rfl)), List.mem_of_getElem? (i := 52) (by decide +kernel), ⟨by decide +kernel, by decide +kernel⟩, by decide +kernel⟩
set_option maxRecDepth 100000 in
theorem mc_X5_down : MV yX5_down cX5_down 4 (some .int) 2 := ⟨List.mem_of_getElem? (i := 454) (by decide +kernel), List.mem_of_getElem? (i := 455) (by decide +kernel), tin_2 (List.mem_of_getElem? (i := 165) (by rfl)), List.mem_of_getElem? (i := 52) (by decide +kernel), ⟨by decide +kernel, by decide +kernel⟩, by decide +kernel⟩
set_option maxRecDepth 100000 in
theorem mc_X5_factAt : MV yX5_factAt cX5_factAt 3 (some (FieldType.object "Slugwire$Fact")) 2 := ⟨List.mem_of_getElem? (i := 416) (by decide +kernel), List.mem_of_getElem? (i := 5) (by decide +kernel), tin_2 (List.mem_of_getElem? (i := 126) (by rfl)), List.mem_of_getElem? (i := 52) (by decide +kernel), ⟨by decide +kernel, by decide +kernel⟩, by decide +kernel⟩
set_option maxRecDepth 100000 in
theorem mc_X5_file : MV yX5_file cX5_file 8 (some .int) 5 := ⟨List.mem_of_getElem? (i := 623) (by decide +kernel), List.mem_of_getElem? (i := 624) (by decide +kernel), tin_3 (List.mem_of_getElem? (i := 94) (by rfl)), List.mem_of_getElem? (i := 52) (by decide +kernel), ⟨by decide +kernel, by decide +kernel⟩, by decide +kernel⟩
set_option maxRecDepth 100000 in
theorem mc_X5_firstHad : MV yX5_firstHad cX5_firstHad 6 (some .int) 2 := ⟨List.mem_of_getElem? (i := 542) (by decide +kernel), List.mem_of_getElem? (i := 24) (by decide +kernel), tin_3 (List.mem_of_getElem? (i := 12) (by rfl)), List.mem_of_getElem? (i := 52) (by decide +kernel), ⟨by decide +kernel, by decide +kernel⟩, by decide +kernel⟩
set_option maxRecDepth 100000 in
theorem mc_X5_firstHadAnywhere : MV yX5_firstHadAnywhere cX5_firstHadAnywhere 5 (some .int) 1 := ⟨List.mem_of_getElem? (i := 546) (by decide +kernel), List.mem_of_getElem? (i := 25) (by decide +kernel), tin_3 (List.mem_of_getElem? (i := 16) (by rfl)), List.mem_of_getElem? (i := 52) (by decide +kernel), ⟨by decide +kernel, by decide +kernel⟩, by decide +kernel⟩
set_option maxRecDepth 100000 in
theorem mc_X5_forceOf : MV yX5_forceOf cX5_forceOf 5 (some .int) 2 := ⟨List.mem_of_getElem? (i := 723) (by decide +kernel), List.mem_of_getElem? (i := 47) (by decide +kernel), tin_3 (List.mem_of_getElem? (i := 193) (by rfl)), List.mem_of_getElem? (i := 52) (by decide +kernel), ⟨by decide +kernel, by decide +kernel⟩, by decide +kernel⟩
set_option maxRecDepth 100000 in
theorem mc_X5_hasValues : MV yX5_hasValues cX5_hasValues 5 (some .boolean) 3 := ⟨List.mem_of_getElem? (i := 629) (by decide +kernel), List.mem_of_getElem? (i := 37) (by decide +kernel), tin_3 (List.mem_of_getElem? (i := 99) (by rfl)), List.mem_of_getElem? (i := 52) (by decide +kernel), ⟨by decide +kernel, by decide +kernel⟩, by decide +kernel⟩
set_option maxRecDepth 100000 in
theorem mc_X5_isDropped : MV yX5_isDropped cX5_isDropped 4 (some .boolean) 2 := ⟨List.mem_of_getElem? (i := 608) (by decide +kernel), List.mem_of_getElem? (i := 36) (by decide +kernel), tin_3 (List.mem_of_getElem? (i := 78) (by rfl)), List.mem_of_getElem? (i := 52) (by decide +kernel), ⟨by decide +kernel, by decide +kernel⟩, by decide +kernel⟩
set_option maxRecDepth 100000 in
theorem mc_X5_isFirst : MV yX5_isFirst cX5_isFirst 5 (some .boolean) 2 := ⟨List.mem_of_getElem? (i := 554) (by decide +kernel), List.mem_of_getElem? (i := 27) (by decide +kernel), tin_3 (List.mem_of_getElem? (i := 24) (by rfl)), List.mem_of_getElem? (i := 52) (by decide +kernel), ⟨by decide +kernel, by decide +kernel⟩, by decide +kernel⟩
set_option maxRecDepth 100000 in
theorem mc_X5_isInSet : MS yX5_isInSet cX5_isInSet 2 (some .boolean) 2 := ⟨List.mem_of_getElem? (i := 493) (by decide +kernel), tin_2 (List.mem_of_getElem? (i := 203) (by rfl)), List.mem_of_getElem? (i := 52) (by decide +kernel), ⟨by decide +kernel, by decide +kernel⟩, by decide +kernel⟩
set_option maxRecDepth 100000 in
theorem mc_X5_kill : MV yX5_kill cX5_kill 5 (some .int) 1 := ⟨List.mem_of_getElem? (i := 512) (by decide +kernel), List.mem_of_getElem? (i := 513) (by decide +kernel), tin_2 (List.mem_of_getElem? (i := 223) (by rfl)), List.mem_of_getElem? (i := 52) (by decide +kernel), ⟨by decide +kernel, by decide +kernel⟩, by decide +kernel⟩
set_option maxRecDepth 100000 in
theorem mc_X5_lead : MV yX5_lead cX5_lead 7 (some .int) 2 := ⟨List.mem_of_getElem? (i := 717) (by decide +kernel), List.mem_of_getElem? (i := 718) (by decide +kernel), tin_3 (List.mem_of_getElem? (i := 188) (by rfl)), List.mem_of_getElem? (i := 52) (by decide +kernel), ⟨by decide +kernel, by decide +kernel⟩, by decide +kernel⟩
set_option maxRecDepth 100000 in
theorem mc_X5_line : MV yX5_line cX5_line 3 (some .int) 2 := ⟨List.mem_of_getElem? (i := 391) (by decide +kernel), List.mem_of_getElem? (i := 392) (by decide +kernel), tin_2 (List.mem_of_getElem? (i := 102) (by rfl)), List.mem_of_getElem? (i := 52) (by decide +kernel), ⟨by decide +kernel, by decide +kernel⟩, by decide +kernel⟩
set_option maxRecDepth 100000 in
theorem mc_X5_many : MV yX5_many cX5_many 2 (some .int) 1 := ⟨List.mem_of_getElem? (i := 571) (by decide +kernel), List.mem_of_getElem? (i := 572) (by decide +kernel), tin_3 (List.mem_of_getElem? (i := 42) (by rfl)), List.mem_of_getElem? (i := 52) (by decide +kernel), ⟨by decide +kernel, by decide +kernel⟩, by decide +kernel⟩
set_option maxRecDepth 100000 in
theorem mc_X5_meanDelay : MV yX5_meanDelay cX5_meanDelay 5 (some .double) 0 := ⟨List.mem_of_getElem? (i := 754) (by decide +kernel), List.mem_of_getElem? (i := 755) (by decide +kernel), tin_3 (List.mem_of_getElem? (i := 225) (by rfl)), List.mem_of_getElem? (i := 52) (by decide +kernel), ⟨by decide +kernel, by decide +kernel⟩, by decide +kernel⟩
set_option maxRecDepth 100000 in
theorem mc_X5_needs : MV yX5_needs cX5_needs 10 (some .int) 4 := ⟨List.mem_of_getElem? (i := 711) (by decide +kernel), List.mem_of_getElem? (i := 712) (by decide +kernel), tin_3 (List.mem_of_getElem? (i := 182) (by rfl)), List.mem_of_getElem? (i := 52) (by decide +kernel), ⟨by decide +kernel, by decide +kernel⟩, by decide +kernel⟩
set_option maxRecDepth 100000 in
theorem mc_X5_ofFact : MV yX5_ofFact cX5_ofFact 5 (some .int) 3 := ⟨List.mem_of_getElem? (i := 525) (by decide +kernel), List.mem_of_getElem? (i := 526) (by decide +kernel), tin_2 (List.mem_of_getElem? (i := 236) (by rfl)), List.mem_of_getElem? (i := 52) (by decide +kernel), ⟨by decide +kernel, by decide +kernel⟩, by decide +kernel⟩
set_option maxRecDepth 100000 in
theorem mc_X5_ofLine : MV yX5_ofLine cX5_ofLine 4 (some .int) 2 := ⟨List.mem_of_getElem? (i := 671) (by decide +kernel), List.mem_of_getElem? (i := 672) (by decide +kernel), tin_3 (List.mem_of_getElem? (i := 142) (by rfl)), List.mem_of_getElem? (i := 52) (by decide +kernel), ⟨by decide +kernel, by decide +kernel⟩, by decide +kernel⟩
set_option maxRecDepth 100000 in
theorem mc_X5_ofTake : MV yX5_ofTake cX5_ofTake 4 (some .int) 2 := ⟨List.mem_of_getElem? (i := 562) (by decide +kernel), List.mem_of_getElem? (i := 563) (by decide +kernel), tin_3 (List.mem_of_getElem? (i := 33) (by rfl)), List.mem_of_getElem? (i := 52) (by decide +kernel), ⟨by decide +kernel, by decide +kernel⟩, by decide +kernel⟩
set_option maxRecDepth 100000 in
theorem mc_X5_pass : MV yX5_pass cX5_pass 5 (some .int) 1 := ⟨List.mem_of_getElem? (i := 688) (by decide +kernel), List.mem_of_getElem? (i := 689) (by decide +kernel), tin_3 (List.mem_of_getElem? (i := 159) (by rfl)), List.mem_of_getElem? (i := 52) (by decide +kernel), ⟨by decide +kernel, by decide +kernel⟩, by decide +kernel⟩
set_option maxRecDepth 100000 in
theorem mc_X5_proof : MV yX5_proof cX5_proof 5 (some .int) 4 := ⟨List.mem_of_getElem? (i := 558) (by decide +kernel), List.mem_of_getElem? (i := 559) (by decide +kernel), tin_3 (List.mem_of_getElem? (i := 29) (by rfl)), List.mem_of_getElem? (i := 52) (by decide +kernel), ⟨by decide +kernel, by decide +kernel⟩, by decide +kernel⟩
set_option maxRecDepth 100000 in
theorem mc_X5_report : MV yX5_report cX5_report 6 (some .int) 4 := ⟨List.mem_of_getElem? (i := 397) (by decide +kernel), List.mem_of_getElem? (i := 398) (by decide +kernel), tin_2 (List.mem_of_getElem? (i := 108) (by rfl)), List.mem_of_getElem? (i := 52) (by decide +kernel), ⟨by decide +kernel, by decide +kernel⟩, by decide +kernel⟩
set_option maxRecDepth 100000 in
theorem mc_X5_retract : MV yX5_retract cX5_retract 6 (some .int) 3 := ⟨List.mem_of_getElem? (i := 445) (by decide +kernel), List.mem_of_getElem? (i := 446) (by decide +kernel), tin_2 (List.mem_of_getElem? (i := 156) (by rfl)), List.mem_of_getElem? (i := 52) (by decide +kernel), ⟨by decide +kernel, by decide +kernel⟩, by decide +kernel⟩
set_option maxRecDepth 100000 in
theorem mc_X5_rival : MV yX5_rival cX5_rival 4 (some .boolean) 2 := ⟨List.mem_of_getElem? (i := 450) (by decide +kernel), List.mem_of_getElem? (i := 451) (by decide +kernel), tin_2 (List.mem_of_getElem? (i := 161) (by rfl)), List.mem_of_getElem? (i := 52) (by decide +kernel), ⟨by decide +kernel, by decide +kernel⟩, by decide +kernel⟩
set_option maxRecDepth 100000 in
theorem mc_X5_runOnAllLines : MV yX5_runOnAllLines cX5_runOnAllLines 3 (none) 1 := ⟨List.mem_of_getElem? (i := 501) (by decide +kernel), List.mem_of_getElem? (i := 16) (by decide +kernel), tin_2 (List.mem_of_getElem? (i := 211) (by rfl)), List.mem_of_getElem? (i := 52) (by decide +kernel), ⟨by decide +kernel, by decide +kernel⟩, by decide +kernel⟩
set_option maxRecDepth 100000 in
theorem mc_X5_says : MV yX5_says cX5_says 3 (some .int) 2 := ⟨List.mem_of_getElem? (i := 567) (by decide +kernel), List.mem_of_getElem? (i := 568) (by decide +kernel), tin_3 (List.mem_of_getElem? (i := 38) (by rfl)), List.mem_of_getElem? (i := 52) (by decide +kernel), ⟨by decide +kernel, by decide +kernel⟩, by decide +kernel⟩
set_option maxRecDepth 100000 in
theorem mc_X5_source : MV yX5_source cX5_source 3 (some .int) 2 := ⟨List.mem_of_getElem? (i := 271) (by decide +kernel), List.mem_of_getElem? (i := 272) (by decide +kernel), tin_1 (List.mem_of_getElem? (i := 222) (by rfl)), List.mem_of_getElem? (i := 52) (by decide +kernel), ⟨by decide +kernel, by decide +kernel⟩, by decide +kernel⟩
set_option maxRecDepth 100000 in
theorem mc_X5_state : MV yX5_state cX5_state 4 (some .int) 2 := ⟨List.mem_of_getElem? (i := 632) (by decide +kernel), List.mem_of_getElem? (i := 633) (by decide +kernel), tin_3 (List.mem_of_getElem? (i := 103) (by rfl)), List.mem_of_getElem? (i := 52) (by decide +kernel), ⟨by decide +kernel, by decide +kernel⟩, by decide +kernel⟩
set_option maxRecDepth 100000 in
theorem mc_X5_story : MV yX5_story cX5_story 1 (some .int) 0 := ⟨List.mem_of_getElem? (i := 386) (by decide +kernel), List.mem_of_getElem? (i := 387) (by decide +kernel), tin_2 (List.mem_of_getElem? (i := 97) (by rfl)), List.mem_of_getElem? (i := 52) (by decide +kernel), ⟨by decide +kernel, by decide +kernel⟩, by decide +kernel⟩
set_option maxRecDepth 100000 in
theorem mc_X5_tells : MV yX5_tells cX5_tells 4 (some .int) 3 := ⟨List.mem_of_getElem? (i := 748) (by decide +kernel), List.mem_of_getElem? (i := 749) (by decide +kernel), tin_3 (List.mem_of_getElem? (i := 219) (by rfl)), List.mem_of_getElem? (i := 52) (by decide +kernel), ⟨by decide +kernel, by decide +kernel⟩, by decide +kernel⟩
set_option maxRecDepth 100000 in
theorem mc_X5_toldAtDesk : MV yX5_toldAtDesk cX5_toldAtDesk 6 (some .int) 3 := ⟨List.mem_of_getElem? (i := 604) (by decide +kernel), List.mem_of_getElem? (i := 35) (by decide +kernel), tin_3 (List.mem_of_getElem? (i := 74) (by rfl)), List.mem_of_getElem? (i := 52) (by decide +kernel), ⟨by decide +kernel, by decide +kernel⟩, by decide +kernel⟩
set_option maxRecDepth 100000 in
theorem mc_X5_wordsFor : MS yX5_wordsFor cX5_wordsFor 2 (some .int) 2 := ⟨List.mem_of_getElem? (i := 484) (by decide +kernel), tin_2 (List.mem_of_getElem? (i := 194) (by rfl)), List.mem_of_getElem? (i := 52) (by decide +kernel), ⟨by decide +kernel, by decide +kernel⟩, by decide +kernel⟩
set_option maxRecDepth 100000 in
theorem mc_X5_wouldArrive : MV yX5_wouldArrive cX5_wouldArrive 4 (some .int) 3 := ⟨List.mem_of_getElem? (i := 737) (by decide +kernel), List.mem_of_getElem? (i := 738) (by decide +kernel), tin_3 (List.mem_of_getElem? (i := 208) (by rfl)), List.mem_of_getElem? (i := 52) (by decide +kernel), ⟨by decide +kernel, by decide +kernel⟩, by decide +kernel⟩
set_option maxRecDepth 100000 in
theorem mc_X0_init : MI yX0_init cX0_init 1 0 := ⟨List.mem_of_getElem? (i := 126) (by decide +kernel), rfl, tin_1 (List.mem_of_getElem? (i := 76) (by rfl)), List.mem_of_getElem? (i := 55) (by decide +kernel), ⟨by decide +kernel, by decide +kernel⟩, by decide +kernel⟩
set_option maxRecDepth 100000 in
theorem mc_X0_countSayers : MV yX0_countSayers cX0_countSayers 3 (some .int) 0 := ⟨List.mem_of_getElem? (i := 530) (by decide +kernel), List.mem_of_getElem? (i := 21) (by decide +kernel), tin_3 (List.mem_of_getElem? (i := 0) (by rfl)), List.mem_of_getElem? (i := 55) (by decide +kernel), ⟨by decide +kernel, by decide +kernel⟩, by decide +kernel⟩
set_option maxRecDepth 100000 in
theorem mc_X0_countValues : MV yX0_countValues cX0_countValues 3 (some .int) 0 := ⟨List.mem_of_getElem? (i := 534) (by decide +kernel), List.mem_of_getElem? (i := 22) (by decide +kernel), tin_3 (List.mem_of_getElem? (i := 4) (by rfl)), List.mem_of_getElem? (i := 55) (by decide +kernel), ⟨by decide +kernel, by decide +kernel⟩, by decide +kernel⟩
set_option maxRecDepth 100000 in
theorem mc_X0_isSaidAhead : MV yX0_isSaidAhead cX0_isSaidAhead 3 (some .boolean) 1 := ⟨List.mem_of_getElem? (i := 538) (by decide +kernel), List.mem_of_getElem? (i := 23) (by decide +kernel), tin_3 (List.mem_of_getElem? (i := 8) (by rfl)), List.mem_of_getElem? (i := 55) (by decide +kernel), ⟨by decide +kernel, by decide +kernel⟩, by decide +kernel⟩
set_option maxRecDepth 100000 in
theorem mc_X0_settle : MV yX0_settle cX0_settle 3 (none) 2 := ⟨List.mem_of_getElem? (i := 420) (by decide +kernel), List.mem_of_getElem? (i := 6) (by decide +kernel), tin_2 (List.mem_of_getElem? (i := 130) (by rfl)), List.mem_of_getElem? (i := 55) (by decide +kernel), ⟨by decide +kernel, by decide +kernel⟩, by decide +kernel⟩
set_option maxRecDepth 100000 in
theorem mc_X0_strongest : MV yX0_strongest cX0_strongest 10 (some .int) 4 := ⟨List.mem_of_getElem? (i := 424) (by decide +kernel), List.mem_of_getElem? (i := 7) (by decide +kernel), tin_2 (List.mem_of_getElem? (i := 134) (by rfl)), List.mem_of_getElem? (i := 55) (by decide +kernel), ⟨by decide +kernel, by decide +kernel⟩, by decide +kernel⟩
set_option maxRecDepth 100000 in
theorem mc_X0_valueToFile : MV yX0_valueToFile cX0_valueToFile 2 (some .int) 1 := ⟨List.mem_of_getElem? (i := 497) (by decide +kernel), List.mem_of_getElem? (i := 15) (by decide +kernel), tin_2 (List.mem_of_getElem? (i := 207) (by rfl)), List.mem_of_getElem? (i := 55) (by decide +kernel), ⟨by decide +kernel, by decide +kernel⟩, by decide +kernel⟩
set_option maxRecDepth 100000 in
theorem mc_X1_init : MI yX1_init cX1_init 1 0 := ⟨List.mem_of_getElem? (i := 201) (by decide +kernel), rfl, tin_1 (List.mem_of_getElem? (i := 151) (by rfl)), List.mem_of_getElem? (i := 58) (by decide +kernel), ⟨by decide +kernel, by decide +kernel⟩, by decide +kernel⟩
set_option maxRecDepth 100000 in
theorem mc_X1_copyFrom : MV yX1_copyFrom cX1_copyFrom 2 (none) 1 := ⟨List.mem_of_getElem? (i := 649) (by decide +kernel), List.mem_of_getElem? (i := 39) (by decide +kernel), tin_3 (List.mem_of_getElem? (i := 119) (by rfl)), List.mem_of_getElem? (i := 58) (by decide +kernel), ⟨by decide +kernel, by decide +kernel⟩, by decide +kernel⟩
set_option maxRecDepth 100000 in
theorem mc_X1_countWaiting : MV yX1_countWaiting cX1_countWaiting 3 (some .int) 0 := ⟨List.mem_of_getElem? (i := 676) (by decide +kernel), List.mem_of_getElem? (i := 43) (by decide +kernel), tin_3 (List.mem_of_getElem? (i := 146) (by rfl)), List.mem_of_getElem? (i := 58) (by decide +kernel), ⟨by decide +kernel, by decide +kernel⟩, by decide +kernel⟩
set_option maxRecDepth 100000 in
theorem mc_X1_countWordsLeft : MV yX1_countWordsLeft cX1_countWordsLeft 3 (some .int) 0 := ⟨List.mem_of_getElem? (i := 680) (by decide +kernel), List.mem_of_getElem? (i := 44) (by decide +kernel), tin_3 (List.mem_of_getElem? (i := 150) (by rfl)), List.mem_of_getElem? (i := 58) (by decide +kernel), ⟨by decide +kernel, by decide +kernel⟩, by decide +kernel⟩
set_option maxRecDepth 100000 in
theorem mc_X1_enqueue : MV yX1_enqueue cX1_enqueue 5 (none) 4 := ⟨List.mem_of_getElem? (i := 509) (by decide +kernel), List.mem_of_getElem? (i := 18) (by decide +kernel), tin_2 (List.mem_of_getElem? (i := 219) (by rfl)), List.mem_of_getElem? (i := 58) (by decide +kernel), ⟨by decide +kernel, by decide +kernel⟩, by decide +kernel⟩
set_option maxRecDepth 100000 in
theorem mc_X1_hasAtDesk : MV yX1_hasAtDesk cX1_hasAtDesk 3 (some .boolean) 2 := ⟨List.mem_of_getElem? (i := 550) (by decide +kernel), List.mem_of_getElem? (i := 26) (by decide +kernel), tin_3 (List.mem_of_getElem? (i := 20) (by rfl)), List.mem_of_getElem? (i := 58) (by decide +kernel), ⟨by decide +kernel, by decide +kernel⟩, by decide +kernel⟩
set_option maxRecDepth 100000 in
theorem mc_X1_isRunning : MV yX1_isRunning cX1_isRunning 2 (some .boolean) 1 := ⟨List.mem_of_getElem? (i := 637) (by decide +kernel), List.mem_of_getElem? (i := 38) (by decide +kernel), tin_3 (List.mem_of_getElem? (i := 107) (by rfl)), List.mem_of_getElem? (i := 58) (by decide +kernel), ⟨by decide +kernel, by decide +kernel⟩, by decide +kernel⟩
set_option maxRecDepth 100000 in
theorem mc_X1_isSent : MV yX1_isSent cX1_isSent 2 (some .boolean) 1 := ⟨List.mem_of_getElem? (i := 518) (by decide +kernel), List.mem_of_getElem? (i := 19) (by decide +kernel), tin_2 (List.mem_of_getElem? (i := 228) (by rfl)), List.mem_of_getElem? (i := 58) (by decide +kernel), ⟨by decide +kernel, by decide +kernel⟩, by decide +kernel⟩
set_option maxRecDepth 100000 in
theorem mc_X1_mostUrgent : MV yX1_mostUrgent cX1_mostUrgent 5 (some .int) 1 := ⟨List.mem_of_getElem? (i := 664) (by decide +kernel), List.mem_of_getElem? (i := 42) (by decide +kernel), tin_3 (List.mem_of_getElem? (i := 134) (by rfl)), List.mem_of_getElem? (i := 58) (by decide +kernel), ⟨by decide +kernel, by decide +kernel⟩, by decide +kernel⟩
set_option maxRecDepth 100000 in
theorem mc_X1_runMinute : MV yX1_runMinute cX1_runMinute 7 (some .int) 1 := ⟨List.mem_of_getElem? (i := 660) (by decide +kernel), List.mem_of_getElem? (i := 41) (by decide +kernel), tin_3 (List.mem_of_getElem? (i := 130) (by rfl)), List.mem_of_getElem? (i := 58) (by decide +kernel), ⟨by decide +kernel, by decide +kernel⟩, by decide +kernel⟩
set_option maxRecDepth 100000 in
theorem mc_X1_runUntilHad : MV yX1_runUntilHad cX1_runUntilHad 4 (some .int) 2 := ⟨List.mem_of_getElem? (i := 656) (by decide +kernel), List.mem_of_getElem? (i := 40) (by decide +kernel), tin_3 (List.mem_of_getElem? (i := 126) (by rfl)), List.mem_of_getElem? (i := 58) (by decide +kernel), ⟨by decide +kernel, by decide +kernel⟩, by decide +kernel⟩
set_option maxRecDepth 100000 in
theorem mc_X1_start : MV yX1_start cX1_start 3 (none) 2 := ⟨List.mem_of_getElem? (i := 505) (by decide +kernel), List.mem_of_getElem? (i := 17) (by decide +kernel), tin_2 (List.mem_of_getElem? (i := 215) (by rfl)), List.mem_of_getElem? (i := 58) (by decide +kernel), ⟨by decide +kernel, by decide +kernel⟩, by decide +kernel⟩
set_option maxRecDepth 100000 in
theorem mc_X1_stop : MV yX1_stop cX1_stop 2 (none) 1 := ⟨List.mem_of_getElem? (i := 522) (by decide +kernel), List.mem_of_getElem? (i := 20) (by decide +kernel), tin_2 (List.mem_of_getElem? (i := 232) (by rfl)), List.mem_of_getElem? (i := 58) (by decide +kernel), ⟨by decide +kernel, by decide +kernel⟩, by decide +kernel⟩
set_option maxRecDepth 100000 in
theorem mc_X2_init : MI yX2_init cX2_init 1 0 := ⟨List.mem_of_getElem? (i := 79) (by decide +kernel), rfl, tin_1 (List.mem_of_getElem? (i := 29) (by rfl)), List.mem_of_getElem? (i := 53) (by decide +kernel), ⟨by decide +kernel, by decide +kernel⟩, by decide +kernel⟩
set_option maxRecDepth 100000 in
theorem mc_X2_add : MV yX2_add cX2_add 4 (some .int) 2 := ⟨List.mem_of_getElem? (i := 383) (by decide +kernel), List.mem_of_getElem? (i := 2) (by decide +kernel), tin_2 (List.mem_of_getElem? (i := 93) (by rfl)), List.mem_of_getElem? (i := 53) (by decide +kernel), ⟨by decide +kernel, by decide +kernel⟩, by decide +kernel⟩
set_option maxRecDepth 100000 in
theorem mc_X3_init : MI yX3_init cX3_init 1 0 := ⟨List.mem_of_getElem? (i := 157) (by decide +kernel), rfl, tin_1 (List.mem_of_getElem? (i := 107) (by rfl)), List.mem_of_getElem? (i := 57) (by decide +kernel), ⟨by decide +kernel, by decide +kernel⟩, by decide +kernel⟩
set_option maxRecDepth 100000 in
theorem mc_X4_init : MI yX4_init cX4_init 1 0 := ⟨List.mem_of_getElem? (i := 101) (by decide +kernel), rfl, tin_1 (List.mem_of_getElem? (i := 51) (by rfl)), List.mem_of_getElem? (i := 54) (by decide +kernel), ⟨by decide +kernel, by decide +kernel⟩, by decide +kernel⟩
set_option maxRecDepth 100000 in
theorem mc_X4_addRoot : MV yX4_addRoot cX4_addRoot 2 (none) 1 := ⟨List.mem_of_getElem? (i := 436) (by decide +kernel), List.mem_of_getElem? (i := 9) (by decide +kernel), tin_2 (List.mem_of_getElem? (i := 146) (by rfl)), List.mem_of_getElem? (i := 54) (by decide +kernel), ⟨by decide +kernel, by decide +kernel⟩, by decide +kernel⟩
set_option maxRecDepth 100000 in
theorem mc_X4_proofGrade : MV yX4_proofGrade cX4_proofGrade 1 (some .int) 0 := ⟨List.mem_of_getElem? (i := 440) (by decide +kernel), List.mem_of_getElem? (i := 10) (by decide +kernel), tin_2 (List.mem_of_getElem? (i := 150) (by rfl)), List.mem_of_getElem? (i := 54) (by decide +kernel), ⟨by decide +kernel, by decide +kernel⟩, by decide +kernel⟩
set_option maxRecDepth 100000 in
theorem mc_X4_weigh : MV yX4_weigh cX4_weigh 6 (none) 3 := ⟨List.mem_of_getElem? (i := 428) (by decide +kernel), List.mem_of_getElem? (i := 8) (by decide +kernel), tin_2 (List.mem_of_getElem? (i := 138) (by rfl)), List.mem_of_getElem? (i := 54) (by decide +kernel), ⟨by decide +kernel, by decide +kernel⟩, by decide +kernel⟩
set_option maxRecDepth 100000 in
theorem mc_L_areKnown : MS yL_areKnown cL_areKnown 11 (some .boolean) 1 := ⟨List.mem_of_getElem? (i := 696) (by decide +kernel), tin_3 (List.mem_of_getElem? (i := 166) (by rfl)), List.mem_of_getElem? (i := 51) (by decide +kernel), ⟨by decide +kernel, by decide +kernel⟩, by decide +kernel⟩
set_option maxRecDepth 100000 in
theorem mc_L_below : MS yL_below cL_below 2 (some .int) 2 := ⟨List.mem_of_getElem? (i := 612) (by decide +kernel), tin_3 (List.mem_of_getElem? (i := 82) (by rfl)), List.mem_of_getElem? (i := 51) (by decide +kernel), ⟨by decide +kernel, by decide +kernel⟩, by decide +kernel⟩
set_option maxRecDepth 100000 in
theorem mc_L_cell : MS yL_cell cL_cell 2 (some .int) 2 := ⟨List.mem_of_getElem? (i := 616) (by decide +kernel), tin_3 (List.mem_of_getElem? (i := 86) (by rfl)), List.mem_of_getElem? (i := 51) (by decide +kernel), ⟨by decide +kernel, by decide +kernel⟩, by decide +kernel⟩
set_option maxRecDepth 100000 in
theorem mc_L_isFiled : MS yL_isFiled cL_isFiled 9 (some .boolean) 6 := ⟨List.mem_of_getElem? (i := 620) (by decide +kernel), tin_3 (List.mem_of_getElem? (i := 90) (by rfl)), List.mem_of_getElem? (i := 51) (by decide +kernel), ⟨by decide +kernel, by decide +kernel⟩, by decide +kernel⟩
set_option maxRecDepth 100000 in
theorem mc_L_isNeeded : MS yL_isNeeded cL_isNeeded 5 (some .boolean) 3 := ⟨List.mem_of_getElem? (i := 758) (by decide +kernel), tin_3 (List.mem_of_getElem? (i := 228) (by rfl)), List.mem_of_getElem? (i := 51) (by decide +kernel), ⟨by decide +kernel, by decide +kernel⟩, by decide +kernel⟩
set_option maxRecDepth 100000 in
theorem mc_L_isPassed : MS yL_isPassed cL_isPassed 12 (some .boolean) 4 := ⟨List.mem_of_getElem? (i := 640) (by decide +kernel), tin_3 (List.mem_of_getElem? (i := 110) (by rfl)), List.mem_of_getElem? (i := 51) (by decide +kernel), ⟨by decide +kernel, by decide +kernel⟩, by decide +kernel⟩
set_option maxRecDepth 100000 in
theorem mc_J6_bitCount_0f7a4 : MS yJ6_bitCount_0f7a4 cJ6_bitCount_0f7a4 1 (some .int) 1 := ⟨List.mem_of_getElem? (i := 487) (by decide +kernel), tin_2 (List.mem_of_getElem? (i := 197) (by rfl)), List.mem_of_getElem? (i := 66) (by decide +kernel), ⟨by decide +kernel, by decide +kernel⟩, by decide +kernel⟩
set_option maxRecDepth 100000 in
theorem mc_J9_max_7cf53 : MS yJ9_max_7cf53 cJ9_max_7cf53 2 (some .int) 2 := ⟨List.mem_of_getElem? (i := 432) (by decide +kernel), tin_2 (List.mem_of_getElem? (i := 142) (by rfl)), List.mem_of_getElem? (i := 65) (by decide +kernel), ⟨by decide +kernel, by decide +kernel⟩, by decide +kernel⟩
set_option maxRecDepth 100000 in
theorem mc_J9_min_7cf53 : MS yJ9_min_7cf53 cJ9_min_7cf53 2 (some .int) 2 := ⟨List.mem_of_getElem? (i := 667) (by decide +kernel), tin_3 (List.mem_of_getElem? (i := 137) (by rfl)), List.mem_of_getElem? (i := 65) (by decide +kernel), ⟨by decide +kernel, by decide +kernel⟩, by decide +kernel⟩
set_option maxRecDepth 100000 in
theorem mc_J7_fill_53178 : MS yJ7_fill_53178 cJ7_fill_53178 4 (none) 2 := ⟨List.mem_of_getElem? (i := 130) (by decide +kernel), tin_1 (List.mem_of_getElem? (i := 80) (by rfl)), List.mem_of_getElem? (i := 56) (by decide +kernel), ⟨by decide +kernel, by decide +kernel⟩, by decide +kernel⟩
