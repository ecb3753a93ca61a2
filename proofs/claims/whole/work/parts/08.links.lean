theorem tin_0 {w : Cond} (h : w ∈ tables_1) : w ∈ lw_tbl := List.mem_append_right _ h
theorem tin_1 {w : Cond} (h : w ∈ tables_1_1) : w ∈ lw_tbl := tin_0 (List.mem_append_left _ h)
theorem tin_2 {w : Cond} (h : w ∈ tables_1_2) : w ∈ lw_tbl := tin_0 (List.mem_append_right _ (List.mem_append_left _ h))
theorem tin_3 {w : Cond} (h : w ∈ tables_1_3) : w ∈ lw_tbl := tin_0 (List.mem_append_right _ (List.mem_append_right _ (List.mem_append_left _ h)))
theorem tin_4 {w : Cond} (h : w ∈ tables_1_4) : w ∈ lw_tbl := tin_0 (List.mem_append_right _ (List.mem_append_right _ (List.mem_append_right _ (List.mem_append_left _ h))))
theorem tin_5 {w : Cond} (h : w ∈ tables_1_5) : w ∈ lw_tbl := tin_0 (List.mem_append_right _ (List.mem_append_right _ (List.mem_append_right _ (List.mem_append_right _ (List.mem_append_left _ h)))))
theorem tin_6 {w : Cond} (h : w ∈ tables_1_6) : w ∈ lw_tbl := tin_0 (List.mem_append_right _ (List.mem_append_right _ (List.mem_append_right _ (List.mem_append_right _ (List.mem_append_right _ h)))))
theorem kc_1 : KC 1 RJx35411 := ⟨0, _, _, by decide, rfl⟩
theorem kc_2 : KC 2 RJx4a65c := ⟨1, _, _, by decide, rfl⟩
theorem kc_3 : KC 3 RX0 := ⟨2, _, _, by decide, rfl⟩
theorem kc_4 : KC 4 RX1 := ⟨3, _, _, by decide, rfl⟩
theorem kc_5 : KC 5 RX2 := ⟨4, _, _, by decide, rfl⟩
theorem kc_6 : KC 6 RX3 := ⟨5, _, _, by decide, rfl⟩
theorem kc_7 : KC 7 RX4 := ⟨6, _, _, by decide, rfl⟩
theorem kc_8 : KC 8 RX5 := ⟨7, _, _, by decide, rfl⟩
theorem kc_9 : KC 9 RX6 := ⟨8, _, _, by decide, rfl⟩
theorem kc_10 : KC 10 RX7 := ⟨9, _, _, by decide, rfl⟩
theorem kc_11 : KC 11 RX8 := ⟨10, _, _, by decide, rfl⟩
theorem kc_12 : KC 12 RX9 := ⟨11, _, _, by decide, rfl⟩
theorem kc_13 : KC 13 RX10 := ⟨12, _, _, by decide, rfl⟩
theorem nl_X5_7 : NL RX5 7 5 3 := ⟨4, _, _, by decide, rfl, List.mem_of_getElem? (i := 128) (by decide +kernel), List.mem_of_getElem? (i := 129) (by decide +kernel), List.mem_of_getElem? (i := 93) (by decide +kernel)⟩
theorem ml_X5_9 : ML RX5 9 yX2_init := Or.inr ⟨"Slugwire", List.mem_of_getElem? (i := 130) (by decide +kernel)⟩
theorem fl_X5_10 : FL RX5 10 8 140 (some true) (.object "Slugwire$Sources") := ⟨7, 0, _, _, _, "Slugwire", by decide, by decide, rfl, by decide, Or.inl (List.mem_of_getElem? (i := 292) (by decide +kernel)), Or.inl rfl, (fun b h => by cases h; rfl), by decide +kernel, (fun _ => ⟨rfl, List.mem_of_getElem? (i := 292) (by decide +kernel)⟩)⟩
theorem nl_X5_16 : NL RX5 16 7 5 := ⟨6, _, _, by decide, rfl, List.mem_of_getElem? (i := 151) (by decide +kernel), List.mem_of_getElem? (i := 152) (by decide +kernel), List.mem_of_getElem? (i := 94) (by decide +kernel)⟩
theorem ml_X5_18 : ML RX5 18 yX4_init := Or.inr ⟨"Slugwire", List.mem_of_getElem? (i := 153) (by decide +kernel)⟩
theorem fl_X5_19 : FL RX5 19 8 141 (some true) (.object "Slugwire$Tally") := ⟨7, 1, _, _, _, "Slugwire", by decide, by decide, rfl, by decide, Or.inl (List.mem_of_getElem? (i := 293) (by decide +kernel)), Or.inl rfl, (fun b h => by cases h; rfl), by decide +kernel, (fun _ => ⟨rfl, List.mem_of_getElem? (i := 293) (by decide +kernel)⟩)⟩
theorem wc_X5_23 : Cond.classLink RX5 23 "Slugwire$Fact" ∈ lw_tbl := List.mem_of_getElem? (i := 175) (by decide +kernel)
theorem nl_X5_23 : NL RX5 23 3 5 := ⟨2, _, _, by decide, rfl, List.mem_of_getElem? (i := 175) (by decide +kernel), List.mem_of_getElem? (i := 177) (by decide +kernel), List.mem_of_getElem? (i := 95) (by decide +kernel)⟩
theorem fl_X5_25 : FL RX5 25 8 142 (some true) (.array (.object "Slugwire$Fact")) := ⟨7, 2, _, _, _, "Slugwire", by decide, by decide, rfl, by decide, Or.inl (List.mem_of_getElem? (i := 294) (by decide +kernel)), Or.inl rfl, (fun b h => by cases h; rfl), by decide +kernel, (fun _ => ⟨rfl, List.mem_of_getElem? (i := 294) (by decide +kernel)⟩)⟩
theorem ml_X5_29 : ML RX5 29 yX0_init := Or.inr ⟨"Slugwire", List.mem_of_getElem? (i := 178) (by decide +kernel)⟩
theorem wc_X5_30 : Cond.classLink RX5 30 "Slugwire$Take" ∈ lw_tbl := List.mem_of_getElem? (i := 206) (by decide +kernel)
theorem nl_X5_30 : NL RX5 30 6 10 := ⟨5, _, _, by decide, rfl, List.mem_of_getElem? (i := 206) (by decide +kernel), List.mem_of_getElem? (i := 208) (by decide +kernel), List.mem_of_getElem? (i := 97) (by decide +kernel)⟩
theorem fl_X5_32 : FL RX5 32 8 143 (some true) (.array (.object "Slugwire$Take")) := ⟨7, 3, _, _, _, "Slugwire", by decide, by decide, rfl, by decide, Or.inl (List.mem_of_getElem? (i := 295) (by decide +kernel)), Or.inl rfl, (fun b h => by cases h; rfl), by decide +kernel, (fun _ => ⟨rfl, List.mem_of_getElem? (i := 295) (by decide +kernel)⟩)⟩
theorem ml_X5_36 : ML RX5 36 yX3_init := Or.inr ⟨"Slugwire", List.mem_of_getElem? (i := 209) (by decide +kernel)⟩
theorem wc_X5_37 : Cond.classLink RX5 37 "Slugwire$Line" ∈ lw_tbl := List.mem_of_getElem? (i := 250) (by decide +kernel)
theorem nl_X5_37 : NL RX5 37 4 9 := ⟨3, _, _, by decide, rfl, List.mem_of_getElem? (i := 250) (by decide +kernel), List.mem_of_getElem? (i := 252) (by decide +kernel), List.mem_of_getElem? (i := 98) (by decide +kernel)⟩
theorem fl_X5_39 : FL RX5 39 8 144 (some true) (.array (.object "Slugwire$Line")) := ⟨7, 4, _, _, _, "Slugwire", by decide, by decide, rfl, by decide, Or.inl (List.mem_of_getElem? (i := 296) (by decide +kernel)), Or.inl rfl, (fun b h => by cases h; rfl), by decide +kernel, (fun _ => ⟨rfl, List.mem_of_getElem? (i := 296) (by decide +kernel)⟩)⟩
theorem ml_X5_43 : ML RX5 43 yX1_init := Or.inr ⟨"Slugwire", List.mem_of_getElem? (i := 253) (by decide +kernel)⟩
theorem fl_X5_44 : FL RX5 44 8 145 (some true) (.object "Slugwire$Line") := ⟨7, 5, _, _, _, "Slugwire", by decide, by decide, rfl, by decide, Or.inl (List.mem_of_getElem? (i := 297) (by decide +kernel)), Or.inl rfl, (fun b h => by cases h; rfl), by decide +kernel, (fun _ => ⟨rfl, List.mem_of_getElem? (i := 297) (by decide +kernel)⟩)⟩
theorem ml_X5_48 : ML RX5 48 yX5_checkSource := Or.inl (List.mem_of_getElem? (i := 678) (by decide +kernel))
theorem ml_X5_52 : ML RX5 52 yX5_checkWeight := Or.inl (List.mem_of_getElem? (i := 522) (by decide +kernel))
theorem fl_X5_55 : FL RX5 55 5 82 (some false) .int := ⟨4, 2, _, _, _, "Slugwire$Sources", by decide, by decide, rfl, by decide, Or.inr ⟨"Slugwire", List.mem_of_getElem? (i := 141) (by decide +kernel)⟩, Or.inl rfl, (fun b h => by cases h; rfl), by decide +kernel, (fun h => by cases h)⟩
theorem ml_X5_66 : ML RX5 66 yX2_add := Or.inr ⟨"Slugwire", List.mem_of_getElem? (i := 699) (by decide +kernel)⟩
theorem fl_X5_70 : FL RX5 70 8 146 (some false) .int := ⟨7, 6, _, _, _, "Slugwire", by decide, by decide, rfl, by decide, Or.inl (List.mem_of_getElem? (i := 298) (by decide +kernel)), Or.inl rfl, (fun b h => by cases h; rfl), by decide +kernel, (fun h => by cases h)⟩
theorem fl_X5_80 : FL RX5 80 8 148 (some false) .int := ⟨7, 8, _, _, _, "Slugwire", by decide, by decide, rfl, by decide, Or.inl (List.mem_of_getElem? (i := 300) (by decide +kernel)), Or.inl rfl, (fun b h => by cases h; rfl), by decide +kernel, (fun h => by cases h)⟩
theorem fl_X5_85 : FL RX5 85 4 64 (some false) .int := ⟨3, 4, _, _, _, "Slugwire$Line", by decide, by decide, rfl, by decide, Or.inr ⟨"Slugwire", List.mem_of_getElem? (i := 265) (by decide +kernel)⟩, Or.inl rfl, (fun b h => by cases h; rfl), by decide +kernel, (fun h => by cases h)⟩
theorem fl_X5_88 : FL RX5 88 4 65 (some false) .int := ⟨3, 5, _, _, _, "Slugwire$Line", by decide, by decide, rfl, by decide, Or.inr ⟨"Slugwire", List.mem_of_getElem? (i := 267) (by decide +kernel)⟩, Or.inl rfl, (fun b h => by cases h; rfl), by decide +kernel, (fun h => by cases h)⟩
theorem ml_X5_91 : ML RX5 91 yX5_checkFact := Or.inl (List.mem_of_getElem? (i := 476) (by decide +kernel))
theorem ml_X5_95 : ML RX5 95 yX5_checkValue := Or.inl (List.mem_of_getElem? (i := 518) (by decide +kernel))
theorem ml_X5_98 : ML RX5 98 yX5_factAt := Or.inl (List.mem_of_getElem? (i := 380) (by decide +kernel))
theorem fl_X5_102 : FL RX5 102 3 40 none (.array .int) := ⟨2, 0, _, _, _, "Slugwire$Fact", by decide, by decide, rfl, by decide, Or.inr ⟨"Slugwire", List.mem_of_getElem? (i := 186) (by decide +kernel)⟩, Or.inl rfl, (fun b h => by cases h), by decide +kernel, (fun h => by cases h)⟩
theorem ml_X5_106 : ML RX5 106 yX0_settle := Or.inr ⟨"Slugwire", List.mem_of_getElem? (i := 727) (by decide +kernel)⟩
theorem ml_X5_110 : ML RX5 110 yX4_weigh := Or.inr ⟨"Slugwire", List.mem_of_getElem? (i := 544) (by decide +kernel)⟩
theorem ml_X5_114 : ML RX5 114 yX4_proofGrade := Or.inr ⟨"Slugwire", List.mem_of_getElem? (i := 545) (by decide +kernel)⟩
theorem fl_X5_120 : FL RX5 120 3 44 (some false) .int := ⟨2, 4, _, _, _, "Slugwire$Fact", by decide, by decide, rfl, by decide, Or.inr ⟨"Slugwire", List.mem_of_getElem? (i := 194) (by decide +kernel)⟩, Or.inl rfl, (fun b h => by cases h; rfl), by decide +kernel, (fun h => by cases h)⟩
theorem fl_X5_123 : FL RX5 123 8 149 (some false) .int := ⟨7, 9, _, _, _, "Slugwire", by decide, by decide, rfl, by decide, Or.inl (List.mem_of_getElem? (i := 301) (by decide +kernel)), Or.inl rfl, (fun b h => by cases h; rfl), by decide +kernel, (fun h => by cases h)⟩
theorem ml_X5_126 : ML RX5 126 yX5_checkLine := Or.inl (List.mem_of_getElem? (i := 602) (by decide +kernel))
theorem fl_X5_131 : FL RX5 131 4 66 (some false) .int := ⟨3, 6, _, _, _, "Slugwire$Line", by decide, by decide, rfl, by decide, Or.inr ⟨"Slugwire", List.mem_of_getElem? (i := 269) (by decide +kernel)⟩, Or.inl rfl, (fun b h => by cases h; rfl), by decide +kernel, (fun h => by cases h)⟩
theorem ml_X5_134 : ML RX5 134 yX5_checkStory := Or.inl (List.mem_of_getElem? (i := 480) (by decide +kernel))
theorem ml_X5_139 : ML RX5 139 yX5_checkRoomForTake := Or.inl (List.mem_of_getElem? (i := 763) (by decide +kernel))
theorem ml_X5_142 : ML RX5 142 yX5_hasValues := Or.inl (List.mem_of_getElem? (i := 552) (by decide +kernel))
theorem ml_X5_146 : ML RX5 146 yJ6_bitCount_0f7a4 := Or.inl (List.mem_of_getElem? (i := 566) (by decide +kernel))
theorem ml_X5_152 : ML RX5 152 yX5_addTake := Or.inl (List.mem_of_getElem? (i := 768) (by decide +kernel))
theorem ml_X5_156 : ML RX5 156 yX5_runOnAllLines := Or.inl (List.mem_of_getElem? (i := 772) (by decide +kernel))
theorem ml_X5_159 : ML RX5 159 yX5_checkTake := Or.inl (List.mem_of_getElem? (i := 584) (by decide +kernel))
theorem fl_X5_162 : FL RX5 162 6 100 none (.array .int) := ⟨5, 0, _, _, _, "Slugwire$Take", by decide, by decide, rfl, by decide, Or.inr ⟨"Slugwire", List.mem_of_getElem? (i := 214) (by decide +kernel)⟩, Or.inl rfl, (fun b h => by cases h), by decide +kernel, (fun h => by cases h)⟩
theorem fl_X5_167 : FL RX5 167 6 108 (some false) .int := ⟨5, 8, _, _, _, "Slugwire$Take", by decide, by decide, rfl, by decide, Or.inr ⟨"Slugwire", List.mem_of_getElem? (i := 227) (by decide +kernel)⟩, Or.inl rfl, (fun b h => by cases h; rfl), by decide +kernel, (fun h => by cases h)⟩
theorem fl_X5_172 : FL RX5 172 6 101 (some false) .int := ⟨5, 1, _, _, _, "Slugwire$Take", by decide, by decide, rfl, by decide, Or.inr ⟨"Slugwire", List.mem_of_getElem? (i := 215) (by decide +kernel)⟩, Or.inl rfl, (fun b h => by cases h; rfl), by decide +kernel, (fun h => by cases h)⟩
theorem fl_X5_175 : FL RX5 175 3 41 (some false) .int := ⟨2, 1, _, _, _, "Slugwire$Fact", by decide, by decide, rfl, by decide, Or.inr ⟨"Slugwire", List.mem_of_getElem? (i := 188) (by decide +kernel)⟩, Or.inl rfl, (fun b h => by cases h; rfl), by decide +kernel, (fun h => by cases h)⟩
theorem fl_X5_178 : FL RX5 178 6 102 (some false) .int := ⟨5, 2, _, _, _, "Slugwire$Take", by decide, by decide, rfl, by decide, Or.inr ⟨"Slugwire", List.mem_of_getElem? (i := 217) (by decide +kernel)⟩, Or.inl rfl, (fun b h => by cases h; rfl), by decide +kernel, (fun h => by cases h)⟩
theorem ml_X5_183 : ML RX5 183 yX1_isSent := Or.inr ⟨"Slugwire", List.mem_of_getElem? (i := 327) (by decide +kernel)⟩
theorem ml_X5_187 : ML RX5 187 yX1_start := Or.inr ⟨"Slugwire", List.mem_of_getElem? (i := 776) (by decide +kernel)⟩
theorem ml_X5_191 : ML RX5 191 yX1_stop := Or.inr ⟨"Slugwire", List.mem_of_getElem? (i := 798) (by decide +kernel)⟩
theorem ml_X5_198 : ML RX5 198 yX1_runMinute := Or.inr ⟨"Slugwire", List.mem_of_getElem? (i := 811) (by decide +kernel)⟩
theorem fl_X5_201 : FL RX5 201 5 81 none (.array .int) := ⟨4, 1, _, _, _, "Slugwire$Sources", by decide, by decide, rfl, by decide, Or.inr ⟨"Slugwire", List.mem_of_getElem? (i := 138) (by decide +kernel)⟩, Or.inl rfl, (fun b h => by cases h), by decide +kernel, (fun h => by cases h)⟩
theorem fl_X5_204 : FL RX5 204 3 43 (some false) .int := ⟨2, 3, _, _, _, "Slugwire$Fact", by decide, by decide, rfl, by decide, Or.inr ⟨"Slugwire", List.mem_of_getElem? (i := 192) (by decide +kernel)⟩, Or.inl rfl, (fun b h => by cases h; rfl), by decide +kernel, (fun h => by cases h)⟩
theorem ml_X5_207 : ML RX5 207 yX0_countSayers := Or.inr ⟨"Slugwire", List.mem_of_getElem? (i := 501) (by decide +kernel)⟩
theorem ml_X5_210 : ML RX5 210 yX0_countValues := Or.inr ⟨"Slugwire", List.mem_of_getElem? (i := 505) (by decide +kernel)⟩
theorem ml_X5_213 : ML RX5 213 yX5_firstHad := Or.inl (List.mem_of_getElem? (i := 368) (by decide +kernel))
theorem ml_X5_216 : ML RX5 216 yX5_isFirst := Or.inl (List.mem_of_getElem? (i := 364) (by decide +kernel))
theorem fl_X5_222 : FL RX5 222 7 124 (some false) .int := ⟨6, 4, _, _, _, "Slugwire$Tally", by decide, by decide, rfl, by decide, Or.inr ⟨"Slugwire", List.mem_of_getElem? (i := 163) (by decide +kernel)⟩, Or.inl rfl, (fun b h => by cases h; rfl), by decide +kernel, (fun h => by cases h)⟩
theorem fl_X5_225 : FL RX5 225 6 103 (some false) .int := ⟨5, 3, _, _, _, "Slugwire$Take", by decide, by decide, rfl, by decide, Or.inr ⟨"Slugwire", List.mem_of_getElem? (i := 218) (by decide +kernel)⟩, Or.inl rfl, (fun b h => by cases h; rfl), by decide +kernel, (fun h => by cases h)⟩
theorem fl_X5_228 : FL RX5 228 6 104 (some false) .int := ⟨5, 4, _, _, _, "Slugwire$Take", by decide, by decide, rfl, by decide, Or.inr ⟨"Slugwire", List.mem_of_getElem? (i := 220) (by decide +kernel)⟩, Or.inl rfl, (fun b h => by cases h; rfl), by decide +kernel, (fun h => by cases h)⟩
theorem fl_X5_231 : FL RX5 231 6 105 (some false) .int := ⟨5, 5, _, _, _, "Slugwire$Take", by decide, by decide, rfl, by decide, Or.inr ⟨"Slugwire", List.mem_of_getElem? (i := 222) (by decide +kernel)⟩, Or.inl rfl, (fun b h => by cases h; rfl), by decide +kernel, (fun h => by cases h)⟩
theorem fl_X5_234 : FL RX5 234 6 106 (some false) .boolean := ⟨5, 6, _, _, _, "Slugwire$Take", by decide, by decide, rfl, by decide, Or.inr ⟨"Slugwire", List.mem_of_getElem? (i := 223) (by decide +kernel)⟩, Or.inl rfl, (fun b h => by cases h; rfl), by decide +kernel, (fun h => by cases h)⟩
theorem fl_X5_238 : FL RX5 238 6 107 (some false) .int := ⟨5, 7, _, _, _, "Slugwire$Take", by decide, by decide, rfl, by decide, Or.inr ⟨"Slugwire", List.mem_of_getElem? (i := 225) (by decide +kernel)⟩, Or.inl rfl, (fun b h => by cases h; rfl), by decide +kernel, (fun h => by cases h)⟩
theorem fl_X5_241 : FL RX5 241 6 109 (some false) .int := ⟨5, 9, _, _, _, "Slugwire$Take", by decide, by decide, rfl, by decide, Or.inr ⟨"Slugwire", List.mem_of_getElem? (i := 228) (by decide +kernel)⟩, Or.inl rfl, (fun b h => by cases h; rfl), by decide +kernel, (fun h => by cases h)⟩
theorem ml_X5_251 : ML RX5 251 yX1_isRunning := Or.inr ⟨"Slugwire", List.mem_of_getElem? (i := 656) (by decide +kernel)⟩
theorem fl_X5_254 : FL RX5 254 4 60 none (.array .int) := ⟨3, 0, _, _, _, "Slugwire$Line", by decide, by decide, rfl, by decide, Or.inr ⟨"Slugwire", List.mem_of_getElem? (i := 259) (by decide +kernel)⟩, Or.inl rfl, (fun b h => by cases h), by decide +kernel, (fun h => by cases h)⟩
theorem ml_X5_257 : ML RX5 257 yX1_hasAtDesk := Or.inr ⟨"Slugwire", List.mem_of_getElem? (i := 376) (by decide +kernel)⟩
theorem ml_X5_260 : ML RX5 260 yX5_isDropped := Or.inl (List.mem_of_getElem? (i := 396) (by decide +kernel))
theorem ml_X5_263 : ML RX5 263 yX5_toldAtDesk := Or.inl (List.mem_of_getElem? (i := 392) (by decide +kernel))
theorem ml_X5_267 : ML RX5 267 yX1_countWaiting := Or.inr ⟨"Slugwire", List.mem_of_getElem? (i := 607) (by decide +kernel)⟩
theorem ml_X5_270 : ML RX5 270 yX1_countWordsLeft := Or.inr ⟨"Slugwire", List.mem_of_getElem? (i := 611) (by decide +kernel)⟩
theorem fl_X5_273 : FL RX5 273 4 67 (some false) .int := ⟨3, 7, _, _, _, "Slugwire$Line", by decide, by decide, rfl, by decide, Or.inr ⟨"Slugwire", List.mem_of_getElem? (i := 271) (by decide +kernel)⟩, Or.inl rfl, (fun b h => by cases h; rfl), by decide +kernel, (fun h => by cases h)⟩
theorem ml_X5_276 : ML RX5 276 yX5_countTold := Or.inl (List.mem_of_getElem? (i := 615) (by decide +kernel))
theorem ml_X5_279 : ML RX5 279 yX5_countWrong := Or.inl (List.mem_of_getElem? (i := 388) (by decide +kernel))
theorem fl_X5_284 : FL RX5 284 8 147 (some false) .int := ⟨7, 7, _, _, _, "Slugwire", by decide, by decide, rfl, by decide, Or.inl (List.mem_of_getElem? (i := 299) (by decide +kernel)), Or.inl rfl, (fun b h => by cases h; rfl), by decide +kernel, (fun h => by cases h)⟩
theorem ml_X5_287 : ML RX5 287 yX5_countKilled := Or.inl (List.mem_of_getElem? (i := 344) (by decide +kernel))
theorem ml_X5_290 : ML RX5 290 yX5_countCorrections := Or.inl (List.mem_of_getElem? (i := 348) (by decide +kernel))
theorem ml_X5_293 : ML RX5 293 yX5_countTruths := Or.inl (List.mem_of_getElem? (i := 352) (by decide +kernel))
theorem ml_X5_296 : ML RX5 296 yX5_countUnproven := Or.inl (List.mem_of_getElem? (i := 356) (by decide +kernel))
theorem ml_X5_299 : ML RX5 299 yX5_countFirsts := Or.inl (List.mem_of_getElem? (i := 360) (by decide +kernel))
theorem ml_X5_302 : ML RX5 302 yX5_countWrongAnywhere := Or.inl (List.mem_of_getElem? (i := 384) (by decide +kernel))
theorem fl_X5_307 : FL RX5 307 4 63 none (.array .int) := ⟨3, 3, _, _, _, "Slugwire$Line", by decide, by decide, rfl, by decide, Or.inr ⟨"Slugwire", List.mem_of_getElem? (i := 263) (by decide +kernel)⟩, Or.inl rfl, (fun b h => by cases h), by decide +kernel, (fun h => by cases h)⟩
theorem ml_X5_310 : ML RX5 310 yJ9_max_7cf53 := Or.inl (List.mem_of_getElem? (i := 331) (by decide +kernel))
theorem ml_X5_315 : ML RX5 315 yX1_copyFrom := Or.inr ⟨"Slugwire", List.mem_of_getElem? (i := 625) (by decide +kernel)⟩
theorem ml_X5_319 : ML RX5 319 yX1_runUntilHad := Or.inr ⟨"Slugwire", List.mem_of_getElem? (i := 636) (by decide +kernel)⟩
theorem ml_X5_324 : ML RX5 324 yX1_enqueue := Or.inr ⟨"Slugwire", List.mem_of_getElem? (i := 632) (by decide +kernel)⟩
theorem ml_X5_328 : ML RX5 328 yX0_strongest := Or.inr ⟨"Slugwire", List.mem_of_getElem? (i := 526) (by decide +kernel)⟩
theorem ml_X5_332 : ML RX5 332 yX4_addRoot := Or.inr ⟨"Slugwire", List.mem_of_getElem? (i := 546) (by decide +kernel)⟩
theorem ml_X5_337 : ML RX5 337 yX5_wordsFor := Or.inl (List.mem_of_getElem? (i := 563) (by decide +kernel))
theorem ml_X5_340 : ML RX5 340 yX5_forceOf := Or.inl (List.mem_of_getElem? (i := 572) (by decide +kernel))
theorem ml_X5_347 : ML RX5 347 yX5_many := Or.inl (List.mem_of_getElem? (i := 340) (by decide +kernel))
theorem ml_X5_350 : ML RX5 350 yX5_digestStories := Or.inl (List.mem_of_getElem? (i := 468) (by decide +kernel))
theorem ml_X5_354 : ML RX5 354 yX5_digestTakes := Or.inl (List.mem_of_getElem? (i := 576) (by decide +kernel))
theorem ml_X5_357 : ML RX5 357 yX5_digestLines := Or.inl (List.mem_of_getElem? (i := 594) (by decide +kernel))
theorem ml_X5_360 : ML RX5 360 yX5_digestDesks := Or.inl (List.mem_of_getElem? (i := 660) (by decide +kernel))
theorem ml_X5_363 : ML RX5 363 yX5_ofFact := Or.inl (List.mem_of_getElem? (i := 472) (by decide +kernel))
theorem ml_X5_366 : ML RX5 366 yX5_needs := Or.inl (List.mem_of_getElem? (i := 514) (by decide +kernel))
theorem ml_X5_370 : ML RX5 370 yX5_lead := Or.inl (List.mem_of_getElem? (i := 547) (by decide +kernel))
theorem ml_X5_373 : ML RX5 373 yX5_ofTake := Or.inl (List.mem_of_getElem? (i := 580) (by decide +kernel))
theorem ml_X5_376 : ML RX5 376 yX5_says := Or.inl (List.mem_of_getElem? (i := 590) (by decide +kernel))
theorem ml_X5_379 : ML RX5 379 yX5_ofLine := Or.inl (List.mem_of_getElem? (i := 598) (by decide +kernel))
theorem ml_X5_382 : ML RX5 382 yX5_wouldArrive := Or.inl (List.mem_of_getElem? (i := 620) (by decide +kernel))
theorem ml_X5_385 : ML RX5 385 yX5_state := Or.inl (List.mem_of_getElem? (i := 652) (by decide +kernel))
theorem ml_X5_388 : ML RX5 388 yX5_tells := Or.inl (List.mem_of_getElem? (i := 664) (by decide +kernel))
theorem ml_X5_405 : ML RX5 405 yX5_isInSet := Or.inl (List.mem_of_getElem? (i := 556) (by decide +kernel))
theorem ml_X5_408 : ML RX5 408 yX0_valueToFile := Or.inr ⟨"Slugwire", List.mem_of_getElem? (i := 559) (by decide +kernel)⟩
theorem fl_X5_412 : FL RX5 412 3 42 (some false) .int := ⟨2, 2, _, _, _, "Slugwire$Fact", by decide, by decide, rfl, by decide, Or.inr ⟨"Slugwire", List.mem_of_getElem? (i := 190) (by decide +kernel)⟩, Or.inl rfl, (fun b h => by cases h; rfl), by decide +kernel, (fun h => by cases h)⟩
theorem ml_X5_415 : ML RX5 415 yX5_firstHadAnywhere := Or.inl (List.mem_of_getElem? (i := 372) (by decide +kernel))
theorem fl_X0_9 : FL RX0 9 3 40 (some true) (.array .int) := ⟨2, 0, _, _, _, "Slugwire$Fact", by decide, by decide, rfl, by decide, Or.inl (List.mem_of_getElem? (i := 185) (by decide +kernel)), Or.inl rfl, (fun b h => by cases h; rfl), by decide +kernel, (fun _ => ⟨rfl, List.mem_of_getElem? (i := 185) (by decide +kernel)⟩)⟩
theorem fl_X0_15 : FL RX0 15 3 41 (some false) .int := ⟨2, 1, _, _, _, "Slugwire$Fact", by decide, by decide, rfl, by decide, Or.inl (List.mem_of_getElem? (i := 187) (by decide +kernel)), Or.inl rfl, (fun b h => by cases h; rfl), by decide +kernel, (fun h => by cases h)⟩
theorem fl_X0_19 : FL RX0 19 3 43 (some false) .int := ⟨2, 3, _, _, _, "Slugwire$Fact", by decide, by decide, rfl, by decide, Or.inl (List.mem_of_getElem? (i := 191) (by decide +kernel)), Or.inl rfl, (fun b h => by cases h; rfl), by decide +kernel, (fun h => by cases h)⟩
theorem fl_X0_22 : FL RX0 22 3 44 (some false) .int := ⟨2, 4, _, _, _, "Slugwire$Fact", by decide, by decide, rfl, by decide, Or.inl (List.mem_of_getElem? (i := 193) (by decide +kernel)), Or.inl rfl, (fun b h => by cases h; rfl), by decide +kernel, (fun h => by cases h)⟩
theorem ml_X0_25 : ML RX0 25 yJ7_fill_53178 := Or.inl (List.mem_of_getElem? (i := 182) (by decide +kernel))
theorem ml_X0_31 : ML RX0 31 yX0_strongest := Or.inl (List.mem_of_getElem? (i := 731) (by decide +kernel))
theorem fl_X0_35 : FL RX0 35 3 42 (some false) .int := ⟨2, 2, _, _, _, "Slugwire$Fact", by decide, by decide, rfl, by decide, Or.inl (List.mem_of_getElem? (i := 189) (by decide +kernel)), Or.inl rfl, (fun b h => by cases h; rfl), by decide +kernel, (fun h => by cases h)⟩
theorem ml_X0_38 : ML RX0 38 yX4_weigh := Or.inr ⟨"Slugwire", List.mem_of_getElem? (i := 530) (by decide +kernel)⟩
theorem fl_X0_44 : FL RX0 44 7 124 (some false) .int := ⟨6, 4, _, _, _, "Slugwire$Tally", by decide, by decide, rfl, by decide, Or.inr ⟨"Slugwire", List.mem_of_getElem? (i := 161) (by decide +kernel)⟩, Or.inl rfl, (fun b h => by cases h; rfl), by decide +kernel, (fun h => by cases h)⟩
theorem fl_X0_47 : FL RX0 47 5 82 (some false) .int := ⟨4, 2, _, _, _, "Slugwire$Sources", by decide, by decide, rfl, by decide, Or.inr ⟨"Slugwire", List.mem_of_getElem? (i := 142) (by decide +kernel)⟩, Or.inl rfl, (fun b h => by cases h; rfl), by decide +kernel, (fun h => by cases h)⟩
theorem ml_X0_52 : ML RX0 52 yX4_proofGrade := Or.inr ⟨"Slugwire", List.mem_of_getElem? (i := 540) (by decide +kernel)⟩
theorem ml_X0_56 : ML RX0 56 yX0_isSaidAhead := Or.inl (List.mem_of_getElem? (i := 509) (by decide +kernel))
theorem fl_X1_11 : FL RX1 11 4 60 (some true) (.array .int) := ⟨3, 0, _, _, _, "Slugwire$Line", by decide, by decide, rfl, by decide, Or.inl (List.mem_of_getElem? (i := 258) (by decide +kernel)), Or.inl rfl, (fun b h => by cases h; rfl), by decide +kernel, (fun _ => ⟨rfl, List.mem_of_getElem? (i := 258) (by decide +kernel)⟩)⟩
theorem fl_X1_15 : FL RX1 15 4 61 (some true) (.array .int) := ⟨3, 1, _, _, _, "Slugwire$Line", by decide, by decide, rfl, by decide, Or.inl (List.mem_of_getElem? (i := 260) (by decide +kernel)), Or.inl rfl, (fun b h => by cases h; rfl), by decide +kernel, (fun _ => ⟨rfl, List.mem_of_getElem? (i := 260) (by decide +kernel)⟩)⟩
theorem fl_X1_18 : FL RX1 18 4 62 (some true) (.array .int) := ⟨3, 2, _, _, _, "Slugwire$Line", by decide, by decide, rfl, by decide, Or.inl (List.mem_of_getElem? (i := 261) (by decide +kernel)), Or.inl rfl, (fun b h => by cases h; rfl), by decide +kernel, (fun _ => ⟨rfl, List.mem_of_getElem? (i := 261) (by decide +kernel)⟩)⟩
theorem fl_X1_21 : FL RX1 21 4 63 (some true) (.array .int) := ⟨3, 3, _, _, _, "Slugwire$Line", by decide, by decide, rfl, by decide, Or.inl (List.mem_of_getElem? (i := 262) (by decide +kernel)), Or.inl rfl, (fun b h => by cases h; rfl), by decide +kernel, (fun _ => ⟨rfl, List.mem_of_getElem? (i := 262) (by decide +kernel)⟩)⟩
theorem ml_X1_24 : ML RX1 24 yJ7_fill_53178 := Or.inl (List.mem_of_getElem? (i := 257) (by decide +kernel))
theorem fl_X1_36 : FL RX1 36 4 64 (some false) .int := ⟨3, 4, _, _, _, "Slugwire$Line", by decide, by decide, rfl, by decide, Or.inl (List.mem_of_getElem? (i := 264) (by decide +kernel)), Or.inl rfl, (fun b h => by cases h; rfl), by decide +kernel, (fun h => by cases h)⟩
theorem fl_X1_40 : FL RX1 40 4 65 (some false) .int := ⟨3, 5, _, _, _, "Slugwire$Line", by decide, by decide, rfl, by decide, Or.inl (List.mem_of_getElem? (i := 266) (by decide +kernel)), Or.inl rfl, (fun b h => by cases h; rfl), by decide +kernel, (fun h => by cases h)⟩
theorem fl_X1_43 : FL RX1 43 4 66 (some false) .int := ⟨3, 6, _, _, _, "Slugwire$Line", by decide, by decide, rfl, by decide, Or.inl (List.mem_of_getElem? (i := 268) (by decide +kernel)), Or.inl rfl, (fun b h => by cases h; rfl), by decide +kernel, (fun h => by cases h)⟩
theorem fl_X1_46 : FL RX1 46 4 67 (some false) .int := ⟨3, 7, _, _, _, "Slugwire$Line", by decide, by decide, rfl, by decide, Or.inl (List.mem_of_getElem? (i := 270) (by decide +kernel)), Or.inl rfl, (fun b h => by cases h; rfl), by decide +kernel, (fun h => by cases h)⟩
theorem fl_X1_49 : FL RX1 49 4 68 (some false) .int := ⟨3, 8, _, _, _, "Slugwire$Line", by decide, by decide, rfl, by decide, Or.inl (List.mem_of_getElem? (i := 272) (by decide +kernel)), Or.inl rfl, (fun b h => by cases h; rfl), by decide +kernel, (fun h => by cases h)⟩
theorem fl_X1_52 : FL RX1 52 6 102 (some false) .int := ⟨5, 2, _, _, _, "Slugwire$Take", by decide, by decide, rfl, by decide, Or.inr ⟨"Slugwire", List.mem_of_getElem? (i := 216) (by decide +kernel)⟩, Or.inl rfl, (fun b h => by cases h; rfl), by decide +kernel, (fun h => by cases h)⟩
theorem fl_X1_57 : FL RX1 57 6 104 (some false) .int := ⟨5, 4, _, _, _, "Slugwire$Take", by decide, by decide, rfl, by decide, Or.inr ⟨"Slugwire", List.mem_of_getElem? (i := 219) (by decide +kernel)⟩, Or.inl rfl, (fun b h => by cases h; rfl), by decide +kernel, (fun h => by cases h)⟩
theorem fl_X1_60 : FL RX1 60 6 105 (some false) .int := ⟨5, 5, _, _, _, "Slugwire$Take", by decide, by decide, rfl, by decide, Or.inr ⟨"Slugwire", List.mem_of_getElem? (i := 221) (by decide +kernel)⟩, Or.inl rfl, (fun b h => by cases h; rfl), by decide +kernel, (fun h => by cases h)⟩
theorem ml_X1_63 : ML RX1 63 yX1_enqueue := Or.inl (List.mem_of_getElem? (i := 780) (by decide +kernel))
theorem ml_X1_67 : ML RX1 67 yX1_mostUrgent := Or.inl (List.mem_of_getElem? (i := 644) (by decide +kernel))
theorem ml_X1_71 : ML RX1 71 yJ9_min_7cf53 := Or.inl (List.mem_of_getElem? (i := 648) (by decide +kernel))
theorem ml_X1_77 : ML RX1 77 yX1_runMinute := Or.inl (List.mem_of_getElem? (i := 640) (by decide +kernel))
theorem ml_X1_80 : ML RX1 80 yX1_isSent := Or.inl (List.mem_of_getElem? (i := 651) (by decide +kernel))
theorem fl_X2_9 : FL RX2 9 5 80 (some true) (.array .int) := ⟨4, 0, _, _, _, "Slugwire$Sources", by decide, by decide, rfl, by decide, Or.inl (List.mem_of_getElem? (i := 134) (by decide +kernel)), Or.inl rfl, (fun b h => by cases h; rfl), by decide +kernel, (fun _ => ⟨rfl, List.mem_of_getElem? (i := 134) (by decide +kernel)⟩)⟩
theorem fl_X2_15 : FL RX2 15 5 81 (some true) (.array .int) := ⟨4, 1, _, _, _, "Slugwire$Sources", by decide, by decide, rfl, by decide, Or.inl (List.mem_of_getElem? (i := 136) (by decide +kernel)), Or.inl rfl, (fun b h => by cases h; rfl), by decide +kernel, (fun _ => ⟨rfl, List.mem_of_getElem? (i := 136) (by decide +kernel)⟩)⟩
theorem fl_X2_18 : FL RX2 18 5 82 (some false) .int := ⟨4, 2, _, _, _, "Slugwire$Sources", by decide, by decide, rfl, by decide, Or.inl (List.mem_of_getElem? (i := 139) (by decide +kernel)), Or.inl rfl, (fun b h => by cases h; rfl), by decide +kernel, (fun h => by cases h)⟩
theorem fl_X3_9 : FL RX3 9 6 100 (some true) (.array .int) := ⟨5, 0, _, _, _, "Slugwire$Take", by decide, by decide, rfl, by decide, Or.inl (List.mem_of_getElem? (i := 213) (by decide +kernel)), Or.inl rfl, (fun b h => by cases h; rfl), by decide +kernel, (fun _ => ⟨rfl, List.mem_of_getElem? (i := 213) (by decide +kernel)⟩)⟩
theorem fl_X3_15 : FL RX3 15 6 107 (some false) .int := ⟨5, 7, _, _, _, "Slugwire$Take", by decide, by decide, rfl, by decide, Or.inl (List.mem_of_getElem? (i := 224) (by decide +kernel)), Or.inl rfl, (fun b h => by cases h; rfl), by decide +kernel, (fun h => by cases h)⟩
theorem fl_X3_19 : FL RX3 19 6 108 (some false) .int := ⟨5, 8, _, _, _, "Slugwire$Take", by decide, by decide, rfl, by decide, Or.inl (List.mem_of_getElem? (i := 226) (by decide +kernel)), Or.inl rfl, (fun b h => by cases h; rfl), by decide +kernel, (fun h => by cases h)⟩
theorem fl_X4_9 : FL RX4 9 7 120 (some true) (.array .int) := ⟨6, 0, _, _, _, "Slugwire$Tally", by decide, by decide, rfl, by decide, Or.inl (List.mem_of_getElem? (i := 157) (by decide +kernel)), Or.inl rfl, (fun b h => by cases h; rfl), by decide +kernel, (fun _ => ⟨rfl, List.mem_of_getElem? (i := 157) (by decide +kernel)⟩)⟩
theorem ml_X4_15 : ML RX4 15 yJ7_fill_53178 := Or.inl (List.mem_of_getElem? (i := 534) (by decide +kernel))
theorem fl_X4_21 : FL RX4 21 5 82 (some false) .int := ⟨4, 2, _, _, _, "Slugwire$Sources", by decide, by decide, rfl, by decide, Or.inr ⟨"Slugwire", List.mem_of_getElem? (i := 140) (by decide +kernel)⟩, Or.inl rfl, (fun b h => by cases h; rfl), by decide +kernel, (fun h => by cases h)⟩
theorem fl_X4_27 : FL RX4 27 5 81 none (.array .int) := ⟨4, 1, _, _, _, "Slugwire$Sources", by decide, by decide, rfl, by decide, Or.inr ⟨"Slugwire", List.mem_of_getElem? (i := 137) (by decide +kernel)⟩, Or.inl rfl, (fun b h => by cases h), by decide +kernel, (fun h => by cases h)⟩
theorem fl_X4_30 : FL RX4 30 5 80 none (.array .int) := ⟨4, 0, _, _, _, "Slugwire$Sources", by decide, by decide, rfl, by decide, Or.inr ⟨"Slugwire", List.mem_of_getElem? (i := 135) (by decide +kernel)⟩, Or.inl rfl, (fun b h => by cases h), by decide +kernel, (fun h => by cases h)⟩
theorem ml_X4_33 : ML RX4 33 yJ9_max_7cf53 := Or.inl (List.mem_of_getElem? (i := 535) (by decide +kernel))
theorem fl_X4_39 : FL RX4 39 7 121 (some false) .int := ⟨6, 1, _, _, _, "Slugwire$Tally", by decide, by decide, rfl, by decide, Or.inl (List.mem_of_getElem? (i := 158) (by decide +kernel)), Or.inl rfl, (fun b h => by cases h; rfl), by decide +kernel, (fun h => by cases h)⟩
theorem fl_X4_42 : FL RX4 42 7 122 (some false) .int := ⟨6, 2, _, _, _, "Slugwire$Tally", by decide, by decide, rfl, by decide, Or.inl (List.mem_of_getElem? (i := 159) (by decide +kernel)), Or.inl rfl, (fun b h => by cases h; rfl), by decide +kernel, (fun h => by cases h)⟩
theorem fl_X4_45 : FL RX4 45 7 123 (some false) .int := ⟨6, 3, _, _, _, "Slugwire$Tally", by decide, by decide, rfl, by decide, Or.inl (List.mem_of_getElem? (i := 160) (by decide +kernel)), Or.inl rfl, (fun b h => by cases h; rfl), by decide +kernel, (fun h => by cases h)⟩
theorem fl_X4_48 : FL RX4 48 7 124 (some false) .int := ⟨6, 4, _, _, _, "Slugwire$Tally", by decide, by decide, rfl, by decide, Or.inl (List.mem_of_getElem? (i := 162) (by decide +kernel)), Or.inl rfl, (fun b h => by cases h; rfl), by decide +kernel, (fun h => by cases h)⟩
theorem ml_X4_51 : ML RX4 51 yX4_addRoot := Or.inl (List.mem_of_getElem? (i := 536) (by decide +kernel))
theorem ml_L_7 : ML RL 7 yX5_source := Or.inl (List.mem_of_getElem? (i := 674) (by decide +kernel))
theorem nl_L_8 : NL RL 8 8 10 := ⟨7, _, _, by decide, rfl, List.mem_of_getElem? (i := 120) (by decide +kernel), List.mem_of_getElem? (i := 121) (by decide +kernel), List.mem_of_getElem? (i := 92) (by decide +kernel)⟩
theorem ml_L_19 : ML RL 19 yX5_story := Or.inl (List.mem_of_getElem? (i := 706) (by decide +kernel))
theorem ml_L_23 : ML RL 23 yX5_line := Or.inl (List.mem_of_getElem? (i := 714) (by decide +kernel))
theorem ml_L_26 : ML RL 26 yX5_report := Or.inl (List.mem_of_getElem? (i := 723) (by decide +kernel))
theorem ml_L_30 : ML RL 30 yX5_retract := Or.inl (List.mem_of_getElem? (i := 735) (by decide +kernel))
theorem ml_L_34 : ML RL 34 yX5_rival := Or.inl (List.mem_of_getElem? (i := 743) (by decide +kernel))
theorem ml_L_38 : ML RL 38 yX5_down := Or.inl (List.mem_of_getElem? (i := 750) (by decide +kernel))
theorem ml_L_41 : ML RL 41 yX5_file := Or.inl (List.mem_of_getElem? (i := 758) (by decide +kernel))
theorem ml_L_45 : ML RL 45 yX5_correct := Or.inl (List.mem_of_getElem? (i := 784) (by decide +kernel))
theorem ml_L_48 : ML RL 48 yX5_kill := Or.inl (List.mem_of_getElem? (i := 793) (by decide +kernel))
theorem ml_L_52 : ML RL 52 yX5_pass := Or.inl (List.mem_of_getElem? (i := 805) (by decide +kernel))
theorem ml_L_55 : ML RL 55 yX5_areIndependent := Or.inl (List.mem_of_getElem? (i := 815) (by decide +kernel))
theorem ml_L_58 : ML RL 58 yX5_ofFact := Or.inl (List.mem_of_getElem? (i := 822) (by decide +kernel))
theorem ml_L_61 : ML RL 61 yX5_proof := Or.inl (List.mem_of_getElem? (i := 826) (by decide +kernel))
theorem ml_L_65 : ML RL 65 yX5_ofTake := Or.inl (List.mem_of_getElem? (i := 833) (by decide +kernel))
theorem ml_L_68 : ML RL 68 yX5_says := Or.inl (List.mem_of_getElem? (i := 837) (by decide +kernel))
theorem ml_L_71 : ML RL 71 yX5_state := Or.inl (List.mem_of_getElem? (i := 841) (by decide +kernel))
theorem ml_L_74 : ML RL 74 yX5_tells := Or.inl (List.mem_of_getElem? (i := 845) (by decide +kernel))
theorem ml_L_77 : ML RL 77 yX5_ofLine := Or.inl (List.mem_of_getElem? (i := 849) (by decide +kernel))
theorem ml_L_80 : ML RL 80 yX5_many := Or.inl (List.mem_of_getElem? (i := 853) (by decide +kernel))
theorem ml_L_83 : ML RL 83 yX5_arrives := Or.inl (List.mem_of_getElem? (i := 857) (by decide +kernel))
theorem ml_L_86 : ML RL 86 yX5_wouldArrive := Or.inl (List.mem_of_getElem? (i := 864) (by decide +kernel))
theorem ml_L_89 : ML RL 89 yX5_needs := Or.inl (List.mem_of_getElem? (i := 868) (by decide +kernel))
theorem ml_L_92 : ML RL 92 yX5_lead := Or.inl (List.mem_of_getElem? (i := 872) (by decide +kernel))
theorem ml_L_95 : ML RL 95 yX5_init := Or.inl (List.mem_of_getElem? (i := 122) (by decide +kernel))
theorem nl_L_96 : NL RL 96 13 6 := ⟨12, _, _, by decide, rfl, List.mem_of_getElem? (i := 873) (by decide +kernel), List.mem_of_getElem? (i := 874) (by decide +kernel), List.mem_of_getElem? (i := 99) (by decide +kernel)⟩
theorem ml_L_98 : ML RL 98 yX10_init := Or.inl (List.mem_of_getElem? (i := 875) (by decide +kernel))
theorem ml_L_99 : ML RL 99 yL_source := Or.inl (List.mem_of_getElem? (i := 668) (by decide +kernel))
theorem ml_L_104 : ML RL 104 yX10_source := Or.inl (List.mem_of_getElem? (i := 931) (by decide +kernel))
theorem ml_L_105 : ML RL 105 yX10_thrown := Or.inl (List.mem_of_getElem? (i := 927) (by decide +kernel))
theorem ml_L_108 : ML RL 108 yL_story := Or.inl (List.mem_of_getElem? (i := 703) (by decide +kernel))
theorem ml_L_111 : ML RL 111 yX10_story := Or.inl (List.mem_of_getElem? (i := 1043) (by decide +kernel))
theorem ml_L_112 : ML RL 112 yL_line := Or.inl (List.mem_of_getElem? (i := 711) (by decide +kernel))
theorem ml_L_114 : ML RL 114 yX10_line := Or.inl (List.mem_of_getElem? (i := 1063) (by decide +kernel))
theorem ml_L_115 : ML RL 115 yL_report := Or.inl (List.mem_of_getElem? (i := 720) (by decide +kernel))
theorem ml_L_118 : ML RL 118 yX10_report := Or.inl (List.mem_of_getElem? (i := 1103) (by decide +kernel))
theorem ml_L_119 : ML RL 119 yL_retract := Or.inl (List.mem_of_getElem? (i := 732) (by decide +kernel))
theorem ml_L_122 : ML RL 122 yX10_retract := Or.inl (List.mem_of_getElem? (i := 1129) (by decide +kernel))
theorem ml_L_123 : ML RL 123 yL_rival := Or.inl (List.mem_of_getElem? (i := 740) (by decide +kernel))
theorem ml_L_125 : ML RL 125 yX10_rival := Or.inl (List.mem_of_getElem? (i := 1133) (by decide +kernel))
theorem ml_L_126 : ML RL 126 yL_down := Or.inl (List.mem_of_getElem? (i := 747) (by decide +kernel))
theorem ml_L_128 : ML RL 128 yX10_down := Or.inl (List.mem_of_getElem? (i := 1137) (by decide +kernel))
theorem ml_L_129 : ML RL 129 yL_file := Or.inl (List.mem_of_getElem? (i := 755) (by decide +kernel))
theorem ml_L_132 : ML RL 132 yX10_file := Or.inl (List.mem_of_getElem? (i := 1145) (by decide +kernel))
theorem ml_L_133 : ML RL 133 yL_correct := Or.inl (List.mem_of_getElem? (i := 781) (by decide +kernel))
theorem ml_L_135 : ML RL 135 yX10_correct := Or.inl (List.mem_of_getElem? (i := 1277) (by decide +kernel))
theorem ml_L_136 : ML RL 136 yL_kill := Or.inl (List.mem_of_getElem? (i := 790) (by decide +kernel))
theorem ml_L_139 : ML RL 139 yX10_kill := Or.inl (List.mem_of_getElem? (i := 1285) (by decide +kernel))
theorem ml_L_140 : ML RL 140 yL_pass := Or.inl (List.mem_of_getElem? (i := 802) (by decide +kernel))
theorem ml_L_142 : ML RL 142 yX10_pass := Or.inl (List.mem_of_getElem? (i := 1289) (by decide +kernel))
theorem ml_L_143 : ML RL 143 yL_areIndependent := Or.inl (List.mem_of_getElem? (i := 812) (by decide +kernel))
theorem ml_L_145 : ML RL 145 yX10_areIndependent := Or.inl (List.mem_of_getElem? (i := 1309) (by decide +kernel))
theorem ml_L_146 : ML RL 146 yL_ofFact := Or.inl (List.mem_of_getElem? (i := 819) (by decide +kernel))
theorem ml_L_148 : ML RL 148 yX10_ofFact := Or.inl (List.mem_of_getElem? (i := 1313) (by decide +kernel))
theorem ml_L_149 : ML RL 149 yL_proof := Or.inl (List.mem_of_getElem? (i := 823) (by decide +kernel))
theorem ml_L_152 : ML RL 152 yX10_proof_ := Or.inl (List.mem_of_getElem? (i := 1343) (by decide +kernel))
theorem ml_L_153 : ML RL 153 yL_ofTake := Or.inl (List.mem_of_getElem? (i := 830) (by decide +kernel))
theorem ml_L_155 : ML RL 155 yX10_ofTake := Or.inl (List.mem_of_getElem? (i := 1347) (by decide +kernel))
theorem ml_L_156 : ML RL 156 yL_says := Or.inl (List.mem_of_getElem? (i := 834) (by decide +kernel))
theorem ml_L_158 : ML RL 158 yX10_says := Or.inl (List.mem_of_getElem? (i := 1355) (by decide +kernel))
theorem ml_L_159 : ML RL 159 yL_state := Or.inl (List.mem_of_getElem? (i := 838) (by decide +kernel))
theorem ml_L_161 : ML RL 161 yX10_state := Or.inl (List.mem_of_getElem? (i := 1363) (by decide +kernel))
theorem ml_L_162 : ML RL 162 yL_tells := Or.inl (List.mem_of_getElem? (i := 842) (by decide +kernel))
theorem ml_L_164 : ML RL 164 yX10_tells := Or.inl (List.mem_of_getElem? (i := 1375) (by decide +kernel))
theorem ml_L_165 : ML RL 165 yL_ofLine := Or.inl (List.mem_of_getElem? (i := 846) (by decide +kernel))
theorem ml_L_167 : ML RL 167 yX10_ofLine := Or.inl (List.mem_of_getElem? (i := 1383) (by decide +kernel))
theorem ml_L_168 : ML RL 168 yL_many := Or.inl (List.mem_of_getElem? (i := 850) (by decide +kernel))
theorem ml_L_170 : ML RL 170 yX10_many := Or.inl (List.mem_of_getElem? (i := 1400) (by decide +kernel))
theorem ml_L_171 : ML RL 171 yX5_meanDelay := Or.inl (List.mem_of_getElem? (i := 323) (by decide +kernel))
theorem ml_L_175 : ML RL 175 yX10_meanDelay := Or.inl (List.mem_of_getElem? (i := 1420) (by decide +kernel))
theorem ml_L_176 : ML RL 176 yL_arrives := Or.inl (List.mem_of_getElem? (i := 854) (by decide +kernel))
theorem ml_L_178 : ML RL 178 yX10_arrives := Or.inl (List.mem_of_getElem? (i := 1424) (by decide +kernel))
theorem ml_L_179 : ML RL 179 yL_wouldArrive := Or.inl (List.mem_of_getElem? (i := 861) (by decide +kernel))
theorem ml_L_181 : ML RL 181 yX10_wouldArrive := Or.inl (List.mem_of_getElem? (i := 1439) (by decide +kernel))
theorem ml_L_182 : ML RL 182 yL_needs := Or.inl (List.mem_of_getElem? (i := 865) (by decide +kernel))
theorem ml_L_184 : ML RL 184 yX10_needs := Or.inl (List.mem_of_getElem? (i := 1471) (by decide +kernel))
theorem ml_L_185 : ML RL 185 yL_lead := Or.inl (List.mem_of_getElem? (i := 869) (by decide +kernel))
theorem ml_L_187 : ML RL 187 yX10_lead := Or.inl (List.mem_of_getElem? (i := 1483) (by decide +kernel))
theorem ml_L_188 : ML RL 188 yX5_digest := Or.inl (List.mem_of_getElem? (i := 334) (by decide +kernel))
theorem ml_L_192 : ML RL 192 yX10_digest := Or.inl (List.mem_of_getElem? (i := 1491) (by decide +kernel))
theorem nl_X10_7 : NL RX10 7 2 3 := ⟨1, _, _, by decide, rfl, List.mem_of_getElem? (i := 879) (by decide +kernel), List.mem_of_getElem? (i := 880) (by decide +kernel), List.mem_of_getElem? (i := 102) (by decide +kernel)⟩
theorem ml_X10_9 : ML RX10 9 yJx4a65c_init_da8c8 := Or.inl (List.mem_of_getElem? (i := 881) (by decide +kernel))
theorem fl_X10_10 : FL RX10 10 13 242 (some true) (.object "java/util/ArrayList") := ⟨12, 2, _, _, _, "SlugwireModel", by decide, by decide, rfl, by decide, Or.inl (List.mem_of_getElem? (i := 910) (by decide +kernel)), Or.inl rfl, (fun b h => by cases h; rfl), by decide +kernel, (fun _ => ⟨rfl, List.mem_of_getElem? (i := 910) (by decide +kernel)⟩)⟩
theorem fl_X10_16 : FL RX10 16 13 243 (some true) (.object "java/util/ArrayList") := ⟨12, 3, _, _, _, "SlugwireModel", by decide, by decide, rfl, by decide, Or.inl (List.mem_of_getElem? (i := 911) (by decide +kernel)), Or.inl rfl, (fun b h => by cases h; rfl), by decide +kernel, (fun _ => ⟨rfl, List.mem_of_getElem? (i := 911) (by decide +kernel)⟩)⟩
theorem fl_X10_19 : FL RX10 19 13 244 (some true) (.object "java/util/ArrayList") := ⟨12, 4, _, _, _, "SlugwireModel", by decide, by decide, rfl, by decide, Or.inl (List.mem_of_getElem? (i := 912) (by decide +kernel)), Or.inl rfl, (fun b h => by cases h; rfl), by decide +kernel, (fun _ => ⟨rfl, List.mem_of_getElem? (i := 912) (by decide +kernel)⟩)⟩
theorem fl_X10_22 : FL RX10 22 13 245 (some true) (.object "java/util/ArrayList") := ⟨12, 5, _, _, _, "SlugwireModel", by decide, by decide, rfl, by decide, Or.inl (List.mem_of_getElem? (i := 913) (by decide +kernel)), Or.inl rfl, (fun b h => by cases h; rfl), by decide +kernel, (fun _ => ⟨rfl, List.mem_of_getElem? (i := 913) (by decide +kernel)⟩)⟩
theorem fl_X10_25 : FL RX10 25 13 240 (some false) .int := ⟨12, 0, _, _, _, "SlugwireModel", by decide, by decide, rfl, by decide, Or.inl (List.mem_of_getElem? (i := 908) (by decide +kernel)), Or.inl rfl, (fun b h => by cases h; rfl), by decide +kernel, (fun h => by cases h)⟩
theorem ml_X10_29 : ML RX10 29 yX10_refuse := Or.inl (List.mem_of_getElem? (i := 950) (by decide +kernel))
theorem ml_X10_33 : ML RX10 33 yJx4a65c_size_8abf5 := Or.inl (List.mem_of_getElem? (i := 939) (by decide +kernel))
theorem ml_X10_37 : ML RX10 37 yX10_isIn := Or.inl (List.mem_of_getElem? (i := 943) (by decide +kernel))
theorem ml_X10_41 : ML RX10 41 yX10_isNoStory := Or.inl (List.mem_of_getElem? (i := 1111) (by decide +kernel))
theorem ml_X10_45 : ML RX10 45 yJx4a65c_get_915e3 := Or.inl (List.mem_of_getElem? (i := 956) (by decide +kernel))
theorem wc_X10_49 : Cond.classLink RX10 49 "[LSlugwireModel$Fact;" ∈ lw_tbl := List.mem_of_getElem? (i := 1119) (by decide +kernel)
theorem fl_X10_51 : FL RX10 51 9 160 none (.array .int) := ⟨8, 0, _, _, _, "SlugwireModel$Fact", by decide, by decide, rfl, by decide, Or.inl (List.mem_of_getElem? (i := 1055) (by decide +kernel)), Or.inl rfl, (fun b h => by cases h), by decide +kernel, (fun h => by cases h)⟩
theorem wc_X10_52 : Cond.classLink RX10 52 "SlugwireModel$Fact" ∈ lw_tbl := List.mem_of_getElem? (i := 1047) (by decide +kernel)
theorem nl_X10_52 : NL RX10 52 9 2 := ⟨8, _, _, by decide, rfl, List.mem_of_getElem? (i := 1047) (by decide +kernel), List.mem_of_getElem? (i := 1049) (by decide +kernel), List.mem_of_getElem? (i := 115) (by decide +kernel)⟩
theorem wc_X10_57 : Cond.classLink RX10 57 "SlugwireModel$Source" ∈ lw_tbl := List.mem_of_getElem? (i := 954) (by decide +kernel)
theorem nl_X10_57 : NL RX10 57 11 3 := ⟨10, _, _, by decide, rfl, List.mem_of_getElem? (i := 954) (by decide +kernel), List.mem_of_getElem? (i := 955) (by decide +kernel), List.mem_of_getElem? (i := 109) (by decide +kernel)⟩
theorem fl_X10_59 : FL RX10 59 11 200 none .int := ⟨10, 0, _, _, _, "SlugwireModel$Source", by decide, by decide, rfl, by decide, Or.inl (List.mem_of_getElem? (i := 975) (by decide +kernel)), Or.inl rfl, (fun b h => by cases h), by decide +kernel, (fun h => by cases h)⟩
theorem fl_X10_62 : FL RX10 62 11 202 none .int := ⟨10, 2, _, _, _, "SlugwireModel$Source", by decide, by decide, rfl, by decide, Or.inl (List.mem_of_getElem? (i := 978) (by decide +kernel)), Or.inl rfl, (fun b h => by cases h), by decide +kernel, (fun h => by cases h)⟩
theorem ml_X10_65 : ML RX10 65 yJ6_bitCount_0f7a4 := Or.inl (List.mem_of_getElem? (i := 1128) (by decide +kernel))
theorem ml_X10_71 : ML RX10 71 yJ9_max_7cf53 := Or.inl (List.mem_of_getElem? (i := 1222) (by decide +kernel))
theorem ml_X10_77 : ML RX10 77 yX10_roots := Or.inl (List.mem_of_getElem? (i := 1124) (by decide +kernel))
theorem ml_X10_81 : ML RX10 81 yX10_isSaid := Or.inl (List.mem_of_getElem? (i := 1215) (by decide +kernel))
theorem ml_X10_85 : ML RX10 85 yX10_proof := Or.inl (List.mem_of_getElem? (i := 1120) (by decide +kernel))
theorem ml_X10_89 : ML RX10 89 yX10_force := Or.inl (List.mem_of_getElem? (i := 1218) (by decide +kernel))
theorem ml_X10_92 : ML RX10 92 yX10_strongest := Or.inl (List.mem_of_getElem? (i := 1211) (by decide +kernel))
theorem ml_X10_96 : ML RX10 96 yX10_truth := Or.inl (List.mem_of_getElem? (i := 1207) (by decide +kernel))
theorem ml_X10_100 : ML RX10 100 yX10_isNoSource := Or.inl (List.mem_of_getElem? (i := 935) (by decide +kernel))
theorem ml_X10_103 : ML RX10 103 yX10_start := Or.inl (List.mem_of_getElem? (i := 946) (by decide +kernel))
theorem ml_X10_106 : ML RX10 106 yX8_init := Or.inl (List.mem_of_getElem? (i := 970) (by decide +kernel))
theorem ml_X10_109 : ML RX10 109 yJx4a65c_add_9ea2d := Or.inl (List.mem_of_getElem? (i := 986) (by decide +kernel))
theorem ml_X10_113 : ML RX10 113 yX6_init := Or.inl (List.mem_of_getElem? (i := 1050) (by decide +kernel))
theorem wc_X10_114 : Cond.classLink RX10 114 "SlugwireModel$Line" ∈ lw_tbl := List.mem_of_getElem? (i := 1067) (by decide +kernel)
theorem nl_X10_114 : NL RX10 114 10 7 := ⟨9, _, _, by decide, rfl, List.mem_of_getElem? (i := 1067) (by decide +kernel), List.mem_of_getElem? (i := 1068) (by decide +kernel), List.mem_of_getElem? (i := 116) (by decide +kernel)⟩
theorem ml_X10_116 : ML RX10 116 yX7_init := Or.inl (List.mem_of_getElem? (i := 1069) (by decide +kernel))
theorem ml_X10_119 : ML RX10 119 yX10_isNoFact := Or.inl (List.mem_of_getElem? (i := 1107) (by decide +kernel))
theorem ml_X10_123 : ML RX10 123 yX10_fact := Or.inl (List.mem_of_getElem? (i := 1115) (by decide +kernel))
theorem fl_X10_127 : FL RX10 127 9 161 (some false) .int := ⟨8, 1, _, _, _, "SlugwireModel$Fact", by decide, by decide, rfl, by decide, Or.inl (List.mem_of_getElem? (i := 1057) (by decide +kernel)), Or.inl rfl, (fun b h => by cases h; rfl), by decide +kernel, (fun h => by cases h)⟩
theorem fl_X10_130 : FL RX10 130 13 241 (some false) .int := ⟨12, 1, _, _, _, "SlugwireModel", by decide, by decide, rfl, by decide, Or.inl (List.mem_of_getElem? (i := 909) (by decide +kernel)), Or.inl rfl, (fun b h => by cases h; rfl), by decide +kernel, (fun h => by cases h)⟩
theorem ml_X10_133 : ML RX10 133 yX10_isNoLine := Or.inl (List.mem_of_getElem? (i := 1141) (by decide +kernel))
theorem fl_X10_136 : FL RX10 136 10 182 (some false) .int := ⟨9, 2, _, _, _, "SlugwireModel$Line", by decide, by decide, rfl, by decide, Or.inl (List.mem_of_getElem? (i := 1078) (by decide +kernel)), Or.inl rfl, (fun b h => by cases h; rfl), by decide +kernel, (fun h => by cases h)⟩
theorem ml_X10_139 : ML RX10 139 yJx4a65c_iterator_32c93 := Or.inl (List.mem_of_getElem? (i := 1227) (by decide +kernel))
theorem fl_X10_153 : FL RX10 153 12 225 none .int := ⟨11, 5, _, _, _, "SlugwireModel$Take", by decide, by decide, rfl, by decide, Or.inl (List.mem_of_getElem? (i := 1170) (by decide +kernel)), Or.inl rfl, (fun b h => by cases h), by decide +kernel, (fun h => by cases h)⟩
theorem wc_X10_154 : Cond.classLink RX10 154 "SlugwireModel$Take" ∈ lw_tbl := List.mem_of_getElem? (i := 1149) (by decide +kernel)
theorem nl_X10_154 : NL RX10 154 12 10 := ⟨11, _, _, by decide, rfl, List.mem_of_getElem? (i := 1149) (by decide +kernel), List.mem_of_getElem? (i := 1150) (by decide +kernel), List.mem_of_getElem? (i := 118) (by decide +kernel)⟩
theorem ml_X10_158 : ML RX10 158 yX7_run := Or.inl (List.mem_of_getElem? (i := 1273) (by decide +kernel))
theorem ml_X10_161 : ML RX10 161 yX10_words := Or.inl (List.mem_of_getElem? (i := 1151) (by decide +kernel))
theorem ml_X10_163 : ML RX10 163 yX9_init := Or.inl (List.mem_of_getElem? (i := 1154) (by decide +kernel))
theorem ml_X10_166 : ML RX10 166 yX10_has := Or.inl (List.mem_of_getElem? (i := 1200) (by decide +kernel))
theorem fl_X10_169 : FL RX10 169 12 223 none (.array .int) := ⟨11, 3, _, _, _, "SlugwireModel$Take", by decide, by decide, rfl, by decide, Or.inl (List.mem_of_getElem? (i := 1166) (by decide +kernel)), Or.inl rfl, (fun b h => by cases h), by decide +kernel, (fun h => by cases h)⟩
theorem ml_X10_172 : ML RX10 172 yX10_heard := Or.inl (List.mem_of_getElem? (i := 1203) (by decide +kernel))
theorem ml_X10_175 : ML RX10 175 yX10_add := Or.inl (List.mem_of_getElem? (i := 1223) (by decide +kernel))
theorem ml_X10_178 : ML RX10 178 yX10_isNoTake := Or.inl (List.mem_of_getElem? (i := 1281) (by decide +kernel))
theorem fl_X10_181 : FL RX10 181 12 222 none .int := ⟨11, 2, _, _, _, "SlugwireModel$Take", by decide, by decide, rfl, by decide, Or.inl (List.mem_of_getElem? (i := 1164) (by decide +kernel)), Or.inl rfl, (fun b h => by cases h), by decide +kernel, (fun h => by cases h)⟩
theorem fl_X10_184 : FL RX10 184 12 229 (some false) .boolean := ⟨11, 9, _, _, _, "SlugwireModel$Take", by decide, by decide, rfl, by decide, Or.inl (List.mem_of_getElem? (i := 1178) (by decide +kernel)), Or.inl rfl, (fun b h => by cases h; rfl), by decide +kernel, (fun h => by cases h)⟩
theorem fl_X10_188 : FL RX10 188 12 220 none .int := ⟨11, 0, _, _, _, "SlugwireModel$Take", by decide, by decide, rfl, by decide, Or.inl (List.mem_of_getElem? (i := 1159) (by decide +kernel)), Or.inl rfl, (fun b h => by cases h), by decide +kernel, (fun h => by cases h)⟩
theorem fl_X10_191 : FL RX10 191 12 221 none .int := ⟨11, 1, _, _, _, "SlugwireModel$Take", by decide, by decide, rfl, by decide, Or.inl (List.mem_of_getElem? (i := 1162) (by decide +kernel)), Or.inl rfl, (fun b h => by cases h), by decide +kernel, (fun h => by cases h)⟩
theorem fl_X10_194 : FL RX10 194 10 186 none (.array .int) := ⟨9, 6, _, _, _, "SlugwireModel$Line", by decide, by decide, rfl, by decide, Or.inl (List.mem_of_getElem? (i := 1086) (by decide +kernel)), Or.inl rfl, (fun b h => by cases h), by decide +kernel, (fun h => by cases h)⟩
theorem fl_X10_197 : FL RX10 197 10 184 none (.array .boolean) := ⟨9, 4, _, _, _, "SlugwireModel$Line", by decide, by decide, rfl, by decide, Or.inl (List.mem_of_getElem? (i := 1082) (by decide +kernel)), Or.inl rfl, (fun b h => by cases h), by decide +kernel, (fun h => by cases h)⟩
theorem ml_X10_201 : ML RX10 201 yX7_minute := Or.inl (List.mem_of_getElem? (i := 1293) (by decide +kernel))
theorem ml_X10_205 : ML RX10 205 yX10_isWith := Or.inl (List.mem_of_getElem? (i := 1331) (by decide +kernel))
theorem fl_X10_208 : FL RX10 208 10 181 none .int := ⟨9, 1, _, _, _, "SlugwireModel$Line", by decide, by decide, rfl, by decide, Or.inl (List.mem_of_getElem? (i := 1076) (by decide +kernel)), Or.inl rfl, (fun b h => by cases h), by decide +kernel, (fun h => by cases h)⟩
theorem ml_X10_211 : ML RX10 211 yX7_hasIt := Or.inl (List.mem_of_getElem? (i := 1335) (by decide +kernel))
theorem ml_X10_214 : ML RX10 214 yX10_had := Or.inl (List.mem_of_getElem? (i := 1327) (by decide +kernel))
theorem ml_X10_217 : ML RX10 217 yX10_saying := Or.inl (List.mem_of_getElem? (i := 1321) (by decide +kernel))
theorem ml_X10_220 : ML RX10 220 yX10_values := Or.inl (List.mem_of_getElem? (i := 1324) (by decide +kernel))
theorem ml_X10_222 : ML RX10 222 yX10_isFirst := Or.inl (List.mem_of_getElem? (i := 1339) (by decide +kernel))
theorem ml_X10_225 : ML RX10 225 yX10_ofFactNow := Or.inl (List.mem_of_getElem? (i := 1317) (by decide +kernel))
theorem fl_X10_229 : FL RX10 229 12 226 none .int := ⟨11, 6, _, _, _, "SlugwireModel$Take", by decide, by decide, rfl, by decide, Or.inl (List.mem_of_getElem? (i := 1173) (by decide +kernel)), Or.inl rfl, (fun b h => by cases h), by decide +kernel, (fun h => by cases h)⟩
theorem fl_X10_232 : FL RX10 232 12 224 none .boolean := ⟨11, 4, _, _, _, "SlugwireModel$Take", by decide, by decide, rfl, by decide, Or.inl (List.mem_of_getElem? (i := 1168) (by decide +kernel)), Or.inl rfl, (fun b h => by cases h), by decide +kernel, (fun h => by cases h)⟩
theorem fl_X10_235 : FL RX10 235 12 227 none .int := ⟨11, 7, _, _, _, "SlugwireModel$Take", by decide, by decide, rfl, by decide, Or.inl (List.mem_of_getElem? (i := 1175) (by decide +kernel)), Or.inl rfl, (fun b h => by cases h), by decide +kernel, (fun h => by cases h)⟩
theorem fl_X10_238 : FL RX10 238 12 228 none .int := ⟨11, 8, _, _, _, "SlugwireModel$Take", by decide, by decide, rfl, by decide, Or.inl (List.mem_of_getElem? (i := 1177) (by decide +kernel)), Or.inl rfl, (fun b h => by cases h), by decide +kernel, (fun h => by cases h)⟩
theorem ml_X10_241 : ML RX10 241 yX10_ofTakeNow := Or.inl (List.mem_of_getElem? (i := 1351) (by decide +kernel))
theorem ml_X10_244 : ML RX10 244 yX10_saysNow := Or.inl (List.mem_of_getElem? (i := 1359) (by decide +kernel))
theorem fl_X10_247 : FL RX10 247 10 185 none (.array .int) := ⟨9, 5, _, _, _, "SlugwireModel$Line", by decide, by decide, rfl, by decide, Or.inl (List.mem_of_getElem? (i := 1084) (by decide +kernel)), Or.inl rfl, (fun b h => by cases h), by decide +kernel, (fun h => by cases h)⟩
theorem ml_X10_250 : ML RX10 250 yX10_isDropped := Or.inl (List.mem_of_getElem? (i := 1371) (by decide +kernel))
theorem ml_X10_254 : ML RX10 254 yX10_stateNow := Or.inl (List.mem_of_getElem? (i := 1367) (by decide +kernel))
theorem ml_X10_257 : ML RX10 257 yX10_tellsNow := Or.inl (List.mem_of_getElem? (i := 1379) (by decide +kernel))
theorem ml_X10_260 : ML RX10 260 yX7_isWaiting := Or.inl (List.mem_of_getElem? (i := 1395) (by decide +kernel))
theorem fl_X10_263 : FL RX10 263 10 180 none .int := ⟨9, 0, _, _, _, "SlugwireModel$Line", by decide, by decide, rfl, by decide, Or.inl (List.mem_of_getElem? (i := 1074) (by decide +kernel)), Or.inl rfl, (fun b h => by cases h), by decide +kernel, (fun h => by cases h)⟩
theorem ml_X10_266 : ML RX10 266 yX10_waiting := Or.inl (List.mem_of_getElem? (i := 1391) (by decide +kernel))
theorem fl_X10_270 : FL RX10 270 10 183 (some false) .int := ⟨9, 3, _, _, _, "SlugwireModel$Line", by decide, by decide, rfl, by decide, Or.inl (List.mem_of_getElem? (i := 1080) (by decide +kernel)), Or.inl rfl, (fun b h => by cases h; rfl), by decide +kernel, (fun h => by cases h)⟩
theorem ml_X10_273 : ML RX10 273 yX10_told := Or.inl (List.mem_of_getElem? (i := 1396) (by decide +kernel))
theorem ml_X10_277 : ML RX10 277 yX10_ofLineNow := Or.inl (List.mem_of_getElem? (i := 1387) (by decide +kernel))
theorem ml_X10_280 : ML RX10 280 yX10_takesOf := Or.inl (List.mem_of_getElem? (i := 1408) (by decide +kernel))
theorem ml_X10_283 : ML RX10 283 yX10_facts := Or.inl (List.mem_of_getElem? (i := 1412) (by decide +kernel))
theorem ml_X10_285 : ML RX10 285 yX10_wrong := Or.inl (List.mem_of_getElem? (i := 1416) (by decide +kernel))
theorem ml_X10_288 : ML RX10 288 yX10_manyNow := Or.inl (List.mem_of_getElem? (i := 1404) (by decide +kernel))
theorem ml_X10_291 : ML RX10 291 yX7_copy := Or.inl (List.mem_of_getElem? (i := 1428) (by decide +kernel))
theorem ml_X10_295 : ML RX10 295 yX10_arrivesNow := Or.inl (List.mem_of_getElem? (i := 1435) (by decide +kernel))
theorem ml_X10_299 : ML RX10 299 yJx4a65c_init_4bcb3 := Or.inl (List.mem_of_getElem? (i := 1447) (by decide +kernel))
theorem ml_X10_302 : ML RX10 302 yX10_wouldArriveNow := Or.inl (List.mem_of_getElem? (i := 1443) (by decide +kernel))
theorem ml_X10_305 : ML RX10 305 yX10_isTruth := Or.inl (List.mem_of_getElem? (i := 1479) (by decide +kernel))
theorem ml_X10_309 : ML RX10 309 yX10_needsNow := Or.inl (List.mem_of_getElem? (i := 1475) (by decide +kernel))
theorem ml_X10_313 : ML RX10 313 yX10_leadNow := Or.inl (List.mem_of_getElem? (i := 1487) (by decide +kernel))
theorem ml_X10_320 : ML RX10 320 yX10_add_ := Or.inl (List.mem_of_getElem? (i := 1496) (by decide +kernel))
theorem fl_X6_9 : FL RX6 9 9 160 (some true) (.array .int) := ⟨8, 0, _, _, _, "SlugwireModel$Fact", by decide, by decide, rfl, by decide, Or.inl (List.mem_of_getElem? (i := 1054) (by decide +kernel)), Or.inl rfl, (fun b h => by cases h; rfl), by decide +kernel, (fun _ => ⟨rfl, List.mem_of_getElem? (i := 1054) (by decide +kernel)⟩)⟩
theorem fl_X6_15 : FL RX6 15 9 161 (some false) .int := ⟨8, 1, _, _, _, "SlugwireModel$Fact", by decide, by decide, rfl, by decide, Or.inl (List.mem_of_getElem? (i := 1056) (by decide +kernel)), Or.inl rfl, (fun b h => by cases h; rfl), by decide +kernel, (fun h => by cases h)⟩
theorem fl_X7_9 : FL RX7 9 10 184 (some true) (.array .boolean) := ⟨9, 4, _, _, _, "SlugwireModel$Line", by decide, by decide, rfl, by decide, Or.inl (List.mem_of_getElem? (i := 1081) (by decide +kernel)), Or.inl rfl, (fun b h => by cases h; rfl), by decide +kernel, (fun _ => ⟨rfl, List.mem_of_getElem? (i := 1081) (by decide +kernel)⟩)⟩
theorem nl_X7_10 : NL RX7 10 10 7 := ⟨9, _, _, by decide, rfl, List.mem_of_getElem? (i := 1432) (by decide +kernel), List.mem_of_getElem? (i := 1068) (by decide +kernel), List.mem_of_getElem? (i := 116) (by decide +kernel)⟩
theorem fl_X7_15 : FL RX7 15 10 185 (some true) (.array .int) := ⟨9, 5, _, _, _, "SlugwireModel$Line", by decide, by decide, rfl, by decide, Or.inl (List.mem_of_getElem? (i := 1083) (by decide +kernel)), Or.inl rfl, (fun b h => by cases h; rfl), by decide +kernel, (fun _ => ⟨rfl, List.mem_of_getElem? (i := 1083) (by decide +kernel)⟩)⟩
theorem fl_X7_19 : FL RX7 19 10 186 (some true) (.array .int) := ⟨9, 6, _, _, _, "SlugwireModel$Line", by decide, by decide, rfl, by decide, Or.inl (List.mem_of_getElem? (i := 1085) (by decide +kernel)), Or.inl rfl, (fun b h => by cases h; rfl), by decide +kernel, (fun _ => ⟨rfl, List.mem_of_getElem? (i := 1085) (by decide +kernel)⟩)⟩
theorem fl_X7_22 : FL RX7 22 10 180 (some true) .int := ⟨9, 0, _, _, _, "SlugwireModel$Line", by decide, by decide, rfl, by decide, Or.inl (List.mem_of_getElem? (i := 1073) (by decide +kernel)), Or.inl rfl, (fun b h => by cases h; rfl), by decide +kernel, (fun _ => ⟨rfl, List.mem_of_getElem? (i := 1073) (by decide +kernel)⟩)⟩
theorem fl_X7_26 : FL RX7 26 10 181 (some true) .int := ⟨9, 1, _, _, _, "SlugwireModel$Line", by decide, by decide, rfl, by decide, Or.inl (List.mem_of_getElem? (i := 1075) (by decide +kernel)), Or.inl rfl, (fun b h => by cases h; rfl), by decide +kernel, (fun _ => ⟨rfl, List.mem_of_getElem? (i := 1075) (by decide +kernel)⟩)⟩
theorem ml_X7_29 : ML RX7 29 yX7_init := Or.inl (List.mem_of_getElem? (i := 1433) (by decide +kernel))
theorem fl_X7_32 : FL RX7 32 10 182 (some false) .int := ⟨9, 2, _, _, _, "SlugwireModel$Line", by decide, by decide, rfl, by decide, Or.inl (List.mem_of_getElem? (i := 1077) (by decide +kernel)), Or.inl rfl, (fun b h => by cases h; rfl), by decide +kernel, (fun h => by cases h)⟩
theorem ml_X7_41 : ML RX7 41 yJx4a65c_size_8abf5 := Or.inl (List.mem_of_getElem? (i := 1301) (by decide +kernel))
theorem ml_X7_47 : ML RX7 47 yX7_isWaiting := Or.inl (List.mem_of_getElem? (i := 1302) (by decide +kernel))
theorem ml_X7_51 : ML RX7 51 yJx4a65c_get_915e3 := Or.inl (List.mem_of_getElem? (i := 1306) (by decide +kernel))
theorem wc_X7_55 : Cond.classLink RX7 55 "SlugwireModel$Take" ∈ lw_tbl := List.mem_of_getElem? (i := 1307) (by decide +kernel)
theorem fl_X7_57 : FL RX7 57 12 226 none .int := ⟨11, 6, _, _, _, "SlugwireModel$Take", by decide, by decide, rfl, by decide, Or.inl (List.mem_of_getElem? (i := 1172) (by decide +kernel)), Or.inl rfl, (fun b h => by cases h), by decide +kernel, (fun h => by cases h)⟩
theorem fl_X7_60 : FL RX7 60 12 221 none .int := ⟨11, 1, _, _, _, "SlugwireModel$Take", by decide, by decide, rfl, by decide, Or.inl (List.mem_of_getElem? (i := 1161) (by decide +kernel)), Or.inl rfl, (fun b h => by cases h), by decide +kernel, (fun h => by cases h)⟩
theorem ml_X7_63 : ML RX7 63 yX7_next := Or.inl (List.mem_of_getElem? (i := 1297) (by decide +kernel))
theorem ml_X7_67 : ML RX7 67 yJ9_min_7cf53 := Or.inl (List.mem_of_getElem? (i := 1308) (by decide +kernel))
theorem fl_X7_73 : FL RX7 73 10 183 (some false) .int := ⟨9, 3, _, _, _, "SlugwireModel$Line", by decide, by decide, rfl, by decide, Or.inl (List.mem_of_getElem? (i := 1079) (by decide +kernel)), Or.inl rfl, (fun b h => by cases h; rfl), by decide +kernel, (fun h => by cases h)⟩
theorem fl_X8_7 : FL RX8 7 11 200 (some true) .int := ⟨10, 0, _, _, _, "SlugwireModel$Source", by decide, by decide, rfl, by decide, Or.inl (List.mem_of_getElem? (i := 974) (by decide +kernel)), Or.inl rfl, (fun b h => by cases h; rfl), by decide +kernel, (fun _ => ⟨rfl, List.mem_of_getElem? (i := 974) (by decide +kernel)⟩)⟩
theorem fl_X8_13 : FL RX8 13 11 201 (some true) .int := ⟨10, 1, _, _, _, "SlugwireModel$Source", by decide, by decide, rfl, by decide, Or.inl (List.mem_of_getElem? (i := 976) (by decide +kernel)), Or.inl rfl, (fun b h => by cases h; rfl), by decide +kernel, (fun _ => ⟨rfl, List.mem_of_getElem? (i := 976) (by decide +kernel)⟩)⟩
theorem fl_X8_16 : FL RX8 16 11 202 (some true) .int := ⟨10, 2, _, _, _, "SlugwireModel$Source", by decide, by decide, rfl, by decide, Or.inl (List.mem_of_getElem? (i := 977) (by decide +kernel)), Or.inl rfl, (fun b h => by cases h; rfl), by decide +kernel, (fun _ => ⟨rfl, List.mem_of_getElem? (i := 977) (by decide +kernel)⟩)⟩
theorem fl_X9_9 : FL RX9 9 12 223 (some true) (.array .int) := ⟨11, 3, _, _, _, "SlugwireModel$Take", by decide, by decide, rfl, by decide, Or.inl (List.mem_of_getElem? (i := 1165) (by decide +kernel)), Or.inl rfl, (fun b h => by cases h; rfl), by decide +kernel, (fun _ => ⟨rfl, List.mem_of_getElem? (i := 1165) (by decide +kernel)⟩)⟩
theorem fl_X9_15 : FL RX9 15 12 220 (some true) .int := ⟨11, 0, _, _, _, "SlugwireModel$Take", by decide, by decide, rfl, by decide, Or.inl (List.mem_of_getElem? (i := 1158) (by decide +kernel)), Or.inl rfl, (fun b h => by cases h; rfl), by decide +kernel, (fun _ => ⟨rfl, List.mem_of_getElem? (i := 1158) (by decide +kernel)⟩)⟩
theorem fl_X9_19 : FL RX9 19 12 221 (some true) .int := ⟨11, 1, _, _, _, "SlugwireModel$Take", by decide, by decide, rfl, by decide, Or.inl (List.mem_of_getElem? (i := 1160) (by decide +kernel)), Or.inl rfl, (fun b h => by cases h; rfl), by decide +kernel, (fun _ => ⟨rfl, List.mem_of_getElem? (i := 1160) (by decide +kernel)⟩)⟩
theorem fl_X9_22 : FL RX9 22 12 222 (some true) .int := ⟨11, 2, _, _, _, "SlugwireModel$Take", by decide, by decide, rfl, by decide, Or.inl (List.mem_of_getElem? (i := 1163) (by decide +kernel)), Or.inl rfl, (fun b h => by cases h; rfl), by decide +kernel, (fun _ => ⟨rfl, List.mem_of_getElem? (i := 1163) (by decide +kernel)⟩)⟩
theorem fl_X9_25 : FL RX9 25 12 224 (some true) .boolean := ⟨11, 4, _, _, _, "SlugwireModel$Take", by decide, by decide, rfl, by decide, Or.inl (List.mem_of_getElem? (i := 1167) (by decide +kernel)), Or.inl rfl, (fun b h => by cases h; rfl), by decide +kernel, (fun _ => ⟨rfl, List.mem_of_getElem? (i := 1167) (by decide +kernel)⟩)⟩
theorem fl_X9_29 : FL RX9 29 12 225 (some true) .int := ⟨11, 5, _, _, _, "SlugwireModel$Take", by decide, by decide, rfl, by decide, Or.inl (List.mem_of_getElem? (i := 1169) (by decide +kernel)), Or.inl rfl, (fun b h => by cases h; rfl), by decide +kernel, (fun _ => ⟨rfl, List.mem_of_getElem? (i := 1169) (by decide +kernel)⟩)⟩
theorem fl_X9_32 : FL RX9 32 12 226 (some true) .int := ⟨11, 6, _, _, _, "SlugwireModel$Take", by decide, by decide, rfl, by decide, Or.inl (List.mem_of_getElem? (i := 1171) (by decide +kernel)), Or.inl rfl, (fun b h => by cases h; rfl), by decide +kernel, (fun _ => ⟨rfl, List.mem_of_getElem? (i := 1171) (by decide +kernel)⟩)⟩
theorem fl_X9_35 : FL RX9 35 12 227 (some true) .int := ⟨11, 7, _, _, _, "SlugwireModel$Take", by decide, by decide, rfl, by decide, Or.inl (List.mem_of_getElem? (i := 1174) (by decide +kernel)), Or.inl rfl, (fun b h => by cases h; rfl), by decide +kernel, (fun _ => ⟨rfl, List.mem_of_getElem? (i := 1174) (by decide +kernel)⟩)⟩
theorem fl_X9_38 : FL RX9 38 12 228 (some true) .int := ⟨11, 8, _, _, _, "SlugwireModel$Take", by decide, by decide, rfl, by decide, Or.inl (List.mem_of_getElem? (i := 1176) (by decide +kernel)), Or.inl rfl, (fun b h => by cases h; rfl), by decide +kernel, (fun _ => ⟨rfl, List.mem_of_getElem? (i := 1176) (by decide +kernel)⟩)⟩
theorem ml_Jxc12de_1 : ML RJxc12de 1 yJxa1e45_init_da8c8 := Or.inl (List.mem_of_getElem? (i := 887) (by decide +kernel))
theorem ml_Jx4a65c_1 : ML RJx4a65c 1 yJxc12de_init_da8c8 := Or.inl (List.mem_of_getElem? (i := 884) (by decide +kernel))
theorem wc_Jx4a65c_7 : Cond.classLink RJx4a65c 7 "java/lang/Object" ∈ lw_tbl := List.mem_of_getElem? (i := 1042) (by decide +kernel)
theorem fl_Jx4a65c_9 : FL RJx4a65c 9 2 21 (some false) (.array (.object "java/lang/Object")) := ⟨1, 1, _, _, _, "java/util/ArrayList", by decide, by decide, rfl, by decide, Or.inl (List.mem_of_getElem? (i := 893) (by decide +kernel)), Or.inl rfl, (fun b h => by cases h; rfl), by decide +kernel, (fun h => by cases h)⟩
theorem fl_Jx4a65c_48 : FL RJx4a65c 48 2 22 (some false) .int := ⟨1, 2, _, _, _, "java/util/ArrayList", by decide, by decide, rfl, by decide, Or.inl (List.mem_of_getElem? (i := 896) (by decide +kernel)), Or.inl rfl, (fun b h => by cases h; rfl), by decide +kernel, (fun h => by cases h)⟩
theorem ml_Jx4a65c_57 : ML RJx4a65c 57 yJ7_copyOf_6403c := Or.inl (List.mem_of_getElem? (i := 1468) (by decide +kernel))
theorem fl_Jx4a65c_63 : FL RJx4a65c 63 2 20 (some false) .int := ⟨1, 0, _, _, _, "java/util/ArrayList", by decide, by decide, rfl, by decide, Or.inl (List.mem_of_getElem? (i := 900) (by decide +kernel)), Or.inr (List.mem_of_getElem? (i := 899) (by decide +kernel)), (fun b h => by cases h; rfl), by decide +kernel, (fun h => by cases h)⟩
theorem ml_Jx4a65c_66 : ML RJx4a65c 66 yJ7_copyOf_1904c := Or.inl (List.mem_of_getElem? (i := 1010) (by decide +kernel))
theorem ml_Jx4a65c_69 : ML RJx4a65c 69 yJx4a65c_grow_92f84 := Or.inl (List.mem_of_getElem? (i := 998) (by decide +kernel))
theorem ml_Jx4a65c_73 : ML RJx4a65c 73 yJ8_newLength_cabcc := Or.inl (List.mem_of_getElem? (i := 1002) (by decide +kernel))
theorem ml_Jx4a65c_79 : ML RJx4a65c 79 yJ9_max_7cf53 := Or.inl (List.mem_of_getElem? (i := 1041) (by decide +kernel))
theorem ml_Jx4a65c_118 : ML RJx4a65c 118 yJ15_checkIndex_7cf53 := Or.inl (List.mem_of_getElem? (i := 960) (by decide +kernel))
theorem ml_Jx4a65c_123 : ML RJx4a65c 123 yJx4a65c_elementData_915e3 := Or.inl (List.mem_of_getElem? (i := 966) (by decide +kernel))
theorem ml_Jx4a65c_129 : ML RJx4a65c 129 yJx4a65c_grow_d5877 := Or.inl (List.mem_of_getElem? (i := 994) (by decide +kernel))
theorem ml_Jx4a65c_131 : ML RJx4a65c 131 yJx4a65c_add_72be8 := Or.inl (List.mem_of_getElem? (i := 990) (by decide +kernel))
theorem nl_Jx4a65c_267 : NL RJx4a65c 267 1 4 := ⟨0, _, _, by decide, rfl, List.mem_of_getElem? (i := 1231) (by decide +kernel), List.mem_of_getElem? (i := 1232) (by decide +kernel), List.mem_of_getElem? (i := 119) (by decide +kernel)⟩
theorem ml_Jx4a65c_269 : ML RJx4a65c 269 yJx35411_init_45d68 := Or.inl (List.mem_of_getElem? (i := 1233) (by decide +kernel))
theorem fl_Jx35411_1 : FL RJx35411 1 1 3 (some true) (.object "java/util/ArrayList") := ⟨0, 3, _, _, _, "java/util/ArrayList$Itr", by decide, by decide, rfl, by decide, Or.inl (List.mem_of_getElem? (i := 1240) (by decide +kernel)), Or.inl rfl, (fun b h => by cases h; rfl), by decide +kernel, (fun _ => ⟨rfl, List.mem_of_getElem? (i := 1240) (by decide +kernel)⟩)⟩
theorem fl_Jx35411_13 : FL RJx35411 13 1 1 (some false) .int := ⟨0, 1, _, _, _, "java/util/ArrayList$Itr", by decide, by decide, rfl, by decide, Or.inl (List.mem_of_getElem? (i := 1238) (by decide +kernel)), Or.inl rfl, (fun b h => by cases h; rfl), by decide +kernel, (fun h => by cases h)⟩
theorem fl_Jx35411_17 : FL RJx35411 17 2 20 (some false) .int := ⟨1, 0, _, _, _, "java/util/ArrayList", by decide, by decide, rfl, by decide, Or.inl (List.mem_of_getElem? (i := 898) (by decide +kernel)), Or.inr (List.mem_of_getElem? (i := 899) (by decide +kernel)), (fun b h => by cases h; rfl), by decide +kernel, (fun h => by cases h)⟩
theorem fl_Jx35411_22 : FL RJx35411 22 1 2 (some false) .int := ⟨0, 2, _, _, _, "java/util/ArrayList$Itr", by decide, by decide, rfl, by decide, Or.inl (List.mem_of_getElem? (i := 1239) (by decide +kernel)), Or.inl rfl, (fun b h => by cases h; rfl), by decide +kernel, (fun h => by cases h)⟩
theorem fl_Jx35411_25 : FL RJx35411 25 1 0 (some false) .int := ⟨0, 0, _, _, _, "java/util/ArrayList$Itr", by decide, by decide, rfl, by decide, Or.inl (List.mem_of_getElem? (i := 1237) (by decide +kernel)), Or.inl rfl, (fun b h => by cases h; rfl), by decide +kernel, (fun h => by cases h)⟩
theorem fl_Jx35411_28 : FL RJx35411 28 2 22 (some false) .int := ⟨1, 2, _, _, _, "java/util/ArrayList", by decide, by decide, rfl, by decide, Or.inr ⟨"java/util/ArrayList", List.mem_of_getElem? (i := 895) (by decide +kernel)⟩, Or.inl rfl, (fun b h => by cases h; rfl), by decide +kernel, (fun h => by cases h)⟩
theorem ml_Jx35411_31 : ML RJx35411 31 yJx35411_checkForComodification_da8c8 := Or.inl (List.mem_of_getElem? (i := 1269) (by decide +kernel))
theorem fl_Jx35411_37 : FL RJx35411 37 2 21 (some false) (.array (.object "java/lang/Object")) := ⟨1, 1, _, _, _, "java/util/ArrayList", by decide, by decide, rfl, by decide, Or.inl (List.mem_of_getElem? (i := 894) (by decide +kernel)), Or.inl rfl, (fun b h => by cases h; rfl), by decide +kernel, (fun h => by cases h)⟩
theorem wc_J7_2 : Cond.classLink RJ7 2 "java/lang/Object" ∈ lw_tbl := List.mem_of_getElem? (i := 1038) (by decide +kernel)
theorem wc_J7_110 : Cond.classLink RJ7 110 "[Ljava/lang/Object;" ∈ lw_tbl := List.mem_of_getElem? (i := 1036) (by decide +kernel)
theorem ml_J7_300 : ML RJ7 300 yJ7_copyOf_6403c := Or.inl (List.mem_of_getElem? (i := 1033) (by decide +kernel))
theorem ml_J7_304 : ML RJ7 304 yJ9_min_7cf53 := Or.inl (List.mem_of_getElem? (i := 1039) (by decide +kernel))
theorem ml_J15_105 : ML RJ15 105 yJ3_checkIndex_8e157 := Or.inl (List.mem_of_getElem? (i := 963) (by decide +kernel))
theorem ml_J8_194 : ML RJ8 194 yJ9_max_7cf53 := Or.inl (List.mem_of_getElem? (i := 1005) (by decide +kernel))
theorem ml_J8_201 : ML RJ8 201 yJ8_hugeLength_7cf53 := Or.inl (List.mem_of_getElem? (i := 1007) (by decide +kernel))
set_option maxRecDepth 100000 in
theorem mc_X5_init : MI yX5_init cX5_init 2 0 := ⟨List.mem_of_getElem? (i := 123) (by decide +kernel), rfl, tin_1 (List.mem_of_getElem? (i := 33) (by rfl)), List.mem_of_getElem? (i := 92) (by decide +kernel), ⟨by decide +kernel, by decide +kernel⟩, by decide +kernel⟩
set_option maxRecDepth 100000 in
theorem mc_X5_addTake : MV yX5_addTake cX5_addTake 10 (some .int) 6 := ⟨List.mem_of_getElem? (i := 770) (by decide +kernel), List.mem_of_getElem? (i := 47) (by decide +kernel), tin_3 (List.mem_of_getElem? (i := 200) (by rfl)), List.mem_of_getElem? (i := 92) (by decide +kernel), ⟨by decide +kernel, by decide +kernel⟩, by decide +kernel⟩
set_option maxRecDepth 100000 in
theorem mc_X5_areIndependent : MV yX5_areIndependent cX5_areIndependent 3 (some .boolean) 2 := ⟨List.mem_of_getElem? (i := 816) (by decide +kernel), List.mem_of_getElem? (i := 817) (by decide +kernel), tin_4 (List.mem_of_getElem? (i := 7) (by rfl)), List.mem_of_getElem? (i := 92) (by decide +kernel), ⟨by decide +kernel, by decide +kernel⟩, by decide +kernel⟩
set_option maxRecDepth 100000 in
theorem mc_X5_arrives : MV yX5_arrives cX5_arrives 4 (some .int) 2 := ⟨List.mem_of_getElem? (i := 858) (by decide +kernel), List.mem_of_getElem? (i := 859) (by decide +kernel), tin_4 (List.mem_of_getElem? (i := 49) (by rfl)), List.mem_of_getElem? (i := 92) (by decide +kernel), ⟨by decide +kernel, by decide +kernel⟩, by decide +kernel⟩
set_option maxRecDepth 100000 in
theorem mc_X5_checkFact : MV yX5_checkFact cX5_checkFact 3 (none) 2 := ⟨List.mem_of_getElem? (i := 478) (by decide +kernel), List.mem_of_getElem? (i := 17) (by decide +kernel), tin_2 (List.mem_of_getElem? (i := 148) (by rfl)), List.mem_of_getElem? (i := 92) (by decide +kernel), ⟨by decide +kernel, by decide +kernel⟩, by decide +kernel⟩
set_option maxRecDepth 100000 in
theorem mc_X5_checkLine : MV yX5_checkLine cX5_checkLine 2 (none) 1 := ⟨List.mem_of_getElem? (i := 604) (by decide +kernel), List.mem_of_getElem? (i := 32) (by decide +kernel), tin_3 (List.mem_of_getElem? (i := 34) (by rfl)), List.mem_of_getElem? (i := 92) (by decide +kernel), ⟨by decide +kernel, by decide +kernel⟩, by decide +kernel⟩
set_option maxRecDepth 100000 in
theorem mc_X5_checkRoomForTake : MV yX5_checkRoomForTake cX5_checkRoomForTake 1 (none) 0 := ⟨List.mem_of_getElem? (i := 765) (by decide +kernel), List.mem_of_getElem? (i := 46) (by decide +kernel), tin_3 (List.mem_of_getElem? (i := 195) (by rfl)), List.mem_of_getElem? (i := 92) (by decide +kernel), ⟨by decide +kernel, by decide +kernel⟩, by decide +kernel⟩
set_option maxRecDepth 100000 in
theorem mc_X5_checkSource : MV yX5_checkSource cX5_checkSource 2 (none) 1 := ⟨List.mem_of_getElem? (i := 680) (by decide +kernel), List.mem_of_getElem? (i := 43) (by decide +kernel), tin_3 (List.mem_of_getElem? (i := 110) (by rfl)), List.mem_of_getElem? (i := 92) (by decide +kernel), ⟨by decide +kernel, by decide +kernel⟩, by decide +kernel⟩
set_option maxRecDepth 100000 in
theorem mc_X5_checkStory : MV yX5_checkStory cX5_checkStory 2 (none) 1 := ⟨List.mem_of_getElem? (i := 482) (by decide +kernel), List.mem_of_getElem? (i := 18) (by decide +kernel), tin_2 (List.mem_of_getElem? (i := 152) (by rfl)), List.mem_of_getElem? (i := 92) (by decide +kernel), ⟨by decide +kernel, by decide +kernel⟩, by decide +kernel⟩
set_option maxRecDepth 100000 in
theorem mc_X5_checkTake : MV yX5_checkTake cX5_checkTake 2 (none) 1 := ⟨List.mem_of_getElem? (i := 586) (by decide +kernel), List.mem_of_getElem? (i := 30) (by decide +kernel), tin_3 (List.mem_of_getElem? (i := 16) (by rfl)), List.mem_of_getElem? (i := 92) (by decide +kernel), ⟨by decide +kernel, by decide +kernel⟩, by decide +kernel⟩
set_option maxRecDepth 100000 in
theorem mc_X5_checkValue : MS yX5_checkValue cX5_checkValue 1 (none) 1 := ⟨List.mem_of_getElem? (i := 519) (by decide +kernel), tin_2 (List.mem_of_getElem? (i := 189) (by rfl)), List.mem_of_getElem? (i := 92) (by decide +kernel), ⟨by decide +kernel, by decide +kernel⟩, by decide +kernel⟩
set_option maxRecDepth 100000 in
theorem mc_X5_checkWeight : MS yX5_checkWeight cX5_checkWeight 1 (none) 1 := ⟨List.mem_of_getElem? (i := 523) (by decide +kernel), tin_2 (List.mem_of_getElem? (i := 193) (by rfl)), List.mem_of_getElem? (i := 92) (by decide +kernel), ⟨by decide +kernel, by decide +kernel⟩, by decide +kernel⟩
set_option maxRecDepth 100000 in
theorem mc_X5_correct : MV yX5_correct cX5_correct 6 (some .int) 2 := ⟨List.mem_of_getElem? (i := 785) (by decide +kernel), List.mem_of_getElem? (i := 786) (by decide +kernel), tin_3 (List.mem_of_getElem? (i := 216) (by rfl)), List.mem_of_getElem? (i := 92) (by decide +kernel), ⟨by decide +kernel, by decide +kernel⟩, by decide +kernel⟩
set_option maxRecDepth 100000 in
theorem mc_X5_countCorrections : MV yX5_countCorrections cX5_countCorrections 3 (some .int) 0 := ⟨List.mem_of_getElem? (i := 350) (by decide +kernel), List.mem_of_getElem? (i := 2) (by decide +kernel), tin_2 (List.mem_of_getElem? (i := 20) (by rfl)), List.mem_of_getElem? (i := 92) (by decide +kernel), ⟨by decide +kernel, by decide +kernel⟩, by decide +kernel⟩
set_option maxRecDepth 100000 in
theorem mc_X5_countFirsts : MV yX5_countFirsts cX5_countFirsts 4 (some .int) 0 := ⟨List.mem_of_getElem? (i := 362) (by decide +kernel), List.mem_of_getElem? (i := 5) (by decide +kernel), tin_2 (List.mem_of_getElem? (i := 32) (by rfl)), List.mem_of_getElem? (i := 92) (by decide +kernel), ⟨by decide +kernel, by decide +kernel⟩, by decide +kernel⟩
set_option maxRecDepth 100000 in
theorem mc_X5_countKilled : MV yX5_countKilled cX5_countKilled 3 (some .int) 0 := ⟨List.mem_of_getElem? (i := 346) (by decide +kernel), List.mem_of_getElem? (i := 1) (by decide +kernel), tin_2 (List.mem_of_getElem? (i := 16) (by rfl)), List.mem_of_getElem? (i := 92) (by decide +kernel), ⟨by decide +kernel, by decide +kernel⟩, by decide +kernel⟩
set_option maxRecDepth 100000 in
theorem mc_X5_countTold : MV yX5_countTold cX5_countTold 5 (some .int) 1 := ⟨List.mem_of_getElem? (i := 617) (by decide +kernel), List.mem_of_getElem? (i := 35) (by decide +kernel), tin_3 (List.mem_of_getElem? (i := 47) (by rfl)), List.mem_of_getElem? (i := 92) (by decide +kernel), ⟨by decide +kernel, by decide +kernel⟩, by decide +kernel⟩
set_option maxRecDepth 100000 in
theorem mc_X5_countTruths : MV yX5_countTruths cX5_countTruths 3 (some .int) 0 := ⟨List.mem_of_getElem? (i := 354) (by decide +kernel), List.mem_of_getElem? (i := 3) (by decide +kernel), tin_2 (List.mem_of_getElem? (i := 24) (by rfl)), List.mem_of_getElem? (i := 92) (by decide +kernel), ⟨by decide +kernel, by decide +kernel⟩, by decide +kernel⟩
set_option maxRecDepth 100000 in
theorem mc_X5_countUnproven : MV yX5_countUnproven cX5_countUnproven 3 (some .int) 0 := ⟨List.mem_of_getElem? (i := 358) (by decide +kernel), List.mem_of_getElem? (i := 4) (by decide +kernel), tin_2 (List.mem_of_getElem? (i := 28) (by rfl)), List.mem_of_getElem? (i := 92) (by decide +kernel), ⟨by decide +kernel, by decide +kernel⟩, by decide +kernel⟩
set_option maxRecDepth 100000 in
theorem mc_X5_countWrong : MV yX5_countWrong cX5_countWrong 7 (some .int) 1 := ⟨List.mem_of_getElem? (i := 390) (by decide +kernel), List.mem_of_getElem? (i := 12) (by decide +kernel), tin_2 (List.mem_of_getElem? (i := 60) (by rfl)), List.mem_of_getElem? (i := 92) (by decide +kernel), ⟨by decide +kernel, by decide +kernel⟩, by decide +kernel⟩
set_option maxRecDepth 100000 in
theorem mc_X5_countWrongAnywhere : MV yX5_countWrongAnywhere cX5_countWrongAnywhere 3 (some .int) 0 := ⟨List.mem_of_getElem? (i := 386) (by decide +kernel), List.mem_of_getElem? (i := 11) (by decide +kernel), tin_2 (List.mem_of_getElem? (i := 56) (by rfl)), List.mem_of_getElem? (i := 92) (by decide +kernel), ⟨by decide +kernel, by decide +kernel⟩, by decide +kernel⟩
set_option maxRecDepth 100000 in
theorem mc_X5_digest : MV yX5_digest cX5_digest 4 (some .long) 0 := ⟨List.mem_of_getElem? (i := 335) (by decide +kernel), List.mem_of_getElem? (i := 336) (by decide +kernel), tin_2 (List.mem_of_getElem? (i := 6) (by rfl)), List.mem_of_getElem? (i := 92) (by decide +kernel), ⟨by decide +kernel, by decide +kernel⟩, by decide +kernel⟩
set_option maxRecDepth 100000 in
theorem mc_X5_digestDesks : MV yX5_digestDesks cX5_digestDesks 8 (some .long) 1 := ⟨List.mem_of_getElem? (i := 662) (by decide +kernel), List.mem_of_getElem? (i := 42) (by decide +kernel), tin_3 (List.mem_of_getElem? (i := 92) (by rfl)), List.mem_of_getElem? (i := 92) (by decide +kernel), ⟨by decide +kernel, by decide +kernel⟩, by decide +kernel⟩
set_option maxRecDepth 100000 in
theorem mc_X5_digestLines : MV yX5_digestLines cX5_digestLines 7 (some .long) 1 := ⟨List.mem_of_getElem? (i := 596) (by decide +kernel), List.mem_of_getElem? (i := 31) (by decide +kernel), tin_3 (List.mem_of_getElem? (i := 26) (by rfl)), List.mem_of_getElem? (i := 92) (by decide +kernel), ⟨by decide +kernel, by decide +kernel⟩, by decide +kernel⟩
set_option maxRecDepth 100000 in
theorem mc_X5_digestStories : MV yX5_digestStories cX5_digestStories 8 (some .long) 1 := ⟨List.mem_of_getElem? (i := 470) (by decide +kernel), List.mem_of_getElem? (i := 16) (by decide +kernel), tin_2 (List.mem_of_getElem? (i := 140) (by rfl)), List.mem_of_getElem? (i := 92) (by decide +kernel), ⟨by decide +kernel, by decide +kernel⟩, by decide +kernel⟩
set_option maxRecDepth 100000 in
theorem mc_X5_digestTakes : MV yX5_digestTakes cX5_digestTakes 7 (some .long) 1 := ⟨List.mem_of_getElem? (i := 578) (by decide +kernel), List.mem_of_getElem? (i := 29) (by decide +kernel), tin_3 (List.mem_of_getElem? (i := 8) (by rfl)), List.mem_of_getElem? (i := 92) (by decide +kernel), ⟨by decide +kernel, by decide +kernel⟩, by decide +kernel⟩
set_option maxRecDepth 100000 in
theorem mc_X5_down : MV yX5_down cX5_down 4 (some .int) 2 := ⟨List.mem_of_getElem? (i := 751) (by decide +kernel), List.mem_of_getElem? (i := 752) (by decide +kernel), tin_3 (List.mem_of_getElem? (i := 182) (by rfl)), List.mem_of_getElem? (i := 92) (by decide +kernel), ⟨by decide +kernel, by decide +kernel⟩, by decide +kernel⟩
set_option maxRecDepth 100000 in
theorem mc_X5_factAt : MV yX5_factAt cX5_factAt 3 (some (FieldType.object "Slugwire$Fact")) 2 := ⟨List.mem_of_getElem? (i := 382) (by decide +kernel), List.mem_of_getElem? (i := 10) (by decide +kernel), tin_2 (List.mem_of_getElem? (i := 52) (by rfl)), List.mem_of_getElem? (i := 92) (by decide +kernel), ⟨by decide +kernel, by decide +kernel⟩, by decide +kernel⟩
set_option maxRecDepth 100000 in
theorem mc_X5_file : MV yX5_file cX5_file 8 (some .int) 5 := ⟨List.mem_of_getElem? (i := 759) (by decide +kernel), List.mem_of_getElem? (i := 760) (by decide +kernel), tin_3 (List.mem_of_getElem? (i := 190) (by rfl)), List.mem_of_getElem? (i := 92) (by decide +kernel), ⟨by decide +kernel, by decide +kernel⟩, by decide +kernel⟩
set_option maxRecDepth 100000 in
theorem mc_X5_firstHad : MV yX5_firstHad cX5_firstHad 6 (some .int) 2 := ⟨List.mem_of_getElem? (i := 370) (by decide +kernel), List.mem_of_getElem? (i := 7) (by decide +kernel), tin_2 (List.mem_of_getElem? (i := 40) (by rfl)), List.mem_of_getElem? (i := 92) (by decide +kernel), ⟨by decide +kernel, by decide +kernel⟩, by decide +kernel⟩
set_option maxRecDepth 100000 in
theorem mc_X5_firstHadAnywhere : MV yX5_firstHadAnywhere cX5_firstHadAnywhere 5 (some .int) 1 := ⟨List.mem_of_getElem? (i := 374) (by decide +kernel), List.mem_of_getElem? (i := 8) (by decide +kernel), tin_2 (List.mem_of_getElem? (i := 44) (by rfl)), List.mem_of_getElem? (i := 92) (by decide +kernel), ⟨by decide +kernel, by decide +kernel⟩, by decide +kernel⟩
set_option maxRecDepth 100000 in
theorem mc_X5_forceOf : MV yX5_forceOf cX5_forceOf 5 (some .int) 2 := ⟨List.mem_of_getElem? (i := 574) (by decide +kernel), List.mem_of_getElem? (i := 28) (by decide +kernel), tin_3 (List.mem_of_getElem? (i := 4) (by rfl)), List.mem_of_getElem? (i := 92) (by decide +kernel), ⟨by decide +kernel, by decide +kernel⟩, by decide +kernel⟩
set_option maxRecDepth 100000 in
theorem mc_X5_hasValues : MV yX5_hasValues cX5_hasValues 5 (some .boolean) 3 := ⟨List.mem_of_getElem? (i := 554) (by decide +kernel), List.mem_of_getElem? (i := 26) (by decide +kernel), tin_2 (List.mem_of_getElem? (i := 224) (by rfl)), List.mem_of_getElem? (i := 92) (by decide +kernel), ⟨by decide +kernel, by decide +kernel⟩, by decide +kernel⟩
set_option maxRecDepth 100000 in
theorem mc_X5_isDropped : MV yX5_isDropped cX5_isDropped 4 (some .boolean) 2 := ⟨List.mem_of_getElem? (i := 398) (by decide +kernel), List.mem_of_getElem? (i := 14) (by decide +kernel), tin_2 (List.mem_of_getElem? (i := 68) (by rfl)), List.mem_of_getElem? (i := 92) (by decide +kernel), ⟨by decide +kernel, by decide +kernel⟩, by decide +kernel⟩
set_option maxRecDepth 100000 in
theorem mc_X5_isFirst : MV yX5_isFirst cX5_isFirst 5 (some .boolean) 2 := ⟨List.mem_of_getElem? (i := 366) (by decide +kernel), List.mem_of_getElem? (i := 6) (by decide +kernel), tin_2 (List.mem_of_getElem? (i := 36) (by rfl)), List.mem_of_getElem? (i := 92) (by decide +kernel), ⟨by decide +kernel, by decide +kernel⟩, by decide +kernel⟩
set_option maxRecDepth 100000 in
theorem mc_X5_isInSet : MS yX5_isInSet cX5_isInSet 2 (some .boolean) 2 := ⟨List.mem_of_getElem? (i := 557) (by decide +kernel), tin_2 (List.mem_of_getElem? (i := 227) (by rfl)), List.mem_of_getElem? (i := 92) (by decide +kernel), ⟨by decide +kernel, by decide +kernel⟩, by decide +kernel⟩
set_option maxRecDepth 100000 in
theorem mc_X5_kill : MV yX5_kill cX5_kill 5 (some .int) 1 := ⟨List.mem_of_getElem? (i := 794) (by decide +kernel), List.mem_of_getElem? (i := 795) (by decide +kernel), tin_3 (List.mem_of_getElem? (i := 225) (by rfl)), List.mem_of_getElem? (i := 92) (by decide +kernel), ⟨by decide +kernel, by decide +kernel⟩, by decide +kernel⟩
set_option maxRecDepth 100000 in
theorem mc_X5_lead : MV yX5_lead cX5_lead 7 (some .int) 2 := ⟨List.mem_of_getElem? (i := 548) (by decide +kernel), List.mem_of_getElem? (i := 549) (by decide +kernel), tin_2 (List.mem_of_getElem? (i := 219) (by rfl)), List.mem_of_getElem? (i := 92) (by decide +kernel), ⟨by decide +kernel, by decide +kernel⟩, by decide +kernel⟩
set_option maxRecDepth 100000 in
theorem mc_X5_line : MV yX5_line cX5_line 3 (some .int) 2 := ⟨List.mem_of_getElem? (i := 715) (by decide +kernel), List.mem_of_getElem? (i := 716) (by decide +kernel), tin_3 (List.mem_of_getElem? (i := 146) (by rfl)), List.mem_of_getElem? (i := 92) (by decide +kernel), ⟨by decide +kernel, by decide +kernel⟩, by decide +kernel⟩
set_option maxRecDepth 100000 in
theorem mc_X5_many : MV yX5_many cX5_many 2 (some .int) 1 := ⟨List.mem_of_getElem? (i := 341) (by decide +kernel), List.mem_of_getElem? (i := 342) (by decide +kernel), tin_2 (List.mem_of_getElem? (i := 12) (by rfl)), List.mem_of_getElem? (i := 92) (by decide +kernel), ⟨by decide +kernel, by decide +kernel⟩, by decide +kernel⟩
set_option maxRecDepth 100000 in
theorem mc_X5_meanDelay : MV yX5_meanDelay cX5_meanDelay 5 (some .double) 0 := ⟨List.mem_of_getElem? (i := 324) (by decide +kernel), List.mem_of_getElem? (i := 325) (by decide +kernel), tin_1 (List.mem_of_getElem? (i := 235) (by rfl)), List.mem_of_getElem? (i := 92) (by decide +kernel), ⟨by decide +kernel, by decide +kernel⟩, by decide +kernel⟩
set_option maxRecDepth 100000 in
theorem mc_X5_needs : MV yX5_needs cX5_needs 10 (some .int) 4 := ⟨List.mem_of_getElem? (i := 515) (by decide +kernel), List.mem_of_getElem? (i := 516) (by decide +kernel), tin_2 (List.mem_of_getElem? (i := 186) (by rfl)), List.mem_of_getElem? (i := 92) (by decide +kernel), ⟨by decide +kernel, by decide +kernel⟩, by decide +kernel⟩
set_option maxRecDepth 100000 in
theorem mc_X5_ofFact : MV yX5_ofFact cX5_ofFact 5 (some .int) 3 := ⟨List.mem_of_getElem? (i := 473) (by decide +kernel), List.mem_of_getElem? (i := 474) (by decide +kernel), tin_2 (List.mem_of_getElem? (i := 144) (by rfl)), List.mem_of_getElem? (i := 92) (by decide +kernel), ⟨by decide +kernel, by decide +kernel⟩, by decide +kernel⟩
set_option maxRecDepth 100000 in
theorem mc_X5_ofLine : MV yX5_ofLine cX5_ofLine 4 (some .int) 2 := ⟨List.mem_of_getElem? (i := 599) (by decide +kernel), List.mem_of_getElem? (i := 600) (by decide +kernel), tin_3 (List.mem_of_getElem? (i := 30) (by rfl)), List.mem_of_getElem? (i := 92) (by decide +kernel), ⟨by decide +kernel, by decide +kernel⟩, by decide +kernel⟩
set_option maxRecDepth 100000 in
theorem mc_X5_ofTake : MV yX5_ofTake cX5_ofTake 4 (some .int) 2 := ⟨List.mem_of_getElem? (i := 581) (by decide +kernel), List.mem_of_getElem? (i := 582) (by decide +kernel), tin_3 (List.mem_of_getElem? (i := 12) (by rfl)), List.mem_of_getElem? (i := 92) (by decide +kernel), ⟨by decide +kernel, by decide +kernel⟩, by decide +kernel⟩
set_option maxRecDepth 100000 in
theorem mc_X5_pass : MV yX5_pass cX5_pass 5 (some .int) 1 := ⟨List.mem_of_getElem? (i := 806) (by decide +kernel), List.mem_of_getElem? (i := 807) (by decide +kernel), tin_3 (List.mem_of_getElem? (i := 237) (by rfl)), List.mem_of_getElem? (i := 92) (by decide +kernel), ⟨by decide +kernel, by decide +kernel⟩, by decide +kernel⟩
set_option maxRecDepth 100000 in
theorem mc_X5_proof : MV yX5_proof cX5_proof 5 (some .int) 4 := ⟨List.mem_of_getElem? (i := 827) (by decide +kernel), List.mem_of_getElem? (i := 828) (by decide +kernel), tin_4 (List.mem_of_getElem? (i := 18) (by rfl)), List.mem_of_getElem? (i := 92) (by decide +kernel), ⟨by decide +kernel, by decide +kernel⟩, by decide +kernel⟩
set_option maxRecDepth 100000 in
theorem mc_X5_report : MV yX5_report cX5_report 6 (some .int) 4 := ⟨List.mem_of_getElem? (i := 724) (by decide +kernel), List.mem_of_getElem? (i := 725) (by decide +kernel), tin_3 (List.mem_of_getElem? (i := 155) (by rfl)), List.mem_of_getElem? (i := 92) (by decide +kernel), ⟨by decide +kernel, by decide +kernel⟩, by decide +kernel⟩
set_option maxRecDepth 100000 in
theorem mc_X5_retract : MV yX5_retract cX5_retract 6 (some .int) 3 := ⟨List.mem_of_getElem? (i := 736) (by decide +kernel), List.mem_of_getElem? (i := 737) (by decide +kernel), tin_3 (List.mem_of_getElem? (i := 167) (by rfl)), List.mem_of_getElem? (i := 92) (by decide +kernel), ⟨by decide +kernel, by decide +kernel⟩, by decide +kernel⟩
set_option maxRecDepth 100000 in
theorem mc_X5_rival : MV yX5_rival cX5_rival 4 (some .boolean) 2 := ⟨List.mem_of_getElem? (i := 744) (by decide +kernel), List.mem_of_getElem? (i := 745) (by decide +kernel), tin_3 (List.mem_of_getElem? (i := 175) (by rfl)), List.mem_of_getElem? (i := 92) (by decide +kernel), ⟨by decide +kernel, by decide +kernel⟩, by decide +kernel⟩
set_option maxRecDepth 100000 in
theorem mc_X5_runOnAllLines : MV yX5_runOnAllLines cX5_runOnAllLines 3 (none) 1 := ⟨List.mem_of_getElem? (i := 774) (by decide +kernel), List.mem_of_getElem? (i := 48) (by decide +kernel), tin_3 (List.mem_of_getElem? (i := 204) (by rfl)), List.mem_of_getElem? (i := 92) (by decide +kernel), ⟨by decide +kernel, by decide +kernel⟩, by decide +kernel⟩
set_option maxRecDepth 100000 in
theorem mc_X5_says : MV yX5_says cX5_says 3 (some .int) 2 := ⟨List.mem_of_getElem? (i := 591) (by decide +kernel), List.mem_of_getElem? (i := 592) (by decide +kernel), tin_3 (List.mem_of_getElem? (i := 22) (by rfl)), List.mem_of_getElem? (i := 92) (by decide +kernel), ⟨by decide +kernel, by decide +kernel⟩, by decide +kernel⟩
set_option maxRecDepth 100000 in
theorem mc_X5_source : MV yX5_source cX5_source 3 (some .int) 2 := ⟨List.mem_of_getElem? (i := 675) (by decide +kernel), List.mem_of_getElem? (i := 676) (by decide +kernel), tin_3 (List.mem_of_getElem? (i := 106) (by rfl)), List.mem_of_getElem? (i := 92) (by decide +kernel), ⟨by decide +kernel, by decide +kernel⟩, by decide +kernel⟩
set_option maxRecDepth 100000 in
theorem mc_X5_state : MV yX5_state cX5_state 4 (some .int) 2 := ⟨List.mem_of_getElem? (i := 653) (by decide +kernel), List.mem_of_getElem? (i := 654) (by decide +kernel), tin_3 (List.mem_of_getElem? (i := 84) (by rfl)), List.mem_of_getElem? (i := 92) (by decide +kernel), ⟨by decide +kernel, by decide +kernel⟩, by decide +kernel⟩
set_option maxRecDepth 100000 in
theorem mc_X5_story : MV yX5_story cX5_story 1 (some .int) 0 := ⟨List.mem_of_getElem? (i := 707) (by decide +kernel), List.mem_of_getElem? (i := 708) (by decide +kernel), tin_3 (List.mem_of_getElem? (i := 138) (by rfl)), List.mem_of_getElem? (i := 92) (by decide +kernel), ⟨by decide +kernel, by decide +kernel⟩, by decide +kernel⟩
set_option maxRecDepth 100000 in
theorem mc_X5_tells : MV yX5_tells cX5_tells 4 (some .int) 3 := ⟨List.mem_of_getElem? (i := 665) (by decide +kernel), List.mem_of_getElem? (i := 666) (by decide +kernel), tin_3 (List.mem_of_getElem? (i := 96) (by rfl)), List.mem_of_getElem? (i := 92) (by decide +kernel), ⟨by decide +kernel, by decide +kernel⟩, by decide +kernel⟩
set_option maxRecDepth 100000 in
theorem mc_X5_toldAtDesk : MV yX5_toldAtDesk cX5_toldAtDesk 6 (some .int) 3 := ⟨List.mem_of_getElem? (i := 394) (by decide +kernel), List.mem_of_getElem? (i := 13) (by decide +kernel), tin_2 (List.mem_of_getElem? (i := 64) (by rfl)), List.mem_of_getElem? (i := 92) (by decide +kernel), ⟨by decide +kernel, by decide +kernel⟩, by decide +kernel⟩
set_option maxRecDepth 100000 in
theorem mc_X5_wordsFor : MS yX5_wordsFor cX5_wordsFor 2 (some .int) 2 := ⟨List.mem_of_getElem? (i := 564) (by decide +kernel), tin_2 (List.mem_of_getElem? (i := 234) (by rfl)), List.mem_of_getElem? (i := 92) (by decide +kernel), ⟨by decide +kernel, by decide +kernel⟩, by decide +kernel⟩
set_option maxRecDepth 100000 in
theorem mc_X5_wouldArrive : MV yX5_wouldArrive cX5_wouldArrive 4 (some .int) 3 := ⟨List.mem_of_getElem? (i := 621) (by decide +kernel), List.mem_of_getElem? (i := 622) (by decide +kernel), tin_3 (List.mem_of_getElem? (i := 52) (by rfl)), List.mem_of_getElem? (i := 92) (by decide +kernel), ⟨by decide +kernel, by decide +kernel⟩, by decide +kernel⟩
set_option maxRecDepth 100000 in
theorem mc_X0_init : MI yX0_init cX0_init 1 0 := ⟨List.mem_of_getElem? (i := 179) (by decide +kernel), rfl, tin_1 (List.mem_of_getElem? (i := 89) (by rfl)), List.mem_of_getElem? (i := 95) (by decide +kernel), ⟨by decide +kernel, by decide +kernel⟩, by decide +kernel⟩
set_option maxRecDepth 100000 in
theorem mc_X0_countSayers : MV yX0_countSayers cX0_countSayers 3 (some .int) 0 := ⟨List.mem_of_getElem? (i := 503) (by decide +kernel), List.mem_of_getElem? (i := 19) (by decide +kernel), tin_2 (List.mem_of_getElem? (i := 173) (by rfl)), List.mem_of_getElem? (i := 95) (by decide +kernel), ⟨by decide +kernel, by decide +kernel⟩, by decide +kernel⟩
set_option maxRecDepth 100000 in
theorem mc_X0_countValues : MV yX0_countValues cX0_countValues 3 (some .int) 0 := ⟨List.mem_of_getElem? (i := 507) (by decide +kernel), List.mem_of_getElem? (i := 20) (by decide +kernel), tin_2 (List.mem_of_getElem? (i := 177) (by rfl)), List.mem_of_getElem? (i := 95) (by decide +kernel), ⟨by decide +kernel, by decide +kernel⟩, by decide +kernel⟩
set_option maxRecDepth 100000 in
theorem mc_X0_isSaidAhead : MV yX0_isSaidAhead cX0_isSaidAhead 3 (some .boolean) 1 := ⟨List.mem_of_getElem? (i := 511) (by decide +kernel), List.mem_of_getElem? (i := 21) (by decide +kernel), tin_2 (List.mem_of_getElem? (i := 181) (by rfl)), List.mem_of_getElem? (i := 95) (by decide +kernel), ⟨by decide +kernel, by decide +kernel⟩, by decide +kernel⟩
set_option maxRecDepth 100000 in
theorem mc_X0_settle : MV yX0_settle cX0_settle 3 (none) 2 := ⟨List.mem_of_getElem? (i := 729) (by decide +kernel), List.mem_of_getElem? (i := 45) (by decide +kernel), tin_3 (List.mem_of_getElem? (i := 159) (by rfl)), List.mem_of_getElem? (i := 95) (by decide +kernel), ⟨by decide +kernel, by decide +kernel⟩, by decide +kernel⟩
set_option maxRecDepth 100000 in
theorem mc_X0_strongest : MV yX0_strongest cX0_strongest 10 (some .int) 4 := ⟨List.mem_of_getElem? (i := 528) (by decide +kernel), List.mem_of_getElem? (i := 22) (by decide +kernel), tin_2 (List.mem_of_getElem? (i := 198) (by rfl)), List.mem_of_getElem? (i := 95) (by decide +kernel), ⟨by decide +kernel, by decide +kernel⟩, by decide +kernel⟩
set_option maxRecDepth 100000 in
theorem mc_X0_valueToFile : MV yX0_valueToFile cX0_valueToFile 2 (some .int) 1 := ⟨List.mem_of_getElem? (i := 561) (by decide +kernel), List.mem_of_getElem? (i := 27) (by decide +kernel), tin_2 (List.mem_of_getElem? (i := 231) (by rfl)), List.mem_of_getElem? (i := 95) (by decide +kernel), ⟨by decide +kernel, by decide +kernel⟩, by decide +kernel⟩
set_option maxRecDepth 100000 in
theorem mc_X1_init : MI yX1_init cX1_init 1 0 := ⟨List.mem_of_getElem? (i := 254) (by decide +kernel), rfl, tin_1 (List.mem_of_getElem? (i := 164) (by rfl)), List.mem_of_getElem? (i := 98) (by decide +kernel), ⟨by decide +kernel, by decide +kernel⟩, by decide +kernel⟩
set_option maxRecDepth 100000 in
theorem mc_X1_copyFrom : MV yX1_copyFrom cX1_copyFrom 2 (none) 1 := ⟨List.mem_of_getElem? (i := 627) (by decide +kernel), List.mem_of_getElem? (i := 36) (by decide +kernel), tin_3 (List.mem_of_getElem? (i := 57) (by rfl)), List.mem_of_getElem? (i := 98) (by decide +kernel), ⟨by decide +kernel, by decide +kernel⟩, by decide +kernel⟩
set_option maxRecDepth 100000 in
theorem mc_X1_countWaiting : MV yX1_countWaiting cX1_countWaiting 3 (some .int) 0 := ⟨List.mem_of_getElem? (i := 609) (by decide +kernel), List.mem_of_getElem? (i := 33) (by decide +kernel), tin_3 (List.mem_of_getElem? (i := 39) (by rfl)), List.mem_of_getElem? (i := 98) (by decide +kernel), ⟨by decide +kernel, by decide +kernel⟩, by decide +kernel⟩
set_option maxRecDepth 100000 in
theorem mc_X1_countWordsLeft : MV yX1_countWordsLeft cX1_countWordsLeft 3 (some .int) 0 := ⟨List.mem_of_getElem? (i := 613) (by decide +kernel), List.mem_of_getElem? (i := 34) (by decide +kernel), tin_3 (List.mem_of_getElem? (i := 43) (by rfl)), List.mem_of_getElem? (i := 98) (by decide +kernel), ⟨by decide +kernel, by decide +kernel⟩, by decide +kernel⟩
set_option maxRecDepth 100000 in
theorem mc_X1_enqueue : MV yX1_enqueue cX1_enqueue 5 (none) 4 := ⟨List.mem_of_getElem? (i := 634) (by decide +kernel), List.mem_of_getElem? (i := 37) (by decide +kernel), tin_3 (List.mem_of_getElem? (i := 64) (by rfl)), List.mem_of_getElem? (i := 98) (by decide +kernel), ⟨by decide +kernel, by decide +kernel⟩, by decide +kernel⟩
set_option maxRecDepth 100000 in
theorem mc_X1_hasAtDesk : MV yX1_hasAtDesk cX1_hasAtDesk 3 (some .boolean) 2 := ⟨List.mem_of_getElem? (i := 378) (by decide +kernel), List.mem_of_getElem? (i := 9) (by decide +kernel), tin_2 (List.mem_of_getElem? (i := 48) (by rfl)), List.mem_of_getElem? (i := 98) (by decide +kernel), ⟨by decide +kernel, by decide +kernel⟩, by decide +kernel⟩
set_option maxRecDepth 100000 in
theorem mc_X1_isRunning : MV yX1_isRunning cX1_isRunning 2 (some .boolean) 1 := ⟨List.mem_of_getElem? (i := 658) (by decide +kernel), List.mem_of_getElem? (i := 41) (by decide +kernel), tin_3 (List.mem_of_getElem? (i := 88) (by rfl)), List.mem_of_getElem? (i := 98) (by decide +kernel), ⟨by decide +kernel, by decide +kernel⟩, by decide +kernel⟩
set_option maxRecDepth 100000 in
theorem mc_X1_isSent : MV yX1_isSent cX1_isSent 2 (some .boolean) 1 := ⟨List.mem_of_getElem? (i := 329) (by decide +kernel), List.mem_of_getElem? (i := 0) (by decide +kernel), tin_1 (List.mem_of_getElem? (i := 239) (by rfl)), List.mem_of_getElem? (i := 98) (by decide +kernel), ⟨by decide +kernel, by decide +kernel⟩, by decide +kernel⟩
set_option maxRecDepth 100000 in
theorem mc_X1_mostUrgent : MV yX1_mostUrgent cX1_mostUrgent 5 (some .int) 1 := ⟨List.mem_of_getElem? (i := 646) (by decide +kernel), List.mem_of_getElem? (i := 40) (by decide +kernel), tin_3 (List.mem_of_getElem? (i := 76) (by rfl)), List.mem_of_getElem? (i := 98) (by decide +kernel), ⟨by decide +kernel, by decide +kernel⟩, by decide +kernel⟩
set_option maxRecDepth 100000 in
theorem mc_X1_runMinute : MV yX1_runMinute cX1_runMinute 7 (some .int) 1 := ⟨List.mem_of_getElem? (i := 642) (by decide +kernel), List.mem_of_getElem? (i := 39) (by decide +kernel), tin_3 (List.mem_of_getElem? (i := 72) (by rfl)), List.mem_of_getElem? (i := 98) (by decide +kernel), ⟨by decide +kernel, by decide +kernel⟩, by decide +kernel⟩
set_option maxRecDepth 100000 in
theorem mc_X1_runUntilHad : MV yX1_runUntilHad cX1_runUntilHad 4 (some .int) 2 := ⟨List.mem_of_getElem? (i := 638) (by decide +kernel), List.mem_of_getElem? (i := 38) (by decide +kernel), tin_3 (List.mem_of_getElem? (i := 68) (by rfl)), List.mem_of_getElem? (i := 98) (by decide +kernel), ⟨by decide +kernel, by decide +kernel⟩, by decide +kernel⟩
set_option maxRecDepth 100000 in
theorem mc_X1_start : MV yX1_start cX1_start 3 (none) 2 := ⟨List.mem_of_getElem? (i := 778) (by decide +kernel), List.mem_of_getElem? (i := 49) (by decide +kernel), tin_3 (List.mem_of_getElem? (i := 208) (by rfl)), List.mem_of_getElem? (i := 98) (by decide +kernel), ⟨by decide +kernel, by decide +kernel⟩, by decide +kernel⟩
set_option maxRecDepth 100000 in
theorem mc_X1_stop : MV yX1_stop cX1_stop 2 (none) 1 := ⟨List.mem_of_getElem? (i := 800) (by decide +kernel), List.mem_of_getElem? (i := 50) (by decide +kernel), tin_3 (List.mem_of_getElem? (i := 230) (by rfl)), List.mem_of_getElem? (i := 98) (by decide +kernel), ⟨by decide +kernel, by decide +kernel⟩, by decide +kernel⟩
set_option maxRecDepth 100000 in
theorem mc_X2_init : MI yX2_init cX2_init 1 0 := ⟨List.mem_of_getElem? (i := 131) (by decide +kernel), rfl, tin_1 (List.mem_of_getElem? (i := 41) (by rfl)), List.mem_of_getElem? (i := 93) (by decide +kernel), ⟨by decide +kernel, by decide +kernel⟩, by decide +kernel⟩
set_option maxRecDepth 100000 in
theorem mc_X2_add : MV yX2_add cX2_add 4 (some .int) 2 := ⟨List.mem_of_getElem? (i := 701) (by decide +kernel), List.mem_of_getElem? (i := 44) (by decide +kernel), tin_3 (List.mem_of_getElem? (i := 131) (by rfl)), List.mem_of_getElem? (i := 93) (by decide +kernel), ⟨by decide +kernel, by decide +kernel⟩, by decide +kernel⟩
set_option maxRecDepth 100000 in
theorem mc_X3_init : MI yX3_init cX3_init 1 0 := ⟨List.mem_of_getElem? (i := 210) (by decide +kernel), rfl, tin_1 (List.mem_of_getElem? (i := 120) (by rfl)), List.mem_of_getElem? (i := 97) (by decide +kernel), ⟨by decide +kernel, by decide +kernel⟩, by decide +kernel⟩
set_option maxRecDepth 100000 in
theorem mc_X4_init : MI yX4_init cX4_init 1 0 := ⟨List.mem_of_getElem? (i := 154) (by decide +kernel), rfl, tin_1 (List.mem_of_getElem? (i := 64) (by rfl)), List.mem_of_getElem? (i := 94) (by decide +kernel), ⟨by decide +kernel, by decide +kernel⟩, by decide +kernel⟩
set_option maxRecDepth 100000 in
theorem mc_X4_addRoot : MV yX4_addRoot cX4_addRoot 2 (none) 1 := ⟨List.mem_of_getElem? (i := 538) (by decide +kernel), List.mem_of_getElem? (i := 24) (by decide +kernel), tin_2 (List.mem_of_getElem? (i := 208) (by rfl)), List.mem_of_getElem? (i := 94) (by decide +kernel), ⟨by decide +kernel, by decide +kernel⟩, by decide +kernel⟩
set_option maxRecDepth 100000 in
theorem mc_X4_proofGrade : MV yX4_proofGrade cX4_proofGrade 1 (some .int) 0 := ⟨List.mem_of_getElem? (i := 542) (by decide +kernel), List.mem_of_getElem? (i := 25) (by decide +kernel), tin_2 (List.mem_of_getElem? (i := 212) (by rfl)), List.mem_of_getElem? (i := 94) (by decide +kernel), ⟨by decide +kernel, by decide +kernel⟩, by decide +kernel⟩
set_option maxRecDepth 100000 in
theorem mc_X4_weigh : MV yX4_weigh cX4_weigh 6 (none) 3 := ⟨List.mem_of_getElem? (i := 532) (by decide +kernel), List.mem_of_getElem? (i := 23) (by decide +kernel), tin_2 (List.mem_of_getElem? (i := 202) (by rfl)), List.mem_of_getElem? (i := 94) (by decide +kernel), ⟨by decide +kernel, by decide +kernel⟩, by decide +kernel⟩
set_option maxRecDepth 100000 in
theorem mc_X10_init : MI yX10_init cX10_init 1 0 := ⟨List.mem_of_getElem? (i := 876) (by decide +kernel), rfl, tin_4 (List.mem_of_getElem? (i := 66) (by rfl)), List.mem_of_getElem? (i := 99) (by decide +kernel), ⟨by decide +kernel, by decide +kernel⟩, by decide +kernel⟩
set_option maxRecDepth 100000 in
theorem mc_X10_add_ : MS yX10_add_ cX10_add_ 4 (some .long) 2 := ⟨List.mem_of_getElem? (i := 1497) (by decide +kernel), tin_6 (List.mem_of_getElem? (i := 207) (by rfl)), List.mem_of_getElem? (i := 99) (by decide +kernel), ⟨by decide +kernel, by decide +kernel⟩, by decide +kernel⟩
set_option maxRecDepth 100000 in
theorem mc_X10_add : MV yX10_add cX10_add 4 (none) 1 := ⟨List.mem_of_getElem? (i := 1225) (by decide +kernel), List.mem_of_getElem? (i := 67) (by decide +kernel), tin_5 (List.mem_of_getElem? (i := 175) (by rfl)), List.mem_of_getElem? (i := 99) (by decide +kernel), ⟨by decide +kernel, by decide +kernel⟩, by decide +kernel⟩
set_option maxRecDepth 100000 in
theorem mc_X10_areIndependent : MV yX10_areIndependent cX10_areIndependent 3 (some .boolean) 2 := ⟨List.mem_of_getElem? (i := 1310) (by decide +kernel), List.mem_of_getElem? (i := 1311) (by decide +kernel), tin_6 (List.mem_of_getElem? (i := 21) (by rfl)), List.mem_of_getElem? (i := 99) (by decide +kernel), ⟨by decide +kernel, by decide +kernel⟩, by decide +kernel⟩
set_option maxRecDepth 100000 in
theorem mc_X10_arrives : MV yX10_arrives cX10_arrives 3 (some .int) 2 := ⟨List.mem_of_getElem? (i := 1425) (by decide +kernel), List.mem_of_getElem? (i := 1426) (by decide +kernel), tin_6 (List.mem_of_getElem? (i := 136) (by rfl)), List.mem_of_getElem? (i := 99) (by decide +kernel), ⟨by decide +kernel, by decide +kernel⟩, by decide +kernel⟩
set_option maxRecDepth 100000 in
theorem mc_X10_arrivesNow : MV yX10_arrivesNow cX10_arrivesNow 5 (some .int) 3 := ⟨List.mem_of_getElem? (i := 1437) (by decide +kernel), List.mem_of_getElem? (i := 86) (by decide +kernel), tin_6 (List.mem_of_getElem? (i := 147) (by rfl)), List.mem_of_getElem? (i := 99) (by decide +kernel), ⟨by decide +kernel, by decide +kernel⟩, by decide +kernel⟩
set_option maxRecDepth 100000 in
theorem mc_X10_correct : MV yX10_correct cX10_correct 6 (some .int) 2 := ⟨List.mem_of_getElem? (i := 1278) (by decide +kernel), List.mem_of_getElem? (i := 1279) (by decide +kernel), tin_5 (List.mem_of_getElem? (i := 229) (by rfl)), List.mem_of_getElem? (i := 99) (by decide +kernel), ⟨by decide +kernel, by decide +kernel⟩, by decide +kernel⟩
set_option maxRecDepth 100000 in
theorem mc_X10_digest : MV yX10_digest cX10_digest 6 (some .long) 0 := ⟨List.mem_of_getElem? (i := 1492) (by decide +kernel), List.mem_of_getElem? (i := 1493) (by decide +kernel), tin_6 (List.mem_of_getElem? (i := 203) (by rfl)), List.mem_of_getElem? (i := 99) (by decide +kernel), ⟨by decide +kernel, by decide +kernel⟩, by decide +kernel⟩
set_option maxRecDepth 100000 in
theorem mc_X10_down : MV yX10_down cX10_down 4 (some .int) 2 := ⟨List.mem_of_getElem? (i := 1138) (by decide +kernel), List.mem_of_getElem? (i := 1139) (by decide +kernel), tin_5 (List.mem_of_getElem? (i := 89) (by rfl)), List.mem_of_getElem? (i := 99) (by decide +kernel), ⟨by decide +kernel, by decide +kernel⟩, by decide +kernel⟩
set_option maxRecDepth 100000 in
theorem mc_X10_fact : MV yX10_fact cX10_fact 3 (some (FieldType.object "SlugwireModel$Fact")) 2 := ⟨List.mem_of_getElem? (i := 1117) (by decide +kernel), List.mem_of_getElem? (i := 59) (by decide +kernel), tin_5 (List.mem_of_getElem? (i := 67) (by rfl)), List.mem_of_getElem? (i := 99) (by decide +kernel), ⟨by decide +kernel, by decide +kernel⟩, by decide +kernel⟩
set_option maxRecDepth 100000 in
theorem mc_X10_facts : MV yX10_facts cX10_facts 7 (some .int) 1 := ⟨List.mem_of_getElem? (i := 1414) (by decide +kernel), List.mem_of_getElem? (i := 84) (by decide +kernel), tin_6 (List.mem_of_getElem? (i := 124) (by rfl)), List.mem_of_getElem? (i := 99) (by decide +kernel), ⟨by decide +kernel, by decide +kernel⟩, by decide +kernel⟩
set_option maxRecDepth 100000 in
theorem mc_X10_file : MV yX10_file cX10_file 9 (some .int) 5 := ⟨List.mem_of_getElem? (i := 1146) (by decide +kernel), List.mem_of_getElem? (i := 1147) (by decide +kernel), tin_5 (List.mem_of_getElem? (i := 97) (by rfl)), List.mem_of_getElem? (i := 99) (by decide +kernel), ⟨by decide +kernel, by decide +kernel⟩, by decide +kernel⟩
set_option maxRecDepth 100000 in
theorem mc_X10_force : MV yX10_force cX10_force 7 (some .int) 2 := ⟨List.mem_of_getElem? (i := 1220) (by decide +kernel), List.mem_of_getElem? (i := 66) (by decide +kernel), tin_5 (List.mem_of_getElem? (i := 170) (by rfl)), List.mem_of_getElem? (i := 99) (by decide +kernel), ⟨by decide +kernel, by decide +kernel⟩, by decide +kernel⟩
set_option maxRecDepth 100000 in
theorem mc_X10_had : MV yX10_had cX10_had 8 (some .int) 2 := ⟨List.mem_of_getElem? (i := 1329) (by decide +kernel), List.mem_of_getElem? (i := 71) (by decide +kernel), tin_6 (List.mem_of_getElem? (i := 39) (by rfl)), List.mem_of_getElem? (i := 99) (by decide +kernel), ⟨by decide +kernel, by decide +kernel⟩, by decide +kernel⟩
set_option maxRecDepth 100000 in
theorem mc_X10_has : MS yX10_has cX10_has 2 (some .boolean) 2 := ⟨List.mem_of_getElem? (i := 1201) (by decide +kernel), tin_5 (List.mem_of_getElem? (i := 151) (by rfl)), List.mem_of_getElem? (i := 99) (by decide +kernel), ⟨by decide +kernel, by decide +kernel⟩, by decide +kernel⟩
set_option maxRecDepth 100000 in
theorem mc_X10_heard : MV yX10_heard cX10_heard 3 (some .int) 1 := ⟨List.mem_of_getElem? (i := 1205) (by decide +kernel), List.mem_of_getElem? (i := 63) (by decide +kernel), tin_5 (List.mem_of_getElem? (i := 155) (by rfl)), List.mem_of_getElem? (i := 99) (by decide +kernel), ⟨by decide +kernel, by decide +kernel⟩, by decide +kernel⟩
set_option maxRecDepth 100000 in
theorem mc_X10_isDropped : MV yX10_isDropped cX10_isDropped 4 (some .boolean) 2 := ⟨List.mem_of_getElem? (i := 1373) (by decide +kernel), List.mem_of_getElem? (i := 77) (by decide +kernel), tin_6 (List.mem_of_getElem? (i := 83) (by rfl)), List.mem_of_getElem? (i := 99) (by decide +kernel), ⟨by decide +kernel, by decide +kernel⟩, by decide +kernel⟩
set_option maxRecDepth 100000 in
theorem mc_X10_isFirst : MV yX10_isFirst cX10_isFirst 5 (some .boolean) 2 := ⟨List.mem_of_getElem? (i := 1341) (by decide +kernel), List.mem_of_getElem? (i := 73) (by decide +kernel), tin_6 (List.mem_of_getElem? (i := 51) (by rfl)), List.mem_of_getElem? (i := 99) (by decide +kernel), ⟨by decide +kernel, by decide +kernel⟩, by decide +kernel⟩
set_option maxRecDepth 100000 in
theorem mc_X10_isIn : MS yX10_isIn cX10_isIn 3 (some .boolean) 3 := ⟨List.mem_of_getElem? (i := 944) (by decide +kernel), tin_4 (List.mem_of_getElem? (i := 134) (by rfl)), List.mem_of_getElem? (i := 99) (by decide +kernel), ⟨by decide +kernel, by decide +kernel⟩, by decide +kernel⟩
set_option maxRecDepth 100000 in
theorem mc_X10_isNoFact : MV yX10_isNoFact cX10_isNoFact 3 (some .boolean) 2 := ⟨List.mem_of_getElem? (i := 1109) (by decide +kernel), List.mem_of_getElem? (i := 57) (by decide +kernel), tin_5 (List.mem_of_getElem? (i := 59) (by rfl)), List.mem_of_getElem? (i := 99) (by decide +kernel), ⟨by decide +kernel, by decide +kernel⟩, by decide +kernel⟩
set_option maxRecDepth 100000 in
theorem mc_X10_isNoLine : MV yX10_isNoLine cX10_isNoLine 2 (some .boolean) 1 := ⟨List.mem_of_getElem? (i := 1143) (by decide +kernel), List.mem_of_getElem? (i := 62) (by decide +kernel), tin_5 (List.mem_of_getElem? (i := 93) (by rfl)), List.mem_of_getElem? (i := 99) (by decide +kernel), ⟨by decide +kernel, by decide +kernel⟩, by decide +kernel⟩
set_option maxRecDepth 100000 in
theorem mc_X10_isNoSource : MV yX10_isNoSource cX10_isNoSource 2 (some .boolean) 1 := ⟨List.mem_of_getElem? (i := 937) (by decide +kernel), List.mem_of_getElem? (i := 51) (by decide +kernel), tin_4 (List.mem_of_getElem? (i := 127) (by rfl)), List.mem_of_getElem? (i := 99) (by decide +kernel), ⟨by decide +kernel, by decide +kernel⟩, by decide +kernel⟩
set_option maxRecDepth 100000 in
theorem mc_X10_isNoStory : MV yX10_isNoStory cX10_isNoStory 2 (some .boolean) 1 := ⟨List.mem_of_getElem? (i := 1113) (by decide +kernel), List.mem_of_getElem? (i := 58) (by decide +kernel), tin_5 (List.mem_of_getElem? (i := 63) (by rfl)), List.mem_of_getElem? (i := 99) (by decide +kernel), ⟨by decide +kernel, by decide +kernel⟩, by decide +kernel⟩
set_option maxRecDepth 100000 in
theorem mc_X10_isNoTake : MV yX10_isNoTake cX10_isNoTake 2 (some .boolean) 1 := ⟨List.mem_of_getElem? (i := 1283) (by decide +kernel), List.mem_of_getElem? (i := 68) (by decide +kernel), tin_5 (List.mem_of_getElem? (i := 233) (by rfl)), List.mem_of_getElem? (i := 99) (by decide +kernel), ⟨by decide +kernel, by decide +kernel⟩, by decide +kernel⟩
set_option maxRecDepth 100000 in
theorem mc_X10_isSaid : MS yX10_isSaid cX10_isSaid 3 (some .boolean) 2 := ⟨List.mem_of_getElem? (i := 1216) (by decide +kernel), tin_5 (List.mem_of_getElem? (i := 166) (by rfl)), List.mem_of_getElem? (i := 99) (by decide +kernel), ⟨by decide +kernel, by decide +kernel⟩, by decide +kernel⟩
set_option maxRecDepth 100000 in
theorem mc_X10_isTruth : MV yX10_isTruth cX10_isTruth 10 (some .boolean) 4 := ⟨List.mem_of_getElem? (i := 1481) (by decide +kernel), List.mem_of_getElem? (i := 89) (by decide +kernel), tin_6 (List.mem_of_getElem? (i := 191) (by rfl)), List.mem_of_getElem? (i := 99) (by decide +kernel), ⟨by decide +kernel, by decide +kernel⟩, by decide +kernel⟩
set_option maxRecDepth 100000 in
theorem mc_X10_isWith : MV yX10_isWith cX10_isWith 4 (some .boolean) 3 := ⟨List.mem_of_getElem? (i := 1333) (by decide +kernel), List.mem_of_getElem? (i := 72) (by decide +kernel), tin_6 (List.mem_of_getElem? (i := 43) (by rfl)), List.mem_of_getElem? (i := 99) (by decide +kernel), ⟨by decide +kernel, by decide +kernel⟩, by decide +kernel⟩
set_option maxRecDepth 100000 in
theorem mc_X10_kill : MV yX10_kill cX10_kill 5 (some .int) 1 := ⟨List.mem_of_getElem? (i := 1286) (by decide +kernel), List.mem_of_getElem? (i := 1287) (by decide +kernel), tin_5 (List.mem_of_getElem? (i := 237) (by rfl)), List.mem_of_getElem? (i := 99) (by decide +kernel), ⟨by decide +kernel, by decide +kernel⟩, by decide +kernel⟩
set_option maxRecDepth 100000 in
theorem mc_X10_lead : MV yX10_lead cX10_lead 3 (some .int) 2 := ⟨List.mem_of_getElem? (i := 1484) (by decide +kernel), List.mem_of_getElem? (i := 1485) (by decide +kernel), tin_6 (List.mem_of_getElem? (i := 195) (by rfl)), List.mem_of_getElem? (i := 99) (by decide +kernel), ⟨by decide +kernel, by decide +kernel⟩, by decide +kernel⟩
set_option maxRecDepth 100000 in
theorem mc_X10_leadNow : MV yX10_leadNow cX10_leadNow 9 (some .int) 2 := ⟨List.mem_of_getElem? (i := 1489) (by decide +kernel), List.mem_of_getElem? (i := 90) (by decide +kernel), tin_6 (List.mem_of_getElem? (i := 199) (by rfl)), List.mem_of_getElem? (i := 99) (by decide +kernel), ⟨by decide +kernel, by decide +kernel⟩, by decide +kernel⟩
set_option maxRecDepth 100000 in
theorem mc_X10_line : MV yX10_line cX10_line 3 (some .int) 2 := ⟨List.mem_of_getElem? (i := 1064) (by decide +kernel), List.mem_of_getElem? (i := 1065) (by decide +kernel), tin_5 (List.mem_of_getElem? (i := 15) (by rfl)), List.mem_of_getElem? (i := 99) (by decide +kernel), ⟨by decide +kernel, by decide +kernel⟩, by decide +kernel⟩
set_option maxRecDepth 100000 in
theorem mc_X10_many : MV yX10_many cX10_many 2 (some .int) 1 := ⟨List.mem_of_getElem? (i := 1401) (by decide +kernel), List.mem_of_getElem? (i := 1402) (by decide +kernel), tin_6 (List.mem_of_getElem? (i := 112) (by rfl)), List.mem_of_getElem? (i := 99) (by decide +kernel), ⟨by decide +kernel, by decide +kernel⟩, by decide +kernel⟩
set_option maxRecDepth 100000 in
theorem mc_X10_manyNow : MV yX10_manyNow cX10_manyNow 2 (some .int) 1 := ⟨List.mem_of_getElem? (i := 1406) (by decide +kernel), List.mem_of_getElem? (i := 82) (by decide +kernel), tin_6 (List.mem_of_getElem? (i := 116) (by rfl)), List.mem_of_getElem? (i := 99) (by decide +kernel), ⟨by decide +kernel, by decide +kernel⟩, by decide +kernel⟩
set_option maxRecDepth 100000 in
theorem mc_X10_meanDelay : MV yX10_meanDelay cX10_meanDelay 6 (some .double) 0 := ⟨List.mem_of_getElem? (i := 1421) (by decide +kernel), List.mem_of_getElem? (i := 1422) (by decide +kernel), tin_6 (List.mem_of_getElem? (i := 132) (by rfl)), List.mem_of_getElem? (i := 99) (by decide +kernel), ⟨by decide +kernel, by decide +kernel⟩, by decide +kernel⟩
set_option maxRecDepth 100000 in
theorem mc_X10_needs : MV yX10_needs cX10_needs 5 (some .int) 4 := ⟨List.mem_of_getElem? (i := 1472) (by decide +kernel), List.mem_of_getElem? (i := 1473) (by decide +kernel), tin_6 (List.mem_of_getElem? (i := 183) (by rfl)), List.mem_of_getElem? (i := 99) (by decide +kernel), ⟨by decide +kernel, by decide +kernel⟩, by decide +kernel⟩
set_option maxRecDepth 100000 in
theorem mc_X10_needsNow : MV yX10_needsNow cX10_needsNow 6 (some .int) 4 := ⟨List.mem_of_getElem? (i := 1477) (by decide +kernel), List.mem_of_getElem? (i := 88) (by decide +kernel), tin_6 (List.mem_of_getElem? (i := 187) (by rfl)), List.mem_of_getElem? (i := 99) (by decide +kernel), ⟨by decide +kernel, by decide +kernel⟩, by decide +kernel⟩
set_option maxRecDepth 100000 in
theorem mc_X10_ofFact : MV yX10_ofFact cX10_ofFact 4 (some .int) 3 := ⟨List.mem_of_getElem? (i := 1314) (by decide +kernel), List.mem_of_getElem? (i := 1315) (by decide +kernel), tin_6 (List.mem_of_getElem? (i := 25) (by rfl)), List.mem_of_getElem? (i := 99) (by decide +kernel), ⟨by decide +kernel, by decide +kernel⟩, by decide +kernel⟩
set_option maxRecDepth 100000 in
theorem mc_X10_ofFactNow : MV yX10_ofFactNow cX10_ofFactNow 5 (some .int) 3 := ⟨List.mem_of_getElem? (i := 1319) (by decide +kernel), List.mem_of_getElem? (i := 70) (by decide +kernel), tin_6 (List.mem_of_getElem? (i := 29) (by rfl)), List.mem_of_getElem? (i := 99) (by decide +kernel), ⟨by decide +kernel, by decide +kernel⟩, by decide +kernel⟩
set_option maxRecDepth 100000 in
theorem mc_X10_ofLine : MV yX10_ofLine cX10_ofLine 3 (some .int) 2 := ⟨List.mem_of_getElem? (i := 1384) (by decide +kernel), List.mem_of_getElem? (i := 1385) (by decide +kernel), tin_6 (List.mem_of_getElem? (i := 95) (by rfl)), List.mem_of_getElem? (i := 99) (by decide +kernel), ⟨by decide +kernel, by decide +kernel⟩, by decide +kernel⟩
set_option maxRecDepth 100000 in
theorem mc_X10_ofLineNow : MV yX10_ofLineNow cX10_ofLineNow 4 (some .int) 2 := ⟨List.mem_of_getElem? (i := 1389) (by decide +kernel), List.mem_of_getElem? (i := 79) (by decide +kernel), tin_6 (List.mem_of_getElem? (i := 99) (by rfl)), List.mem_of_getElem? (i := 99) (by decide +kernel), ⟨by decide +kernel, by decide +kernel⟩, by decide +kernel⟩
set_option maxRecDepth 100000 in
theorem mc_X10_ofTake : MV yX10_ofTake cX10_ofTake 3 (some .int) 2 := ⟨List.mem_of_getElem? (i := 1348) (by decide +kernel), List.mem_of_getElem? (i := 1349) (by decide +kernel), tin_6 (List.mem_of_getElem? (i := 59) (by rfl)), List.mem_of_getElem? (i := 99) (by decide +kernel), ⟨by decide +kernel, by decide +kernel⟩, by decide +kernel⟩
set_option maxRecDepth 100000 in
theorem mc_X10_ofTakeNow : MV yX10_ofTakeNow cX10_ofTakeNow 5 (some .int) 2 := ⟨List.mem_of_getElem? (i := 1353) (by decide +kernel), List.mem_of_getElem? (i := 74) (by decide +kernel), tin_6 (List.mem_of_getElem? (i := 63) (by rfl)), List.mem_of_getElem? (i := 99) (by decide +kernel), ⟨by decide +kernel, by decide +kernel⟩, by decide +kernel⟩
set_option maxRecDepth 100000 in
theorem mc_X10_pass : MV yX10_pass cX10_pass 6 (some .int) 1 := ⟨List.mem_of_getElem? (i := 1290) (by decide +kernel), List.mem_of_getElem? (i := 1291) (by decide +kernel), tin_6 (List.mem_of_getElem? (i := 1) (by rfl)), List.mem_of_getElem? (i := 99) (by decide +kernel), ⟨by decide +kernel, by decide +kernel⟩, by decide +kernel⟩
set_option maxRecDepth 100000 in
theorem mc_X10_proof_ : MV yX10_proof_ cX10_proof_ 5 (some .int) 4 := ⟨List.mem_of_getElem? (i := 1344) (by decide +kernel), List.mem_of_getElem? (i := 1345) (by decide +kernel), tin_6 (List.mem_of_getElem? (i := 55) (by rfl)), List.mem_of_getElem? (i := 99) (by decide +kernel), ⟨by decide +kernel, by decide +kernel⟩, by decide +kernel⟩
set_option maxRecDepth 100000 in
theorem mc_X10_proof : MV yX10_proof cX10_proof 3 (some .int) 2 := ⟨List.mem_of_getElem? (i := 1122) (by decide +kernel), List.mem_of_getElem? (i := 60) (by decide +kernel), tin_5 (List.mem_of_getElem? (i := 72) (by rfl)), List.mem_of_getElem? (i := 99) (by decide +kernel), ⟨by decide +kernel, by decide +kernel⟩, by decide +kernel⟩
set_option maxRecDepth 100000 in
theorem mc_X10_refuse : MV yX10_refuse cX10_refuse 3 (some .boolean) 2 := ⟨List.mem_of_getElem? (i := 952) (by decide +kernel), List.mem_of_getElem? (i := 53) (by decide +kernel), tin_4 (List.mem_of_getElem? (i := 142) (by rfl)), List.mem_of_getElem? (i := 99) (by decide +kernel), ⟨by decide +kernel, by decide +kernel⟩, by decide +kernel⟩
set_option maxRecDepth 100000 in
theorem mc_X10_report : MV yX10_report cX10_report 5 (some .int) 4 := ⟨List.mem_of_getElem? (i := 1104) (by decide +kernel), List.mem_of_getElem? (i := 1105) (by decide +kernel), tin_5 (List.mem_of_getElem? (i := 55) (by rfl)), List.mem_of_getElem? (i := 99) (by decide +kernel), ⟨by decide +kernel, by decide +kernel⟩, by decide +kernel⟩
set_option maxRecDepth 100000 in
theorem mc_X10_retract : MV yX10_retract cX10_retract 5 (some .int) 3 := ⟨List.mem_of_getElem? (i := 1130) (by decide +kernel), List.mem_of_getElem? (i := 1131) (by decide +kernel), tin_5 (List.mem_of_getElem? (i := 81) (by rfl)), List.mem_of_getElem? (i := 99) (by decide +kernel), ⟨by decide +kernel, by decide +kernel⟩, by decide +kernel⟩
set_option maxRecDepth 100000 in
theorem mc_X10_rival : MV yX10_rival cX10_rival 4 (some .boolean) 2 := ⟨List.mem_of_getElem? (i := 1134) (by decide +kernel), List.mem_of_getElem? (i := 1135) (by decide +kernel), tin_5 (List.mem_of_getElem? (i := 85) (by rfl)), List.mem_of_getElem? (i := 99) (by decide +kernel), ⟨by decide +kernel, by decide +kernel⟩, by decide +kernel⟩
set_option maxRecDepth 100000 in
theorem mc_X10_roots : MV yX10_roots cX10_roots 6 (some .int) 3 := ⟨List.mem_of_getElem? (i := 1126) (by decide +kernel), List.mem_of_getElem? (i := 61) (by decide +kernel), tin_5 (List.mem_of_getElem? (i := 76) (by rfl)), List.mem_of_getElem? (i := 99) (by decide +kernel), ⟨by decide +kernel, by decide +kernel⟩, by decide +kernel⟩
set_option maxRecDepth 100000 in
theorem mc_X10_saying : MS yX10_saying cX10_saying 3 (some .int) 1 := ⟨List.mem_of_getElem? (i := 1322) (by decide +kernel), tin_6 (List.mem_of_getElem? (i := 32) (by rfl)), List.mem_of_getElem? (i := 99) (by decide +kernel), ⟨by decide +kernel, by decide +kernel⟩, by decide +kernel⟩
set_option maxRecDepth 100000 in
theorem mc_X10_says : MV yX10_says cX10_says 3 (some .int) 2 := ⟨List.mem_of_getElem? (i := 1356) (by decide +kernel), List.mem_of_getElem? (i := 1357) (by decide +kernel), tin_6 (List.mem_of_getElem? (i := 67) (by rfl)), List.mem_of_getElem? (i := 99) (by decide +kernel), ⟨by decide +kernel, by decide +kernel⟩, by decide +kernel⟩
set_option maxRecDepth 100000 in
theorem mc_X10_saysNow : MV yX10_saysNow cX10_saysNow 3 (some .int) 2 := ⟨List.mem_of_getElem? (i := 1361) (by decide +kernel), List.mem_of_getElem? (i := 75) (by decide +kernel), tin_6 (List.mem_of_getElem? (i := 71) (by rfl)), List.mem_of_getElem? (i := 99) (by decide +kernel), ⟨by decide +kernel, by decide +kernel⟩, by decide +kernel⟩
set_option maxRecDepth 100000 in
theorem mc_X10_source : MV yX10_source cX10_source 3 (some .int) 2 := ⟨List.mem_of_getElem? (i := 932) (by decide +kernel), List.mem_of_getElem? (i := 933) (by decide +kernel), tin_4 (List.mem_of_getElem? (i := 123) (by rfl)), List.mem_of_getElem? (i := 99) (by decide +kernel), ⟨by decide +kernel, by decide +kernel⟩, by decide +kernel⟩
set_option maxRecDepth 100000 in
theorem mc_X10_start : MV yX10_start cX10_start 3 (some .boolean) 2 := ⟨List.mem_of_getElem? (i := 948) (by decide +kernel), List.mem_of_getElem? (i := 52) (by decide +kernel), tin_4 (List.mem_of_getElem? (i := 138) (by rfl)), List.mem_of_getElem? (i := 99) (by decide +kernel), ⟨by decide +kernel, by decide +kernel⟩, by decide +kernel⟩
set_option maxRecDepth 100000 in
theorem mc_X10_state : MV yX10_state cX10_state 3 (some .int) 2 := ⟨List.mem_of_getElem? (i := 1364) (by decide +kernel), List.mem_of_getElem? (i := 1365) (by decide +kernel), tin_6 (List.mem_of_getElem? (i := 75) (by rfl)), List.mem_of_getElem? (i := 99) (by decide +kernel), ⟨by decide +kernel, by decide +kernel⟩, by decide +kernel⟩
set_option maxRecDepth 100000 in
theorem mc_X10_stateNow : MV yX10_stateNow cX10_stateNow 4 (some .int) 2 := ⟨List.mem_of_getElem? (i := 1369) (by decide +kernel), List.mem_of_getElem? (i := 76) (by decide +kernel), tin_6 (List.mem_of_getElem? (i := 79) (by rfl)), List.mem_of_getElem? (i := 99) (by decide +kernel), ⟨by decide +kernel, by decide +kernel⟩, by decide +kernel⟩
set_option maxRecDepth 100000 in
theorem mc_X10_story : MV yX10_story cX10_story 1 (some .int) 0 := ⟨List.mem_of_getElem? (i := 1044) (by decide +kernel), List.mem_of_getElem? (i := 1045) (by decide +kernel), tin_4 (List.mem_of_getElem? (i := 235) (by rfl)), List.mem_of_getElem? (i := 99) (by decide +kernel), ⟨by decide +kernel, by decide +kernel⟩, by decide +kernel⟩
set_option maxRecDepth 100000 in
theorem mc_X10_strongest : MV yX10_strongest cX10_strongest 7 (some .int) 2 := ⟨List.mem_of_getElem? (i := 1213) (by decide +kernel), List.mem_of_getElem? (i := 65) (by decide +kernel), tin_5 (List.mem_of_getElem? (i := 163) (by rfl)), List.mem_of_getElem? (i := 99) (by decide +kernel), ⟨by decide +kernel, by decide +kernel⟩, by decide +kernel⟩
set_option maxRecDepth 100000 in
theorem mc_X10_takesOf : MV yX10_takesOf cX10_takesOf 5 (some .int) 1 := ⟨List.mem_of_getElem? (i := 1410) (by decide +kernel), List.mem_of_getElem? (i := 83) (by decide +kernel), tin_6 (List.mem_of_getElem? (i := 120) (by rfl)), List.mem_of_getElem? (i := 99) (by decide +kernel), ⟨by decide +kernel, by decide +kernel⟩, by decide +kernel⟩
set_option maxRecDepth 100000 in
theorem mc_X10_tells : MV yX10_tells cX10_tells 4 (some .int) 3 := ⟨List.mem_of_getElem? (i := 1376) (by decide +kernel), List.mem_of_getElem? (i := 1377) (by decide +kernel), tin_6 (List.mem_of_getElem? (i := 87) (by rfl)), List.mem_of_getElem? (i := 99) (by decide +kernel), ⟨by decide +kernel, by decide +kernel⟩, by decide +kernel⟩
set_option maxRecDepth 100000 in
theorem mc_X10_tellsNow : MV yX10_tellsNow cX10_tellsNow 5 (some .int) 3 := ⟨List.mem_of_getElem? (i := 1381) (by decide +kernel), List.mem_of_getElem? (i := 78) (by decide +kernel), tin_6 (List.mem_of_getElem? (i := 91) (by rfl)), List.mem_of_getElem? (i := 99) (by decide +kernel), ⟨by decide +kernel, by decide +kernel⟩, by decide +kernel⟩
set_option maxRecDepth 100000 in
theorem mc_X10_thrown : MV yX10_thrown cX10_thrown 1 (some .int) 0 := ⟨List.mem_of_getElem? (i := 928) (by decide +kernel), List.mem_of_getElem? (i := 929) (by decide +kernel), tin_4 (List.mem_of_getElem? (i := 119) (by rfl)), List.mem_of_getElem? (i := 99) (by decide +kernel), ⟨by decide +kernel, by decide +kernel⟩, by decide +kernel⟩
set_option maxRecDepth 100000 in
theorem mc_X10_told : MV yX10_told cX10_told 8 (some .int) 2 := ⟨List.mem_of_getElem? (i := 1398) (by decide +kernel), List.mem_of_getElem? (i := 81) (by decide +kernel), tin_6 (List.mem_of_getElem? (i := 108) (by rfl)), List.mem_of_getElem? (i := 99) (by decide +kernel), ⟨by decide +kernel, by decide +kernel⟩, by decide +kernel⟩
set_option maxRecDepth 100000 in
theorem mc_X10_truth : MV yX10_truth cX10_truth 2 (some .int) 1 := ⟨List.mem_of_getElem? (i := 1209) (by decide +kernel), List.mem_of_getElem? (i := 64) (by decide +kernel), tin_5 (List.mem_of_getElem? (i := 159) (by rfl)), List.mem_of_getElem? (i := 99) (by decide +kernel), ⟨by decide +kernel, by decide +kernel⟩, by decide +kernel⟩
set_option maxRecDepth 100000 in
theorem mc_X10_values : MS yX10_values cX10_values 3 (some .int) 1 := ⟨List.mem_of_getElem? (i := 1325) (by decide +kernel), tin_6 (List.mem_of_getElem? (i := 35) (by rfl)), List.mem_of_getElem? (i := 99) (by decide +kernel), ⟨by decide +kernel, by decide +kernel⟩, by decide +kernel⟩
set_option maxRecDepth 100000 in
theorem mc_X10_waiting : MV yX10_waiting cX10_waiting 5 (some .int) 2 := ⟨List.mem_of_getElem? (i := 1393) (by decide +kernel), List.mem_of_getElem? (i := 80) (by decide +kernel), tin_6 (List.mem_of_getElem? (i := 103) (by rfl)), List.mem_of_getElem? (i := 99) (by decide +kernel), ⟨by decide +kernel, by decide +kernel⟩, by decide +kernel⟩
set_option maxRecDepth 100000 in
theorem mc_X10_words : MS yX10_words cX10_words 2 (some .int) 2 := ⟨List.mem_of_getElem? (i := 1152) (by decide +kernel), tin_5 (List.mem_of_getElem? (i := 102) (by rfl)), List.mem_of_getElem? (i := 99) (by decide +kernel), ⟨by decide +kernel, by decide +kernel⟩, by decide +kernel⟩
set_option maxRecDepth 100000 in
theorem mc_X10_wouldArrive : MV yX10_wouldArrive cX10_wouldArrive 4 (some .int) 3 := ⟨List.mem_of_getElem? (i := 1440) (by decide +kernel), List.mem_of_getElem? (i := 1441) (by decide +kernel), tin_6 (List.mem_of_getElem? (i := 151) (by rfl)), List.mem_of_getElem? (i := 99) (by decide +kernel), ⟨by decide +kernel, by decide +kernel⟩, by decide +kernel⟩
set_option maxRecDepth 100000 in
theorem mc_X10_wouldArriveNow : MV yX10_wouldArriveNow cX10_wouldArriveNow 6 (some .int) 3 := ⟨List.mem_of_getElem? (i := 1445) (by decide +kernel), List.mem_of_getElem? (i := 87) (by decide +kernel), tin_6 (List.mem_of_getElem? (i := 155) (by rfl)), List.mem_of_getElem? (i := 99) (by decide +kernel), ⟨by decide +kernel, by decide +kernel⟩, by decide +kernel⟩
set_option maxRecDepth 100000 in
theorem mc_X10_wrong : MV yX10_wrong cX10_wrong 3 (some .int) 0 := ⟨List.mem_of_getElem? (i := 1418) (by decide +kernel), List.mem_of_getElem? (i := 85) (by decide +kernel), tin_6 (List.mem_of_getElem? (i := 128) (by rfl)), List.mem_of_getElem? (i := 99) (by decide +kernel), ⟨by decide +kernel, by decide +kernel⟩, by decide +kernel⟩
set_option maxRecDepth 100000 in
theorem mc_X6_init : MI yX6_init cX6_init 2 0 := ⟨List.mem_of_getElem? (i := 1051) (by decide +kernel), rfl, tin_5 (List.mem_of_getElem? (i := 1) (by rfl)), List.mem_of_getElem? (i := 115) (by decide +kernel), ⟨by decide +kernel, by decide +kernel⟩, by decide +kernel⟩
set_option maxRecDepth 100000 in
theorem mc_X7_init : MI yX7_init cX7_init 4 2 := ⟨List.mem_of_getElem? (i := 1070) (by decide +kernel), rfl, tin_5 (List.mem_of_getElem? (i := 20) (by rfl)), List.mem_of_getElem? (i := 116) (by decide +kernel), ⟨by decide +kernel, by decide +kernel⟩, by decide +kernel⟩
set_option maxRecDepth 100000 in
theorem mc_X7_copy : MV yX7_copy cX7_copy 2 (some (FieldType.object "SlugwireModel$Line")) 0 := ⟨List.mem_of_getElem? (i := 1429) (by decide +kernel), List.mem_of_getElem? (i := 1430) (by decide +kernel), tin_6 (List.mem_of_getElem? (i := 140) (by rfl)), List.mem_of_getElem? (i := 116) (by decide +kernel), ⟨by decide +kernel, by decide +kernel⟩, by decide +kernel⟩
set_option maxRecDepth 100000 in
theorem mc_X7_hasIt : MV yX7_hasIt cX7_hasIt 3 (some .boolean) 2 := ⟨List.mem_of_getElem? (i := 1336) (by decide +kernel), List.mem_of_getElem? (i := 1337) (by decide +kernel), tin_6 (List.mem_of_getElem? (i := 47) (by rfl)), List.mem_of_getElem? (i := 116) (by decide +kernel), ⟨by decide +kernel, by decide +kernel⟩, by decide +kernel⟩
set_option maxRecDepth 100000 in
theorem mc_X7_isWaiting : MV yX7_isWaiting cX7_isWaiting 2 (some .boolean) 1 := ⟨List.mem_of_getElem? (i := 1303) (by decide +kernel), List.mem_of_getElem? (i := 1304) (by decide +kernel), tin_6 (List.mem_of_getElem? (i := 14) (by rfl)), List.mem_of_getElem? (i := 116) (by decide +kernel), ⟨by decide +kernel, by decide +kernel⟩, by decide +kernel⟩
set_option maxRecDepth 100000 in
theorem mc_X7_minute : MV yX7_minute cX7_minute 7 (some .int) 2 := ⟨List.mem_of_getElem? (i := 1294) (by decide +kernel), List.mem_of_getElem? (i := 1295) (by decide +kernel), tin_6 (List.mem_of_getElem? (i := 5) (by rfl)), List.mem_of_getElem? (i := 116) (by decide +kernel), ⟨by decide +kernel, by decide +kernel⟩, by decide +kernel⟩
set_option maxRecDepth 100000 in
theorem mc_X7_next : MV yX7_next cX7_next 5 (some .int) 2 := ⟨List.mem_of_getElem? (i := 1299) (by decide +kernel), List.mem_of_getElem? (i := 69) (by decide +kernel), tin_6 (List.mem_of_getElem? (i := 9) (by rfl)), List.mem_of_getElem? (i := 116) (by decide +kernel), ⟨by decide +kernel, by decide +kernel⟩, by decide +kernel⟩
set_option maxRecDepth 100000 in
theorem mc_X7_run : MV yX7_run cX7_run 3 (none) 2 := ⟨List.mem_of_getElem? (i := 1274) (by decide +kernel), List.mem_of_getElem? (i := 1275) (by decide +kernel), tin_5 (List.mem_of_getElem? (i := 225) (by rfl)), List.mem_of_getElem? (i := 116) (by decide +kernel), ⟨by decide +kernel, by decide +kernel⟩, by decide +kernel⟩
set_option maxRecDepth 100000 in
theorem mc_X8_init : MI yX8_init cX8_init 4 3 := ⟨List.mem_of_getElem? (i := 971) (by decide +kernel), rfl, tin_4 (List.mem_of_getElem? (i := 161) (by rfl)), List.mem_of_getElem? (i := 109) (by decide +kernel), ⟨by decide +kernel, by decide +kernel⟩, by decide +kernel⟩
set_option maxRecDepth 100000 in
theorem mc_X9_init : MI yX9_init cX9_init 9 8 := ⟨List.mem_of_getElem? (i := 1155) (by decide +kernel), rfl, tin_5 (List.mem_of_getElem? (i := 105) (by rfl)), List.mem_of_getElem? (i := 118) (by decide +kernel), ⟨by decide +kernel, by decide +kernel⟩, by decide +kernel⟩
set_option maxRecDepth 100000 in
theorem mc_J6_bitCount_0f7a4 : MS yJ6_bitCount_0f7a4 cJ6_bitCount_0f7a4 1 (some .int) 1 := ⟨List.mem_of_getElem? (i := 567) (by decide +kernel), tin_2 (List.mem_of_getElem? (i := 237) (by rfl)), List.mem_of_getElem? (i := 117) (by decide +kernel), ⟨by decide +kernel, by decide +kernel⟩, by decide +kernel⟩
set_option maxRecDepth 100000 in
theorem mc_J9_max_7cf53 : MS yJ9_max_7cf53 cJ9_max_7cf53 2 (some .int) 2 := ⟨List.mem_of_getElem? (i := 332) (by decide +kernel), tin_2 (List.mem_of_getElem? (i := 2) (by rfl)), List.mem_of_getElem? (i := 113) (by decide +kernel), ⟨by decide +kernel, by decide +kernel⟩, by decide +kernel⟩
set_option maxRecDepth 100000 in
theorem mc_J9_min_7cf53 : MS yJ9_min_7cf53 cJ9_min_7cf53 2 (some .int) 2 := ⟨List.mem_of_getElem? (i := 649) (by decide +kernel), tin_3 (List.mem_of_getElem? (i := 79) (by rfl)), List.mem_of_getElem? (i := 113) (by decide +kernel), ⟨by decide +kernel, by decide +kernel⟩, by decide +kernel⟩
set_option maxRecDepth 100000 in
theorem mc_Jxa1e45_init_da8c8 : MI yJxa1e45_init_da8c8 cJxa1e45_init_da8c8 1 0 := ⟨List.mem_of_getElem? (i := 888) (by decide +kernel), rfl, tin_4 (List.mem_of_getElem? (i := 78) (by rfl)), List.mem_of_getElem? (i := 100) (by decide +kernel), ⟨by decide +kernel, by decide +kernel⟩, by decide +kernel⟩
set_option maxRecDepth 100000 in
theorem mc_Jxc12de_init_da8c8 : MI yJxc12de_init_da8c8 cJxc12de_init_da8c8 1 0 := ⟨List.mem_of_getElem? (i := 885) (by decide +kernel), rfl, tin_4 (List.mem_of_getElem? (i := 75) (by rfl)), List.mem_of_getElem? (i := 101) (by decide +kernel), ⟨by decide +kernel, by decide +kernel⟩, by decide +kernel⟩
set_option maxRecDepth 100000 in
theorem mc_Jx4a65c_init_da8c8 : MI yJx4a65c_init_da8c8 cJx4a65c_init_da8c8 1 0 := ⟨List.mem_of_getElem? (i := 882) (by decide +kernel), rfl, tin_4 (List.mem_of_getElem? (i := 72) (by rfl)), List.mem_of_getElem? (i := 102) (by decide +kernel), ⟨by decide +kernel, by decide +kernel⟩, by decide +kernel⟩
set_option maxRecDepth 100000 in
theorem mc_Jx4a65c_init_4bcb3 : MI yJx4a65c_init_4bcb3 cJx4a65c_init_4bcb3 3 1 := ⟨List.mem_of_getElem? (i := 1448) (by decide +kernel), rfl, tin_6 (List.mem_of_getElem? (i := 158) (by rfl)), List.mem_of_getElem? (i := 102) (by decide +kernel), ⟨by decide +kernel, by decide +kernel⟩, by decide +kernel⟩
set_option maxRecDepth 100000 in
theorem mc_Jx4a65c_add_9ea2d : MV yJx4a65c_add_9ea2d cJx4a65c_add_9ea2d 2 (some .boolean) 1 := ⟨List.mem_of_getElem? (i := 987) (by decide +kernel), List.mem_of_getElem? (i := 988) (by decide +kernel), tin_4 (List.mem_of_getElem? (i := 178) (by rfl)), List.mem_of_getElem? (i := 102) (by decide +kernel), ⟨by decide +kernel, by decide +kernel⟩, by decide +kernel⟩
set_option maxRecDepth 100000 in
theorem mc_Jx4a65c_add_72be8 : MV yJx4a65c_add_72be8 cJx4a65c_add_72be8 4 (none) 3 := ⟨List.mem_of_getElem? (i := 992) (by decide +kernel), List.mem_of_getElem? (i := 54) (by decide +kernel), tin_4 (List.mem_of_getElem? (i := 182) (by rfl)), List.mem_of_getElem? (i := 102) (by decide +kernel), ⟨by decide +kernel, by decide +kernel⟩, by decide +kernel⟩
set_option maxRecDepth 100000 in
theorem mc_Jx4a65c_elementData_915e3 : MV yJx4a65c_elementData_915e3 cJx4a65c_elementData_915e3 2 (some (FieldType.object "java/lang/Object")) 1 := ⟨List.mem_of_getElem? (i := 967) (by decide +kernel), List.mem_of_getElem? (i := 968) (by decide +kernel), tin_4 (List.mem_of_getElem? (i := 158) (by rfl)), List.mem_of_getElem? (i := 102) (by decide +kernel), ⟨by decide +kernel, by decide +kernel⟩, by decide +kernel⟩
set_option maxRecDepth 100000 in
theorem mc_Jx4a65c_get_915e3 : MV yJx4a65c_get_915e3 cJx4a65c_get_915e3 2 (some (FieldType.object "java/lang/Object")) 1 := ⟨List.mem_of_getElem? (i := 957) (by decide +kernel), List.mem_of_getElem? (i := 958) (by decide +kernel), tin_4 (List.mem_of_getElem? (i := 148) (by rfl)), List.mem_of_getElem? (i := 102) (by decide +kernel), ⟨by decide +kernel, by decide +kernel⟩, by decide +kernel⟩
set_option maxRecDepth 100000 in
theorem mc_Jx4a65c_grow_d5877 : MV yJx4a65c_grow_d5877 cJx4a65c_grow_d5877 1 (some (FieldType.array (FieldType.object "java/lang/Object"))) 0 := ⟨List.mem_of_getElem? (i := 996) (by decide +kernel), List.mem_of_getElem? (i := 55) (by decide +kernel), tin_4 (List.mem_of_getElem? (i := 186) (by rfl)), List.mem_of_getElem? (i := 102) (by decide +kernel), ⟨by decide +kernel, by decide +kernel⟩, by decide +kernel⟩
set_option maxRecDepth 100000 in
theorem mc_Jx4a65c_grow_92f84 : MV yJx4a65c_grow_92f84 cJx4a65c_grow_92f84 4 (some (FieldType.array (FieldType.object "java/lang/Object"))) 1 := ⟨List.mem_of_getElem? (i := 1000) (by decide +kernel), List.mem_of_getElem? (i := 56) (by decide +kernel), tin_4 (List.mem_of_getElem? (i := 190) (by rfl)), List.mem_of_getElem? (i := 102) (by decide +kernel), ⟨by decide +kernel, by decide +kernel⟩, by decide +kernel⟩
set_option maxRecDepth 100000 in
theorem mc_Jx4a65c_iterator_32c93 : MV yJx4a65c_iterator_32c93 cJx4a65c_iterator_32c93 1 (some (FieldType.object "java/util/Iterator")) 0 := ⟨List.mem_of_getElem? (i := 1228) (by decide +kernel), List.mem_of_getElem? (i := 1229) (by decide +kernel), tin_5 (List.mem_of_getElem? (i := 179) (by rfl)), List.mem_of_getElem? (i := 102) (by decide +kernel), ⟨by decide +kernel, by decide +kernel⟩, by decide +kernel⟩
set_option maxRecDepth 100000 in
theorem mc_Jx4a65c_size_8abf5 : MV yJx4a65c_size_8abf5 cJx4a65c_size_8abf5 1 (some .int) 0 := ⟨List.mem_of_getElem? (i := 940) (by decide +kernel), List.mem_of_getElem? (i := 941) (by decide +kernel), tin_4 (List.mem_of_getElem? (i := 131) (by rfl)), List.mem_of_getElem? (i := 102) (by decide +kernel), ⟨by decide +kernel, by decide +kernel⟩, by decide +kernel⟩
set_option maxRecDepth 100000 in
theorem mc_Jx35411_init_45d68 : MI yJx35411_init_45d68 cJx35411_init_45d68 2 1 := ⟨List.mem_of_getElem? (i := 1234) (by decide +kernel), rfl, tin_5 (List.mem_of_getElem? (i := 184) (by rfl)), List.mem_of_getElem? (i := 119) (by decide +kernel), ⟨by decide +kernel, by decide +kernel⟩, by decide +kernel⟩
set_option maxRecDepth 100000 in
theorem mc_Jx35411_checkForComodification_da8c8 : MV yJx35411_checkForComodification_da8c8 cJx35411_checkForComodification_da8c8 1 (none) 0 := ⟨List.mem_of_getElem? (i := 1270) (by decide +kernel), List.mem_of_getElem? (i := 1271) (by decide +kernel), tin_5 (List.mem_of_getElem? (i := 221) (by rfl)), List.mem_of_getElem? (i := 119) (by decide +kernel), ⟨by decide +kernel, by decide +kernel⟩, by decide +kernel⟩
set_option maxRecDepth 100000 in
theorem mc_J7_copyOf_1904c : MS yJ7_copyOf_1904c cJ7_copyOf_1904c 2 (some (FieldType.array (FieldType.object "java/lang/Object"))) 2 := ⟨List.mem_of_getElem? (i := 1011) (by decide +kernel), tin_4 (List.mem_of_getElem? (i := 201) (by rfl)), List.mem_of_getElem? (i := 96) (by decide +kernel), ⟨by decide +kernel, by decide +kernel⟩, by decide +kernel⟩
set_option maxRecDepth 100000 in
theorem mc_J7_copyOf_6403c : MS yJ7_copyOf_6403c cJ7_copyOf_6403c 4 (some (FieldType.array (FieldType.object "java/lang/Object"))) 3 := ⟨List.mem_of_getElem? (i := 1034) (by decide +kernel), tin_4 (List.mem_of_getElem? (i := 224) (by rfl)), List.mem_of_getElem? (i := 96) (by decide +kernel), ⟨by decide +kernel, by decide +kernel⟩, by decide +kernel⟩
set_option maxRecDepth 100000 in
theorem mc_J7_fill_53178 : MS yJ7_fill_53178 cJ7_fill_53178 4 (none) 2 := ⟨List.mem_of_getElem? (i := 183) (by decide +kernel), tin_1 (List.mem_of_getElem? (i := 93) (by rfl)), List.mem_of_getElem? (i := 96) (by decide +kernel), ⟨by decide +kernel, by decide +kernel⟩, by decide +kernel⟩
set_option maxRecDepth 100000 in
theorem mc_J15_checkIndex_7cf53 : MS yJ15_checkIndex_7cf53 cJ15_checkIndex_7cf53 2 (some .int) 2 := ⟨List.mem_of_getElem? (i := 961) (by decide +kernel), tin_4 (List.mem_of_getElem? (i := 151) (by rfl)), List.mem_of_getElem? (i := 110) (by decide +kernel), ⟨by decide +kernel, by decide +kernel⟩, by decide +kernel⟩
set_option maxRecDepth 100000 in
theorem mc_J8_hugeLength_7cf53 : MS yJ8_hugeLength_7cf53 cJ8_hugeLength_7cf53 3 (some .int) 2 := ⟨List.mem_of_getElem? (i := 1008) (by decide +kernel), tin_4 (List.mem_of_getElem? (i := 198) (by rfl)), List.mem_of_getElem? (i := 112) (by decide +kernel), ⟨by decide +kernel, by decide +kernel⟩, by decide +kernel⟩
set_option maxRecDepth 100000 in
theorem mc_J8_newLength_cabcc : MS yJ8_newLength_cabcc cJ8_newLength_cabcc 4 (some .int) 3 := ⟨List.mem_of_getElem? (i := 1003) (by decide +kernel), tin_4 (List.mem_of_getElem? (i := 193) (by rfl)), List.mem_of_getElem? (i := 112) (by decide +kernel), ⟨by decide +kernel, by decide +kernel⟩, by decide +kernel⟩
set_option maxRecDepth 100000 in
theorem mc_J3_checkIndex_8e157 : MS yJ3_checkIndex_8e157 cJ3_checkIndex_8e157 3 (some .int) 3 := ⟨List.mem_of_getElem? (i := 964) (by decide +kernel), tin_4 (List.mem_of_getElem? (i := 154) (by rfl)), List.mem_of_getElem? (i := 111) (by decide +kernel), ⟨by decide +kernel, by decide +kernel⟩, by decide +kernel⟩
